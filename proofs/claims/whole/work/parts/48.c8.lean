set_option maxHeartbeats 4000000 in
set_option maxRecDepth 100000 in
theorem k_T_beginning (l : Launch) (D : va_G) (T : gT) (κ : gS) (A : Nat → Prop) (b : Nat) (hy0 : b < 6) : Met l y_T_beginning (Cond.code y_T_beginning b_T_beginning 1 (some (.object "java/lang/String")) :: bg_W) ({ frames := 0, cells := 0, slots := 0, locals := 0 }) (sPf κ A D T ([]) [.int (nI b)]) (va_Sq (fun r : Option Nat => r = some (κ.1 (282 + 2 * b)))) 0 0 (fun _ => False) := by
  refine Met.ofW (cc := b_T_beginning) (maxL := 1) (ret := (some (.object "java/lang/String"))) (by decide) rfl ?_
  intro p e s m args below meth c s₁ B hml hv
  obtain ⟨rfl, hP, hK, hF⟩ := hv
  have hx := B.exec
  have hb := B.bytes
  have hr := B.returns
  have hw : ∀ w ∈ bg_W, w.before ([.int (nI b)] : List Value).toArray s = true := fun w h => atoms_spec (ws := (Cond.code y_T_beginning b_T_beginning 1 (some (.object "java/lang/String")) :: bg_W)) B.pre w (List.mem_cons_of_mem _ h)
  have hown : s.vm.findClass "TimeWords" = some m.cls := findClass_of_methodNamed B.named
  have hlocks := B.notSynchronized
  have hS : va_S A s.heap s.heap [] := va_S.rf
  have hl := lv_entry ([.int (nI b)]) (n := 1) (Nat.le_of_ble_eq_true rfl)
  rw [lg_entry_eq]
  generalize (lg_sl ([.int (nI b)]) ++ List.replicate (1 - (lg_sl ([.int (nI b)])).length) Slot.unset).toArray = ls at hl ⊢
  have hl : lv_has ls 1 [(0, .int (nI b))] := hl
  rcases b6 hy0 with rfl | rfl | rfl | rfl | rfl | rfl
  · refine lv_iload_n hx hb d_T_beginning_0 rfl (lv_at hl 0 rfl) ?_
    refine lv_tableIn (tgt := 40) hx hb d_T_beginning_1 (by decide) (by decide) rfl (by decide) ?_
    refine g_ldcw (q := κ.1 (282 + 2 * 0)) hx hb hown (hF.2.2.2.2 (282, "early ") (by decide)) d_T_beginning_40 ?_
    exact W.aret (v := .ref (κ.1 (282 + 2 * 0))) hx hb hr (Or.inl ⟨_, rfl⟩) (Or.inr ⟨_, rfl⟩) (fun t ht hW => ⟨some (κ.1 (282 + 2 * 0)), rfl, rfl, ht⟩) (fun _ h => nomatch h) d_T_beginning_43
  · refine lv_iload_n hx hb d_T_beginning_0 rfl (lv_at hl 0 rfl) ?_
    refine lv_tableIn (tgt := 44) hx hb d_T_beginning_1 (by decide) (by decide) rfl (by decide) ?_
    refine g_ldcw (q := κ.1 (282 + 2 * 1)) hx hb hown (hF.2.2.2.2 (284, "mid ") (by decide)) d_T_beginning_44 ?_
    exact W.aret (v := .ref (κ.1 (282 + 2 * 1))) hx hb hr (Or.inl ⟨_, rfl⟩) (Or.inr ⟨_, rfl⟩) (fun t ht hW => ⟨some (κ.1 (282 + 2 * 1)), rfl, rfl, ht⟩) (fun _ h => nomatch h) d_T_beginning_47
  · refine lv_iload_n hx hb d_T_beginning_0 rfl (lv_at hl 0 rfl) ?_
    refine lv_tableIn (tgt := 48) hx hb d_T_beginning_1 (by decide) (by decide) rfl (by decide) ?_
    refine g_ldcw (q := κ.1 (282 + 2 * 2)) hx hb hown (hF.2.2.2.2 (286, "late ") (by decide)) d_T_beginning_48 ?_
    exact W.aret (v := .ref (κ.1 (282 + 2 * 2))) hx hb hr (Or.inl ⟨_, rfl⟩) (Or.inr ⟨_, rfl⟩) (fun t ht hW => ⟨some (κ.1 (282 + 2 * 2)), rfl, rfl, ht⟩) (fun _ h => nomatch h) d_T_beginning_51
  · refine lv_iload_n hx hb d_T_beginning_0 rfl (lv_at hl 0 rfl) ?_
    refine lv_tableIn (tgt := 52) hx hb d_T_beginning_1 (by decide) (by decide) rfl (by decide) ?_
    refine g_ldcw (q := κ.1 (282 + 2 * 3)) hx hb hown (hF.2.2.2.2 (288, "about ") (by decide)) d_T_beginning_52 ?_
    exact W.aret (v := .ref (κ.1 (282 + 2 * 3))) hx hb hr (Or.inl ⟨_, rfl⟩) (Or.inr ⟨_, rfl⟩) (fun t ht hW => ⟨some (κ.1 (282 + 2 * 3)), rfl, rfl, ht⟩) (fun _ h => nomatch h) d_T_beginning_55
  · refine lv_iload_n hx hb d_T_beginning_0 rfl (lv_at hl 0 rfl) ?_
    refine lv_tableIn (tgt := 56) hx hb d_T_beginning_1 (by decide) (by decide) rfl (by decide) ?_
    refine g_ldcw (q := κ.1 (282 + 2 * 4)) hx hb hown (hF.2.2.2.2 (290, "before ") (by decide)) d_T_beginning_56 ?_
    exact W.aret (v := .ref (κ.1 (282 + 2 * 4))) hx hb hr (Or.inl ⟨_, rfl⟩) (Or.inr ⟨_, rfl⟩) (fun t ht hW => ⟨some (κ.1 (282 + 2 * 4)), rfl, rfl, ht⟩) (fun _ h => nomatch h) d_T_beginning_59
  · refine lv_iload_n hx hb d_T_beginning_0 rfl (lv_at hl 0 rfl) ?_
    refine lv_tableIn (tgt := 60) hx hb d_T_beginning_1 (by decide) (by decide) rfl (by decide) ?_
    refine g_ldcw (q := κ.1 (282 + 2 * 5)) hx hb hown (hF.2.2.2.2 (292, "after ") (by decide)) d_T_beginning_60 ?_
    exact W.aret (v := .ref (κ.1 (282 + 2 * 5))) hx hb hr (Or.inl ⟨_, rfl⟩) (Or.inr ⟨_, rfl⟩) (fun t ht hW => ⟨some (κ.1 (282 + 2 * 5)), rfl, rfl, ht⟩) (fun _ h => nomatch h) d_T_beginning_63

set_option maxHeartbeats 4000000 in
set_option maxRecDepth 100000 in
theorem k_T_beginning_d (l : Launch) (D : va_G) (T : gT) (κ : gS) (A : Nat → Prop) : Met l y_T_beginning (Cond.code y_T_beginning b_T_beginning 1 (some (.object "java/lang/String")) :: bg_W) ({ frames := 0, cells := 0, slots := 0, locals := 0 }) (sPf κ A D T ([]) [.int (-1)]) (va_Sq (fun r : Option Nat => r = some (κ.1 (282 + 2 * 6)))) 0 0 (fun _ => False) := by
  refine Met.ofW (cc := b_T_beginning) (maxL := 1) (ret := (some (.object "java/lang/String"))) (by decide) rfl ?_
  intro p e s m args below meth c s₁ B hml hv
  obtain ⟨rfl, hP, hK, hF⟩ := hv
  have hx := B.exec
  have hb := B.bytes
  have hr := B.returns
  have hw : ∀ w ∈ bg_W, w.before ([.int (-1)] : List Value).toArray s = true := fun w h => atoms_spec (ws := (Cond.code y_T_beginning b_T_beginning 1 (some (.object "java/lang/String")) :: bg_W)) B.pre w (List.mem_cons_of_mem _ h)
  have hown : s.vm.findClass "TimeWords" = some m.cls := findClass_of_methodNamed B.named
  have hlocks := B.notSynchronized
  have hS : va_S A s.heap s.heap [] := va_S.rf
  have hl := lv_entry ([.int (-1)]) (n := 1) (Nat.le_of_ble_eq_true rfl)
  rw [lg_entry_eq]
  generalize (lg_sl ([.int (-1)]) ++ List.replicate (1 - (lg_sl ([.int (-1)])).length) Slot.unset).toArray = ls at hl ⊢
  have hl : lv_has ls 1 [(0, .int (-1))] := hl
  refine lv_iload_n hx hb d_T_beginning_0 rfl (lv_at hl 0 rfl) ?_
  refine lv_tableOut (tgt := 64) hx hb d_T_beginning_1 (by decide) (by decide) ?_
  refine g_ldcw (q := κ.1 (282 + 2 * 6)) hx hb hown (hF.2.2.2.2 (294, "") (by decide)) d_T_beginning_64 ?_
  exact W.aret (v := .ref (κ.1 (282 + 2 * 6))) hx hb hr (Or.inl ⟨_, rfl⟩) (Or.inr ⟨_, rfl⟩) (fun t ht hW => ⟨some (κ.1 (282 + 2 * 6)), rfl, rfl, ht⟩) (fun _ h => nomatch h) d_T_beginning_67

set_option maxHeartbeats 4000000 in
set_option maxRecDepth 100000 in
theorem k_T_yearSaid (l : Launch) (D : va_G) (T : gT) (yo : Nat) (e0 e1 : Int32) (oF oT : Bool) : Met l y_T_yearSaid (Cond.code y_T_yearSaid b_T_yearSaid 1 (some .int) :: bg_W) ({ frames := 0, cells := 0, slots := 0, locals := 0 }) (sP D T ([(yo, .inr (2, [.int e0, .int e1, .int (b2i oF), .int (b2i oT)]))]) [.ref yo]) (vp_Si (fun r : Int32 => r = (if oF = true then e1 + 1 else if oT = true then e0 - 1 else e0))) 0 0 (fun _ => False) := by
  refine Met.ofW (cc := b_T_yearSaid) (maxL := 1) (ret := (some .int)) (by decide) rfl ?_
  intro p e s m args below meth c s₁ B hml hv
  obtain ⟨rfl, hP, hK⟩ := hv
  have hx := B.exec
  have hb := B.bytes
  have hr := B.returns
  have hw : ∀ w ∈ bg_W, w.before ([.ref yo] : List Value).toArray s = true := fun w h => atoms_spec (ws := (Cond.code y_T_yearSaid b_T_yearSaid 1 (some .int) :: bg_W)) B.pre w (List.mem_cons_of_mem _ h)
  have hown : s.vm.findClass "TimeWords" = some m.cls := findClass_of_methodNamed B.named
  have hlocks := B.notSynchronized
  have hl := lv_entry ([.ref yo]) (n := 1) (Nat.le_of_ble_eq_true rfl)
  rw [lg_entry_eq]
  generalize (lg_sl ([.ref yo]) ++ List.replicate (1 - (lg_sl ([.ref yo])).length) Slot.unset).toArray = ls at hl ⊢
  have hl : lv_has ls 1 [(0, .ref yo)] := hl
  refine lv_aload_n hx hb d_T_yearSaid_0 rfl (lv_at hl 0 rfl) ?_
  refine va_get (D := D) (ci := 2) (v := .int (b2i oF)) (C := "TimeWords$Years") (T := F_Y) (N := 4) hx hb hw in_Y hown hK hP 0 rfl rfl 2 (by decide) (hw _ fl_T_319) (fun _ h9 => h9) rfl d_T_yearSaid_1 ?_
  refine lv_if_eq (tgt := 14) hx hb d_T_yearSaid_4 (by decide) (fun c1 => ?_) (fun c1 => ?_)
  · have c1 := b2i_f c1
    refine lv_aload_n hx hb d_T_yearSaid_14 rfl (lv_at hl 0 rfl) ?_
    refine va_get (D := D) (ci := 2) (v := .int (b2i oT)) (C := "TimeWords$Years") (T := F_Y) (N := 4) hx hb hw in_Y hown hK hP 0 rfl rfl 3 (by decide) (hw _ fl_T_323) (fun _ h9 => h9) rfl d_T_yearSaid_15 ?_
    refine lv_if_eq (tgt := 30) hx hb d_T_yearSaid_18 (by decide) (fun c2 => ?_) (fun c2 => ?_)
    · have c2 := b2i_f c2
      refine lv_aload_n hx hb d_T_yearSaid_30 rfl (lv_at hl 0 rfl) ?_
      refine va_get (D := D) (ci := 2) (v := .int e0) (C := "TimeWords$Years") (T := F_Y) (N := 4) hx hb hw in_Y hown hK hP 0 rfl rfl 0 (by decide) (hw _ fl_T_153) (fun _ h9 => h9) rfl d_T_yearSaid_31 ?_
      exact W.iret (v := e0) hx hb hr (fun t ht hW => ⟨e0, rfl, (by simp [*]), ht⟩) (fun _ h => nomatch h) d_T_yearSaid_34
    · have c2 := b2i_t c2
      refine lv_aload_n hx hb d_T_yearSaid_21 rfl (lv_at hl 0 rfl) ?_
      refine va_get (D := D) (ci := 2) (v := .int e0) (C := "TimeWords$Years") (T := F_Y) (N := 4) hx hb hw in_Y hown hK hP 0 rfl rfl 0 (by decide) (hw _ fl_T_153) (fun _ h9 => h9) rfl d_T_yearSaid_22 ?_
      refine lv_iconst (v := 1) hx hb d_T_yearSaid_25 (by decide) ?_
      refine lv_isub hx hb d_T_yearSaid_26 ?_
      refine lv_goto (tgt := 34) hx hb d_T_yearSaid_27 (by decide) ?_
      exact W.iret (v := e0 - 1) hx hb hr (fun t ht hW => ⟨e0 - 1, rfl, (by simp [*]), ht⟩) (fun _ h => nomatch h) d_T_yearSaid_34
  · have c1 := b2i_t c1
    refine lv_aload_n hx hb d_T_yearSaid_7 rfl (lv_at hl 0 rfl) ?_
    refine va_get (D := D) (ci := 2) (v := .int e1) (C := "TimeWords$Years") (T := F_Y) (N := 4) hx hb hw in_Y hown hK hP 0 rfl rfl 1 (by decide) (hw _ fl_T_156) (fun _ h9 => h9) rfl d_T_yearSaid_8 ?_
    refine lv_iconst (v := 1) hx hb d_T_yearSaid_11 (by decide) ?_
    refine lv_iadd hx hb d_T_yearSaid_12 ?_
    exact W.iret (v := e1 + 1) hx hb hr (fun t ht hW => ⟨e1 + 1, rfl, (by simp [*]), ht⟩) (fun _ h => nomatch h) d_T_yearSaid_13

set_option maxHeartbeats 4000000 in
set_option maxRecDepth 100000 in
theorem k_T_relationOf (l : Launch) (D : va_G) (T : gT) (yo : Nat) (e0 e1 : Int32) (oF oT : Bool) (yq : Nat) (e0q e1q : Int32) (oFq oTq : Bool) : Met l y_T_relationOf (Cond.code y_T_relationOf b_T_relationOf 2 (some .int) :: bg_W) ({ frames := 0, cells := 0, slots := 0, locals := 0 }) (sP D T ([(yo, .inr (2, [.int e0, .int e1, .int (b2i oF), .int (b2i oT)])), (yq, .inr (2, [.int e0q, .int e1q, .int (b2i oFq), .int (b2i oTq)]))]) [.ref yo, .ref yq]) (vp_Si (fun r : Int32 => r = c_rl e0 e1 e0q e1q)) 0 0 (fun _ => False) := by
  refine Met.ofW (cc := b_T_relationOf) (maxL := 2) (ret := (some .int)) (by decide) rfl ?_
  intro p e s m args below meth c s₁ B hml hv
  obtain ⟨rfl, hP, hK⟩ := hv
  have hx := B.exec
  have hb := B.bytes
  have hr := B.returns
  have hw : ∀ w ∈ bg_W, w.before ([.ref yo, .ref yq] : List Value).toArray s = true := fun w h => atoms_spec (ws := (Cond.code y_T_relationOf b_T_relationOf 2 (some .int) :: bg_W)) B.pre w (List.mem_cons_of_mem _ h)
  have hown : s.vm.findClass "TimeWords" = some m.cls := findClass_of_methodNamed B.named
  have hlocks := B.notSynchronized
  have hl := lv_entry ([.ref yo, .ref yq]) (n := 2) (Nat.le_of_ble_eq_true rfl)
  rw [lg_entry_eq]
  generalize (lg_sl ([.ref yo, .ref yq]) ++ List.replicate (2 - (lg_sl ([.ref yo, .ref yq])).length) Slot.unset).toArray = ls at hl ⊢
  have hl : lv_has ls 2 [(0, .ref yo), (1, .ref yq)] := hl
  refine lv_aload_n hx hb d_T_relationOf_0 rfl (lv_at hl 0 rfl) ?_
  refine va_get (D := D) (ci := 2) (v := .int e0) (C := "TimeWords$Years") (T := F_Y) (N := 4) hx hb hw in_Y hown hK hP 0 rfl rfl 0 (by decide) (hw _ fl_T_153) (fun _ h9 => h9) rfl d_T_relationOf_1 ?_
  refine lv_aload_n hx hb d_T_relationOf_4 rfl (lv_at hl 1 rfl) ?_
  refine va_get (D := D) (ci := 2) (v := .int e0q) (C := "TimeWords$Years") (T := F_Y) (N := 4) hx hb hw in_Y hown hK hP 1 rfl rfl 0 (by decide) (hw _ fl_T_153) (fun _ h9 => h9) rfl d_T_relationOf_5 ?_
  refine lv_icmp_ne (tgt := 24) hx hb d_T_relationOf_8 (by decide) (fun c1 => ?_) (fun c1 => ?_)
  · refine lv_aload_n hx hb d_T_relationOf_24 rfl (lv_at hl 0 rfl) ?_
    refine va_get (D := D) (ci := 2) (v := .int e0) (C := "TimeWords$Years") (T := F_Y) (N := 4) hx hb hw in_Y hown hK hP 0 rfl rfl 0 (by decide) (hw _ fl_T_153) (fun _ h9 => h9) rfl d_T_relationOf_25 ?_
    refine lv_aload_n hx hb d_T_relationOf_28 rfl (lv_at hl 1 rfl) ?_
    refine va_get (D := D) (ci := 2) (v := .int e0q) (C := "TimeWords$Years") (T := F_Y) (N := 4) hx hb hw in_Y hown hK hP 1 rfl rfl 0 (by decide) (hw _ fl_T_153) (fun _ h9 => h9) rfl d_T_relationOf_29 ?_
    refine lv_icmp_lt (tgt := 48) hx hb d_T_relationOf_32 (by decide) (fun c2 => ?_) (fun c2 => ?_)
    · refine lv_aload_n hx hb d_T_relationOf_48 rfl (lv_at hl 0 rfl) ?_
      refine va_get (D := D) (ci := 2) (v := .int e0) (C := "TimeWords$Years") (T := F_Y) (N := 4) hx hb hw in_Y hown hK hP 0 rfl rfl 0 (by decide) (hw _ fl_T_153) (fun _ h9 => h9) rfl d_T_relationOf_49 ?_
      refine lv_aload_n hx hb d_T_relationOf_52 rfl (lv_at hl 1 rfl) ?_
      refine va_get (D := D) (ci := 2) (v := .int e0q) (C := "TimeWords$Years") (T := F_Y) (N := 4) hx hb hw in_Y hown hK hP 1 rfl rfl 0 (by decide) (hw _ fl_T_153) (fun _ h9 => h9) rfl d_T_relationOf_53 ?_
      refine lv_icmp_gt (tgt := 72) hx hb d_T_relationOf_56 (by decide) (fun c3 => ?_) (fun c3 => ?_)
      · refine lv_aload_n hx hb d_T_relationOf_72 rfl (lv_at hl 0 rfl) ?_
        refine va_get (D := D) (ci := 2) (v := .int e0) (C := "TimeWords$Years") (T := F_Y) (N := 4) hx hb hw in_Y hown hK hP 0 rfl rfl 0 (by decide) (hw _ fl_T_153) (fun _ h9 => h9) rfl d_T_relationOf_73 ?_
        refine lv_aload_n hx hb d_T_relationOf_76 rfl (lv_at hl 1 rfl) ?_
        refine va_get (D := D) (ci := 2) (v := .int e0q) (C := "TimeWords$Years") (T := F_Y) (N := 4) hx hb hw in_Y hown hK hP 1 rfl rfl 0 (by decide) (hw _ fl_T_153) (fun _ h9 => h9) rfl d_T_relationOf_77 ?_
        refine lv_icmp_le (tgt := 86) hx hb d_T_relationOf_80 (by decide) (fun c4 => ?_) (fun c4 => ?_)
        · refine lv_aload_n hx hb d_T_relationOf_86 rfl (lv_at hl 0 rfl) ?_
          refine va_get (D := D) (ci := 2) (v := .int e1) (C := "TimeWords$Years") (T := F_Y) (N := 4) hx hb hw in_Y hown hK hP 0 rfl rfl 1 (by decide) (hw _ fl_T_156) (fun _ h9 => h9) rfl d_T_relationOf_87 ?_
          refine lv_iconst (v := 1) hx hb d_T_relationOf_90 (by decide) ?_
          refine lv_iadd hx hb d_T_relationOf_91 ?_
          refine lv_aload_n hx hb d_T_relationOf_92 rfl (lv_at hl 1 rfl) ?_
          refine va_get (D := D) (ci := 2) (v := .int e0q) (C := "TimeWords$Years") (T := F_Y) (N := 4) hx hb hw in_Y hown hK hP 1 rfl rfl 0 (by decide) (hw _ fl_T_153) (fun _ h9 => h9) rfl d_T_relationOf_93 ?_
          refine lv_icmp_ge (tgt := 101) hx hb d_T_relationOf_96 (by decide) (fun c5 => ?_) (fun c5 => ?_)
          · refine lv_aload_n hx hb d_T_relationOf_101 rfl (lv_at hl 0 rfl) ?_
            refine va_get (D := D) (ci := 2) (v := .int e1) (C := "TimeWords$Years") (T := F_Y) (N := 4) hx hb hw in_Y hown hK hP 0 rfl rfl 1 (by decide) (hw _ fl_T_156) (fun _ h9 => h9) rfl d_T_relationOf_102 ?_
            refine lv_iconst (v := 1) hx hb d_T_relationOf_105 (by decide) ?_
            refine lv_iadd hx hb d_T_relationOf_106 ?_
            refine lv_aload_n hx hb d_T_relationOf_107 rfl (lv_at hl 1 rfl) ?_
            refine va_get (D := D) (ci := 2) (v := .int e0q) (C := "TimeWords$Years") (T := F_Y) (N := 4) hx hb hw in_Y hown hK hP 1 rfl rfl 0 (by decide) (hw _ fl_T_153) (fun _ h9 => h9) rfl d_T_relationOf_108 ?_
            refine lv_icmp_ne (tgt := 118) hx hb d_T_relationOf_111 (by decide) (fun c6 => ?_) (fun c6 => ?_)
            · refine lv_iconst (v := 2) hx hb d_T_relationOf_118 (by decide) ?_
              exact W.iret (v := 2) hx hb hr (fun t ht hW => ⟨2, rfl, (by simp only [c_rl, c_rl2, c_rl3, c_rl4, c_rl5, if_neg c1, decide_eq_false c1, if_pos c2, decide_eq_true c2, if_pos c3, decide_eq_true c3, if_pos c4, decide_eq_true c4, if_pos c5, decide_eq_true c5, if_neg c6, decide_eq_false c6]), ht⟩) (fun _ h => nomatch h) d_T_relationOf_119
            · refine lv_iconst (v := 1) hx hb d_T_relationOf_114 (by decide) ?_
              refine lv_goto (tgt := 119) hx hb d_T_relationOf_115 (by decide) ?_
              exact W.iret (v := 1) hx hb hr (fun t ht hW => ⟨1, rfl, (by simp only [c_rl, c_rl2, c_rl3, c_rl4, c_rl5, if_neg c1, decide_eq_false c1, if_pos c2, decide_eq_true c2, if_pos c3, decide_eq_true c3, if_pos c4, decide_eq_true c4, if_pos c5, decide_eq_true c5, if_pos c6, decide_eq_true c6]), ht⟩) (fun _ h => nomatch h) d_T_relationOf_119
          · refine lv_iconst (v := 0) hx hb d_T_relationOf_99 (by decide) ?_
            exact W.iret (v := 0) hx hb hr (fun t ht hW => ⟨0, rfl, (by simp only [c_rl, c_rl2, c_rl3, c_rl4, c_rl5, if_neg c1, decide_eq_false c1, if_pos c2, decide_eq_true c2, if_pos c3, decide_eq_true c3, if_pos c4, decide_eq_true c4, if_neg c5, decide_eq_false c5]), ht⟩) (fun _ h => nomatch h) d_T_relationOf_100
        · refine lv_bipush (v := 6) hx hb d_T_relationOf_83 (by decide) ?_
          exact W.iret (v := 6) hx hb hr (fun t ht hW => ⟨6, rfl, (by simp only [c_rl, c_rl2, c_rl3, c_rl4, c_rl5, if_neg c1, decide_eq_false c1, if_pos c2, decide_eq_true c2, if_pos c3, decide_eq_true c3, if_neg c4, decide_eq_false c4]), ht⟩) (fun _ h => nomatch h) d_T_relationOf_85
      · refine lv_aload_n hx hb d_T_relationOf_59 rfl (lv_at hl 0 rfl) ?_
        refine va_get (D := D) (ci := 2) (v := .int e1) (C := "TimeWords$Years") (T := F_Y) (N := 4) hx hb hw in_Y hown hK hP 0 rfl rfl 1 (by decide) (hw _ fl_T_156) (fun _ h9 => h9) rfl d_T_relationOf_60 ?_
        refine lv_aload_n hx hb d_T_relationOf_63 rfl (lv_at hl 1 rfl) ?_
        refine va_get (D := D) (ci := 2) (v := .int e1q) (C := "TimeWords$Years") (T := F_Y) (N := 4) hx hb hw in_Y hown hK hP 1 rfl rfl 1 (by decide) (hw _ fl_T_156) (fun _ h9 => h9) rfl d_T_relationOf_64 ?_
        refine lv_icmp_lt (tgt := 72) hx hb d_T_relationOf_67 (by decide) (fun c7 => ?_) (fun c7 => ?_)
        · refine lv_aload_n hx hb d_T_relationOf_72 rfl (lv_at hl 0 rfl) ?_
          refine va_get (D := D) (ci := 2) (v := .int e0) (C := "TimeWords$Years") (T := F_Y) (N := 4) hx hb hw in_Y hown hK hP 0 rfl rfl 0 (by decide) (hw _ fl_T_153) (fun _ h9 => h9) rfl d_T_relationOf_73 ?_
          refine lv_aload_n hx hb d_T_relationOf_76 rfl (lv_at hl 1 rfl) ?_
          refine va_get (D := D) (ci := 2) (v := .int e0q) (C := "TimeWords$Years") (T := F_Y) (N := 4) hx hb hw in_Y hown hK hP 1 rfl rfl 0 (by decide) (hw _ fl_T_153) (fun _ h9 => h9) rfl d_T_relationOf_77 ?_
          refine lv_icmp_le (tgt := 86) hx hb d_T_relationOf_80 (by decide) (fun c8 => ?_) (fun c8 => ?_)
          · refine lv_aload_n hx hb d_T_relationOf_86 rfl (lv_at hl 0 rfl) ?_
            refine va_get (D := D) (ci := 2) (v := .int e1) (C := "TimeWords$Years") (T := F_Y) (N := 4) hx hb hw in_Y hown hK hP 0 rfl rfl 1 (by decide) (hw _ fl_T_156) (fun _ h9 => h9) rfl d_T_relationOf_87 ?_
            refine lv_iconst (v := 1) hx hb d_T_relationOf_90 (by decide) ?_
            refine lv_iadd hx hb d_T_relationOf_91 ?_
            refine lv_aload_n hx hb d_T_relationOf_92 rfl (lv_at hl 1 rfl) ?_
            refine va_get (D := D) (ci := 2) (v := .int e0q) (C := "TimeWords$Years") (T := F_Y) (N := 4) hx hb hw in_Y hown hK hP 1 rfl rfl 0 (by decide) (hw _ fl_T_153) (fun _ h9 => h9) rfl d_T_relationOf_93 ?_
            refine lv_icmp_ge (tgt := 101) hx hb d_T_relationOf_96 (by decide) (fun c9 => ?_) (fun c9 => ?_)
            · refine lv_aload_n hx hb d_T_relationOf_101 rfl (lv_at hl 0 rfl) ?_
              refine va_get (D := D) (ci := 2) (v := .int e1) (C := "TimeWords$Years") (T := F_Y) (N := 4) hx hb hw in_Y hown hK hP 0 rfl rfl 1 (by decide) (hw _ fl_T_156) (fun _ h9 => h9) rfl d_T_relationOf_102 ?_
              refine lv_iconst (v := 1) hx hb d_T_relationOf_105 (by decide) ?_
              refine lv_iadd hx hb d_T_relationOf_106 ?_
              refine lv_aload_n hx hb d_T_relationOf_107 rfl (lv_at hl 1 rfl) ?_
              refine va_get (D := D) (ci := 2) (v := .int e0q) (C := "TimeWords$Years") (T := F_Y) (N := 4) hx hb hw in_Y hown hK hP 1 rfl rfl 0 (by decide) (hw _ fl_T_153) (fun _ h9 => h9) rfl d_T_relationOf_108 ?_
              refine lv_icmp_ne (tgt := 118) hx hb d_T_relationOf_111 (by decide) (fun c10 => ?_) (fun c10 => ?_)
              · refine lv_iconst (v := 2) hx hb d_T_relationOf_118 (by decide) ?_
                exact W.iret (v := 2) hx hb hr (fun t ht hW => ⟨2, rfl, (by simp only [c_rl, c_rl2, c_rl3, c_rl4, c_rl5, if_neg c1, decide_eq_false c1, if_pos c2, decide_eq_true c2, if_neg c3, decide_eq_false c3, if_pos c7, decide_eq_true c7, if_pos c8, decide_eq_true c8, if_pos c9, decide_eq_true c9, if_neg c10, decide_eq_false c10]), ht⟩) (fun _ h => nomatch h) d_T_relationOf_119
              · refine lv_iconst (v := 1) hx hb d_T_relationOf_114 (by decide) ?_
                refine lv_goto (tgt := 119) hx hb d_T_relationOf_115 (by decide) ?_
                exact W.iret (v := 1) hx hb hr (fun t ht hW => ⟨1, rfl, (by simp only [c_rl, c_rl2, c_rl3, c_rl4, c_rl5, if_neg c1, decide_eq_false c1, if_pos c2, decide_eq_true c2, if_neg c3, decide_eq_false c3, if_pos c7, decide_eq_true c7, if_pos c8, decide_eq_true c8, if_pos c9, decide_eq_true c9, if_pos c10, decide_eq_true c10]), ht⟩) (fun _ h => nomatch h) d_T_relationOf_119
            · refine lv_iconst (v := 0) hx hb d_T_relationOf_99 (by decide) ?_
              exact W.iret (v := 0) hx hb hr (fun t ht hW => ⟨0, rfl, (by simp only [c_rl, c_rl2, c_rl3, c_rl4, c_rl5, if_neg c1, decide_eq_false c1, if_pos c2, decide_eq_true c2, if_neg c3, decide_eq_false c3, if_pos c7, decide_eq_true c7, if_pos c8, decide_eq_true c8, if_neg c9, decide_eq_false c9]), ht⟩) (fun _ h => nomatch h) d_T_relationOf_100
          · refine lv_bipush (v := 6) hx hb d_T_relationOf_83 (by decide) ?_
            exact W.iret (v := 6) hx hb hr (fun t ht hW => ⟨6, rfl, (by simp only [c_rl, c_rl2, c_rl3, c_rl4, c_rl5, if_neg c1, decide_eq_false c1, if_pos c2, decide_eq_true c2, if_neg c3, decide_eq_false c3, if_pos c7, decide_eq_true c7, if_neg c8, decide_eq_false c8]), ht⟩) (fun _ h => nomatch h) d_T_relationOf_85
        · refine lv_iconst (v := 5) hx hb d_T_relationOf_70 (by decide) ?_
          exact W.iret (v := 5) hx hb hr (fun t ht hW => ⟨5, rfl, (by simp only [c_rl, c_rl2, c_rl3, c_rl4, c_rl5, if_neg c1, decide_eq_false c1, if_pos c2, decide_eq_true c2, if_neg c3, decide_eq_false c3, if_neg c7, decide_eq_false c7]), ht⟩) (fun _ h => nomatch h) d_T_relationOf_71
    · refine lv_aload_n hx hb d_T_relationOf_35 rfl (lv_at hl 0 rfl) ?_
      refine va_get (D := D) (ci := 2) (v := .int e1) (C := "TimeWords$Years") (T := F_Y) (N := 4) hx hb hw in_Y hown hK hP 0 rfl rfl 1 (by decide) (hw _ fl_T_156) (fun _ h9 => h9) rfl d_T_relationOf_36 ?_
      refine lv_aload_n hx hb d_T_relationOf_39 rfl (lv_at hl 1 rfl) ?_
      refine va_get (D := D) (ci := 2) (v := .int e1q) (C := "TimeWords$Years") (T := F_Y) (N := 4) hx hb hw in_Y hown hK hP 1 rfl rfl 1 (by decide) (hw _ fl_T_156) (fun _ h9 => h9) rfl d_T_relationOf_40 ?_
      refine lv_icmp_gt (tgt := 48) hx hb d_T_relationOf_43 (by decide) (fun c11 => ?_) (fun c11 => ?_)
      · refine lv_aload_n hx hb d_T_relationOf_48 rfl (lv_at hl 0 rfl) ?_
        refine va_get (D := D) (ci := 2) (v := .int e0) (C := "TimeWords$Years") (T := F_Y) (N := 4) hx hb hw in_Y hown hK hP 0 rfl rfl 0 (by decide) (hw _ fl_T_153) (fun _ h9 => h9) rfl d_T_relationOf_49 ?_
        refine lv_aload_n hx hb d_T_relationOf_52 rfl (lv_at hl 1 rfl) ?_
        refine va_get (D := D) (ci := 2) (v := .int e0q) (C := "TimeWords$Years") (T := F_Y) (N := 4) hx hb hw in_Y hown hK hP 1 rfl rfl 0 (by decide) (hw _ fl_T_153) (fun _ h9 => h9) rfl d_T_relationOf_53 ?_
        refine lv_icmp_gt (tgt := 72) hx hb d_T_relationOf_56 (by decide) (fun c12 => ?_) (fun c12 => ?_)
        · refine lv_aload_n hx hb d_T_relationOf_72 rfl (lv_at hl 0 rfl) ?_
          refine va_get (D := D) (ci := 2) (v := .int e0) (C := "TimeWords$Years") (T := F_Y) (N := 4) hx hb hw in_Y hown hK hP 0 rfl rfl 0 (by decide) (hw _ fl_T_153) (fun _ h9 => h9) rfl d_T_relationOf_73 ?_
          refine lv_aload_n hx hb d_T_relationOf_76 rfl (lv_at hl 1 rfl) ?_
          refine va_get (D := D) (ci := 2) (v := .int e0q) (C := "TimeWords$Years") (T := F_Y) (N := 4) hx hb hw in_Y hown hK hP 1 rfl rfl 0 (by decide) (hw _ fl_T_153) (fun _ h9 => h9) rfl d_T_relationOf_77 ?_
          refine lv_icmp_le (tgt := 86) hx hb d_T_relationOf_80 (by decide) (fun c13 => ?_) (fun c13 => ?_)
          · refine lv_aload_n hx hb d_T_relationOf_86 rfl (lv_at hl 0 rfl) ?_
            refine va_get (D := D) (ci := 2) (v := .int e1) (C := "TimeWords$Years") (T := F_Y) (N := 4) hx hb hw in_Y hown hK hP 0 rfl rfl 1 (by decide) (hw _ fl_T_156) (fun _ h9 => h9) rfl d_T_relationOf_87 ?_
            refine lv_iconst (v := 1) hx hb d_T_relationOf_90 (by decide) ?_
            refine lv_iadd hx hb d_T_relationOf_91 ?_
            refine lv_aload_n hx hb d_T_relationOf_92 rfl (lv_at hl 1 rfl) ?_
            refine va_get (D := D) (ci := 2) (v := .int e0q) (C := "TimeWords$Years") (T := F_Y) (N := 4) hx hb hw in_Y hown hK hP 1 rfl rfl 0 (by decide) (hw _ fl_T_153) (fun _ h9 => h9) rfl d_T_relationOf_93 ?_
            refine lv_icmp_ge (tgt := 101) hx hb d_T_relationOf_96 (by decide) (fun c14 => ?_) (fun c14 => ?_)
            · refine lv_aload_n hx hb d_T_relationOf_101 rfl (lv_at hl 0 rfl) ?_
              refine va_get (D := D) (ci := 2) (v := .int e1) (C := "TimeWords$Years") (T := F_Y) (N := 4) hx hb hw in_Y hown hK hP 0 rfl rfl 1 (by decide) (hw _ fl_T_156) (fun _ h9 => h9) rfl d_T_relationOf_102 ?_
              refine lv_iconst (v := 1) hx hb d_T_relationOf_105 (by decide) ?_
              refine lv_iadd hx hb d_T_relationOf_106 ?_
              refine lv_aload_n hx hb d_T_relationOf_107 rfl (lv_at hl 1 rfl) ?_
              refine va_get (D := D) (ci := 2) (v := .int e0q) (C := "TimeWords$Years") (T := F_Y) (N := 4) hx hb hw in_Y hown hK hP 1 rfl rfl 0 (by decide) (hw _ fl_T_153) (fun _ h9 => h9) rfl d_T_relationOf_108 ?_
              refine lv_icmp_ne (tgt := 118) hx hb d_T_relationOf_111 (by decide) (fun c15 => ?_) (fun c15 => ?_)
              · refine lv_iconst (v := 2) hx hb d_T_relationOf_118 (by decide) ?_
                exact W.iret (v := 2) hx hb hr (fun t ht hW => ⟨2, rfl, (by simp only [c_rl, c_rl2, c_rl3, c_rl4, c_rl5, if_neg c1, decide_eq_false c1, if_neg c2, decide_eq_false c2, if_pos c11, decide_eq_true c11, if_pos c12, decide_eq_true c12, if_pos c13, decide_eq_true c13, if_pos c14, decide_eq_true c14, if_neg c15, decide_eq_false c15]), ht⟩) (fun _ h => nomatch h) d_T_relationOf_119
              · refine lv_iconst (v := 1) hx hb d_T_relationOf_114 (by decide) ?_
                refine lv_goto (tgt := 119) hx hb d_T_relationOf_115 (by decide) ?_
                exact W.iret (v := 1) hx hb hr (fun t ht hW => ⟨1, rfl, (by simp only [c_rl, c_rl2, c_rl3, c_rl4, c_rl5, if_neg c1, decide_eq_false c1, if_neg c2, decide_eq_false c2, if_pos c11, decide_eq_true c11, if_pos c12, decide_eq_true c12, if_pos c13, decide_eq_true c13, if_pos c14, decide_eq_true c14, if_pos c15, decide_eq_true c15]), ht⟩) (fun _ h => nomatch h) d_T_relationOf_119
            · refine lv_iconst (v := 0) hx hb d_T_relationOf_99 (by decide) ?_
              exact W.iret (v := 0) hx hb hr (fun t ht hW => ⟨0, rfl, (by simp only [c_rl, c_rl2, c_rl3, c_rl4, c_rl5, if_neg c1, decide_eq_false c1, if_neg c2, decide_eq_false c2, if_pos c11, decide_eq_true c11, if_pos c12, decide_eq_true c12, if_pos c13, decide_eq_true c13, if_neg c14, decide_eq_false c14]), ht⟩) (fun _ h => nomatch h) d_T_relationOf_100
          · refine lv_bipush (v := 6) hx hb d_T_relationOf_83 (by decide) ?_
            exact W.iret (v := 6) hx hb hr (fun t ht hW => ⟨6, rfl, (by simp only [c_rl, c_rl2, c_rl3, c_rl4, c_rl5, if_neg c1, decide_eq_false c1, if_neg c2, decide_eq_false c2, if_pos c11, decide_eq_true c11, if_pos c12, decide_eq_true c12, if_neg c13, decide_eq_false c13]), ht⟩) (fun _ h => nomatch h) d_T_relationOf_85
        · refine lv_aload_n hx hb d_T_relationOf_59 rfl (lv_at hl 0 rfl) ?_
          refine va_get (D := D) (ci := 2) (v := .int e1) (C := "TimeWords$Years") (T := F_Y) (N := 4) hx hb hw in_Y hown hK hP 0 rfl rfl 1 (by decide) (hw _ fl_T_156) (fun _ h9 => h9) rfl d_T_relationOf_60 ?_
          refine lv_aload_n hx hb d_T_relationOf_63 rfl (lv_at hl 1 rfl) ?_
          refine va_get (D := D) (ci := 2) (v := .int e1q) (C := "TimeWords$Years") (T := F_Y) (N := 4) hx hb hw in_Y hown hK hP 1 rfl rfl 1 (by decide) (hw _ fl_T_156) (fun _ h9 => h9) rfl d_T_relationOf_64 ?_
          refine lv_icmp_lt (tgt := 72) hx hb d_T_relationOf_67 (by decide) (fun c16 => ?_) (fun c16 => ?_)
          · refine lv_aload_n hx hb d_T_relationOf_72 rfl (lv_at hl 0 rfl) ?_
            refine va_get (D := D) (ci := 2) (v := .int e0) (C := "TimeWords$Years") (T := F_Y) (N := 4) hx hb hw in_Y hown hK hP 0 rfl rfl 0 (by decide) (hw _ fl_T_153) (fun _ h9 => h9) rfl d_T_relationOf_73 ?_
            refine lv_aload_n hx hb d_T_relationOf_76 rfl (lv_at hl 1 rfl) ?_
            refine va_get (D := D) (ci := 2) (v := .int e0q) (C := "TimeWords$Years") (T := F_Y) (N := 4) hx hb hw in_Y hown hK hP 1 rfl rfl 0 (by decide) (hw _ fl_T_153) (fun _ h9 => h9) rfl d_T_relationOf_77 ?_
            refine lv_icmp_le (tgt := 86) hx hb d_T_relationOf_80 (by decide) (fun c17 => ?_) (fun c17 => ?_)
            · refine lv_aload_n hx hb d_T_relationOf_86 rfl (lv_at hl 0 rfl) ?_
              refine va_get (D := D) (ci := 2) (v := .int e1) (C := "TimeWords$Years") (T := F_Y) (N := 4) hx hb hw in_Y hown hK hP 0 rfl rfl 1 (by decide) (hw _ fl_T_156) (fun _ h9 => h9) rfl d_T_relationOf_87 ?_
              refine lv_iconst (v := 1) hx hb d_T_relationOf_90 (by decide) ?_
              refine lv_iadd hx hb d_T_relationOf_91 ?_
              refine lv_aload_n hx hb d_T_relationOf_92 rfl (lv_at hl 1 rfl) ?_
              refine va_get (D := D) (ci := 2) (v := .int e0q) (C := "TimeWords$Years") (T := F_Y) (N := 4) hx hb hw in_Y hown hK hP 1 rfl rfl 0 (by decide) (hw _ fl_T_153) (fun _ h9 => h9) rfl d_T_relationOf_93 ?_
              refine lv_icmp_ge (tgt := 101) hx hb d_T_relationOf_96 (by decide) (fun c18 => ?_) (fun c18 => ?_)
              · refine lv_aload_n hx hb d_T_relationOf_101 rfl (lv_at hl 0 rfl) ?_
                refine va_get (D := D) (ci := 2) (v := .int e1) (C := "TimeWords$Years") (T := F_Y) (N := 4) hx hb hw in_Y hown hK hP 0 rfl rfl 1 (by decide) (hw _ fl_T_156) (fun _ h9 => h9) rfl d_T_relationOf_102 ?_
                refine lv_iconst (v := 1) hx hb d_T_relationOf_105 (by decide) ?_
                refine lv_iadd hx hb d_T_relationOf_106 ?_
                refine lv_aload_n hx hb d_T_relationOf_107 rfl (lv_at hl 1 rfl) ?_
                refine va_get (D := D) (ci := 2) (v := .int e0q) (C := "TimeWords$Years") (T := F_Y) (N := 4) hx hb hw in_Y hown hK hP 1 rfl rfl 0 (by decide) (hw _ fl_T_153) (fun _ h9 => h9) rfl d_T_relationOf_108 ?_
                refine lv_icmp_ne (tgt := 118) hx hb d_T_relationOf_111 (by decide) (fun c19 => ?_) (fun c19 => ?_)
                · refine lv_iconst (v := 2) hx hb d_T_relationOf_118 (by decide) ?_
                  exact W.iret (v := 2) hx hb hr (fun t ht hW => ⟨2, rfl, (by simp only [c_rl, c_rl2, c_rl3, c_rl4, c_rl5, if_neg c1, decide_eq_false c1, if_neg c2, decide_eq_false c2, if_pos c11, decide_eq_true c11, if_neg c12, decide_eq_false c12, if_pos c16, decide_eq_true c16, if_pos c17, decide_eq_true c17, if_pos c18, decide_eq_true c18, if_neg c19, decide_eq_false c19]), ht⟩) (fun _ h => nomatch h) d_T_relationOf_119
                · refine lv_iconst (v := 1) hx hb d_T_relationOf_114 (by decide) ?_
                  refine lv_goto (tgt := 119) hx hb d_T_relationOf_115 (by decide) ?_
                  exact W.iret (v := 1) hx hb hr (fun t ht hW => ⟨1, rfl, (by simp only [c_rl, c_rl2, c_rl3, c_rl4, c_rl5, if_neg c1, decide_eq_false c1, if_neg c2, decide_eq_false c2, if_pos c11, decide_eq_true c11, if_neg c12, decide_eq_false c12, if_pos c16, decide_eq_true c16, if_pos c17, decide_eq_true c17, if_pos c18, decide_eq_true c18, if_pos c19, decide_eq_true c19]), ht⟩) (fun _ h => nomatch h) d_T_relationOf_119
              · refine lv_iconst (v := 0) hx hb d_T_relationOf_99 (by decide) ?_
                exact W.iret (v := 0) hx hb hr (fun t ht hW => ⟨0, rfl, (by simp only [c_rl, c_rl2, c_rl3, c_rl4, c_rl5, if_neg c1, decide_eq_false c1, if_neg c2, decide_eq_false c2, if_pos c11, decide_eq_true c11, if_neg c12, decide_eq_false c12, if_pos c16, decide_eq_true c16, if_pos c17, decide_eq_true c17, if_neg c18, decide_eq_false c18]), ht⟩) (fun _ h => nomatch h) d_T_relationOf_100
            · refine lv_bipush (v := 6) hx hb d_T_relationOf_83 (by decide) ?_
              exact W.iret (v := 6) hx hb hr (fun t ht hW => ⟨6, rfl, (by simp only [c_rl, c_rl2, c_rl3, c_rl4, c_rl5, if_neg c1, decide_eq_false c1, if_neg c2, decide_eq_false c2, if_pos c11, decide_eq_true c11, if_neg c12, decide_eq_false c12, if_pos c16, decide_eq_true c16, if_neg c17, decide_eq_false c17]), ht⟩) (fun _ h => nomatch h) d_T_relationOf_85
          · refine lv_iconst (v := 5) hx hb d_T_relationOf_70 (by decide) ?_
            exact W.iret (v := 5) hx hb hr (fun t ht hW => ⟨5, rfl, (by simp only [c_rl, c_rl2, c_rl3, c_rl4, c_rl5, if_neg c1, decide_eq_false c1, if_neg c2, decide_eq_false c2, if_pos c11, decide_eq_true c11, if_neg c12, decide_eq_false c12, if_neg c16, decide_eq_false c16]), ht⟩) (fun _ h => nomatch h) d_T_relationOf_71
      · refine lv_iconst (v := 4) hx hb d_T_relationOf_46 (by decide) ?_
        exact W.iret (v := 4) hx hb hr (fun t ht hW => ⟨4, rfl, (by simp only [c_rl, c_rl2, c_rl3, c_rl4, c_rl5, if_neg c1, decide_eq_false c1, if_neg c2, decide_eq_false c2, if_neg c11, decide_eq_false c11]), ht⟩) (fun _ h => nomatch h) d_T_relationOf_47
  · refine lv_aload_n hx hb d_T_relationOf_11 rfl (lv_at hl 0 rfl) ?_
    refine va_get (D := D) (ci := 2) (v := .int e1) (C := "TimeWords$Years") (T := F_Y) (N := 4) hx hb hw in_Y hown hK hP 0 rfl rfl 1 (by decide) (hw _ fl_T_156) (fun _ h9 => h9) rfl d_T_relationOf_12 ?_
    refine lv_aload_n hx hb d_T_relationOf_15 rfl (lv_at hl 1 rfl) ?_
    refine va_get (D := D) (ci := 2) (v := .int e1q) (C := "TimeWords$Years") (T := F_Y) (N := 4) hx hb hw in_Y hown hK hP 1 rfl rfl 1 (by decide) (hw _ fl_T_156) (fun _ h9 => h9) rfl d_T_relationOf_16 ?_
    refine lv_icmp_ne (tgt := 24) hx hb d_T_relationOf_19 (by decide) (fun c20 => ?_) (fun c20 => ?_)
    · refine lv_aload_n hx hb d_T_relationOf_24 rfl (lv_at hl 0 rfl) ?_
      refine va_get (D := D) (ci := 2) (v := .int e0) (C := "TimeWords$Years") (T := F_Y) (N := 4) hx hb hw in_Y hown hK hP 0 rfl rfl 0 (by decide) (hw _ fl_T_153) (fun _ h9 => h9) rfl d_T_relationOf_25 ?_
      refine lv_aload_n hx hb d_T_relationOf_28 rfl (lv_at hl 1 rfl) ?_
      refine va_get (D := D) (ci := 2) (v := .int e0q) (C := "TimeWords$Years") (T := F_Y) (N := 4) hx hb hw in_Y hown hK hP 1 rfl rfl 0 (by decide) (hw _ fl_T_153) (fun _ h9 => h9) rfl d_T_relationOf_29 ?_
      refine lv_icmp_lt (tgt := 48) hx hb d_T_relationOf_32 (by decide) (fun c21 => ?_) (fun c21 => ?_)
      · refine lv_aload_n hx hb d_T_relationOf_48 rfl (lv_at hl 0 rfl) ?_
        refine va_get (D := D) (ci := 2) (v := .int e0) (C := "TimeWords$Years") (T := F_Y) (N := 4) hx hb hw in_Y hown hK hP 0 rfl rfl 0 (by decide) (hw _ fl_T_153) (fun _ h9 => h9) rfl d_T_relationOf_49 ?_
        refine lv_aload_n hx hb d_T_relationOf_52 rfl (lv_at hl 1 rfl) ?_
        refine va_get (D := D) (ci := 2) (v := .int e0q) (C := "TimeWords$Years") (T := F_Y) (N := 4) hx hb hw in_Y hown hK hP 1 rfl rfl 0 (by decide) (hw _ fl_T_153) (fun _ h9 => h9) rfl d_T_relationOf_53 ?_
        refine lv_icmp_gt (tgt := 72) hx hb d_T_relationOf_56 (by decide) (fun c22 => ?_) (fun c22 => ?_)
        · refine lv_aload_n hx hb d_T_relationOf_72 rfl (lv_at hl 0 rfl) ?_
          refine va_get (D := D) (ci := 2) (v := .int e0) (C := "TimeWords$Years") (T := F_Y) (N := 4) hx hb hw in_Y hown hK hP 0 rfl rfl 0 (by decide) (hw _ fl_T_153) (fun _ h9 => h9) rfl d_T_relationOf_73 ?_
          refine lv_aload_n hx hb d_T_relationOf_76 rfl (lv_at hl 1 rfl) ?_
          refine va_get (D := D) (ci := 2) (v := .int e0q) (C := "TimeWords$Years") (T := F_Y) (N := 4) hx hb hw in_Y hown hK hP 1 rfl rfl 0 (by decide) (hw _ fl_T_153) (fun _ h9 => h9) rfl d_T_relationOf_77 ?_
          refine lv_icmp_le (tgt := 86) hx hb d_T_relationOf_80 (by decide) (fun c23 => ?_) (fun c23 => ?_)
          · refine lv_aload_n hx hb d_T_relationOf_86 rfl (lv_at hl 0 rfl) ?_
            refine va_get (D := D) (ci := 2) (v := .int e1) (C := "TimeWords$Years") (T := F_Y) (N := 4) hx hb hw in_Y hown hK hP 0 rfl rfl 1 (by decide) (hw _ fl_T_156) (fun _ h9 => h9) rfl d_T_relationOf_87 ?_
            refine lv_iconst (v := 1) hx hb d_T_relationOf_90 (by decide) ?_
            refine lv_iadd hx hb d_T_relationOf_91 ?_
            refine lv_aload_n hx hb d_T_relationOf_92 rfl (lv_at hl 1 rfl) ?_
            refine va_get (D := D) (ci := 2) (v := .int e0q) (C := "TimeWords$Years") (T := F_Y) (N := 4) hx hb hw in_Y hown hK hP 1 rfl rfl 0 (by decide) (hw _ fl_T_153) (fun _ h9 => h9) rfl d_T_relationOf_93 ?_
            refine lv_icmp_ge (tgt := 101) hx hb d_T_relationOf_96 (by decide) (fun c24 => ?_) (fun c24 => ?_)
            · refine lv_aload_n hx hb d_T_relationOf_101 rfl (lv_at hl 0 rfl) ?_
              refine va_get (D := D) (ci := 2) (v := .int e1) (C := "TimeWords$Years") (T := F_Y) (N := 4) hx hb hw in_Y hown hK hP 0 rfl rfl 1 (by decide) (hw _ fl_T_156) (fun _ h9 => h9) rfl d_T_relationOf_102 ?_
              refine lv_iconst (v := 1) hx hb d_T_relationOf_105 (by decide) ?_
              refine lv_iadd hx hb d_T_relationOf_106 ?_
              refine lv_aload_n hx hb d_T_relationOf_107 rfl (lv_at hl 1 rfl) ?_
              refine va_get (D := D) (ci := 2) (v := .int e0q) (C := "TimeWords$Years") (T := F_Y) (N := 4) hx hb hw in_Y hown hK hP 1 rfl rfl 0 (by decide) (hw _ fl_T_153) (fun _ h9 => h9) rfl d_T_relationOf_108 ?_
              refine lv_icmp_ne (tgt := 118) hx hb d_T_relationOf_111 (by decide) (fun c25 => ?_) (fun c25 => ?_)
              · refine lv_iconst (v := 2) hx hb d_T_relationOf_118 (by decide) ?_
                exact W.iret (v := 2) hx hb hr (fun t ht hW => ⟨2, rfl, (by simp only [c_rl, c_rl2, c_rl3, c_rl4, c_rl5, if_pos c1, decide_eq_true c1, if_neg c20, decide_eq_false c20, if_pos c21, decide_eq_true c21, if_pos c22, decide_eq_true c22, if_pos c23, decide_eq_true c23, if_pos c24, decide_eq_true c24, if_neg c25, decide_eq_false c25]), ht⟩) (fun _ h => nomatch h) d_T_relationOf_119
              · refine lv_iconst (v := 1) hx hb d_T_relationOf_114 (by decide) ?_
                refine lv_goto (tgt := 119) hx hb d_T_relationOf_115 (by decide) ?_
                exact W.iret (v := 1) hx hb hr (fun t ht hW => ⟨1, rfl, (by simp only [c_rl, c_rl2, c_rl3, c_rl4, c_rl5, if_pos c1, decide_eq_true c1, if_neg c20, decide_eq_false c20, if_pos c21, decide_eq_true c21, if_pos c22, decide_eq_true c22, if_pos c23, decide_eq_true c23, if_pos c24, decide_eq_true c24, if_pos c25, decide_eq_true c25]), ht⟩) (fun _ h => nomatch h) d_T_relationOf_119
            · refine lv_iconst (v := 0) hx hb d_T_relationOf_99 (by decide) ?_
              exact W.iret (v := 0) hx hb hr (fun t ht hW => ⟨0, rfl, (by simp only [c_rl, c_rl2, c_rl3, c_rl4, c_rl5, if_pos c1, decide_eq_true c1, if_neg c20, decide_eq_false c20, if_pos c21, decide_eq_true c21, if_pos c22, decide_eq_true c22, if_pos c23, decide_eq_true c23, if_neg c24, decide_eq_false c24]), ht⟩) (fun _ h => nomatch h) d_T_relationOf_100
          · refine lv_bipush (v := 6) hx hb d_T_relationOf_83 (by decide) ?_
            exact W.iret (v := 6) hx hb hr (fun t ht hW => ⟨6, rfl, (by simp only [c_rl, c_rl2, c_rl3, c_rl4, c_rl5, if_pos c1, decide_eq_true c1, if_neg c20, decide_eq_false c20, if_pos c21, decide_eq_true c21, if_pos c22, decide_eq_true c22, if_neg c23, decide_eq_false c23]), ht⟩) (fun _ h => nomatch h) d_T_relationOf_85
        · refine lv_aload_n hx hb d_T_relationOf_59 rfl (lv_at hl 0 rfl) ?_
          refine va_get (D := D) (ci := 2) (v := .int e1) (C := "TimeWords$Years") (T := F_Y) (N := 4) hx hb hw in_Y hown hK hP 0 rfl rfl 1 (by decide) (hw _ fl_T_156) (fun _ h9 => h9) rfl d_T_relationOf_60 ?_
          refine lv_aload_n hx hb d_T_relationOf_63 rfl (lv_at hl 1 rfl) ?_
          refine va_get (D := D) (ci := 2) (v := .int e1q) (C := "TimeWords$Years") (T := F_Y) (N := 4) hx hb hw in_Y hown hK hP 1 rfl rfl 1 (by decide) (hw _ fl_T_156) (fun _ h9 => h9) rfl d_T_relationOf_64 ?_
          refine lv_icmp_lt (tgt := 72) hx hb d_T_relationOf_67 (by decide) (fun c26 => ?_) (fun c26 => ?_)
          · refine lv_aload_n hx hb d_T_relationOf_72 rfl (lv_at hl 0 rfl) ?_
            refine va_get (D := D) (ci := 2) (v := .int e0) (C := "TimeWords$Years") (T := F_Y) (N := 4) hx hb hw in_Y hown hK hP 0 rfl rfl 0 (by decide) (hw _ fl_T_153) (fun _ h9 => h9) rfl d_T_relationOf_73 ?_
            refine lv_aload_n hx hb d_T_relationOf_76 rfl (lv_at hl 1 rfl) ?_
            refine va_get (D := D) (ci := 2) (v := .int e0q) (C := "TimeWords$Years") (T := F_Y) (N := 4) hx hb hw in_Y hown hK hP 1 rfl rfl 0 (by decide) (hw _ fl_T_153) (fun _ h9 => h9) rfl d_T_relationOf_77 ?_
            refine lv_icmp_le (tgt := 86) hx hb d_T_relationOf_80 (by decide) (fun c27 => ?_) (fun c27 => ?_)
            · refine lv_aload_n hx hb d_T_relationOf_86 rfl (lv_at hl 0 rfl) ?_
              refine va_get (D := D) (ci := 2) (v := .int e1) (C := "TimeWords$Years") (T := F_Y) (N := 4) hx hb hw in_Y hown hK hP 0 rfl rfl 1 (by decide) (hw _ fl_T_156) (fun _ h9 => h9) rfl d_T_relationOf_87 ?_
              refine lv_iconst (v := 1) hx hb d_T_relationOf_90 (by decide) ?_
              refine lv_iadd hx hb d_T_relationOf_91 ?_
              refine lv_aload_n hx hb d_T_relationOf_92 rfl (lv_at hl 1 rfl) ?_
              refine va_get (D := D) (ci := 2) (v := .int e0q) (C := "TimeWords$Years") (T := F_Y) (N := 4) hx hb hw in_Y hown hK hP 1 rfl rfl 0 (by decide) (hw _ fl_T_153) (fun _ h9 => h9) rfl d_T_relationOf_93 ?_
              refine lv_icmp_ge (tgt := 101) hx hb d_T_relationOf_96 (by decide) (fun c28 => ?_) (fun c28 => ?_)
              · refine lv_aload_n hx hb d_T_relationOf_101 rfl (lv_at hl 0 rfl) ?_
                refine va_get (D := D) (ci := 2) (v := .int e1) (C := "TimeWords$Years") (T := F_Y) (N := 4) hx hb hw in_Y hown hK hP 0 rfl rfl 1 (by decide) (hw _ fl_T_156) (fun _ h9 => h9) rfl d_T_relationOf_102 ?_
                refine lv_iconst (v := 1) hx hb d_T_relationOf_105 (by decide) ?_
                refine lv_iadd hx hb d_T_relationOf_106 ?_
                refine lv_aload_n hx hb d_T_relationOf_107 rfl (lv_at hl 1 rfl) ?_
                refine va_get (D := D) (ci := 2) (v := .int e0q) (C := "TimeWords$Years") (T := F_Y) (N := 4) hx hb hw in_Y hown hK hP 1 rfl rfl 0 (by decide) (hw _ fl_T_153) (fun _ h9 => h9) rfl d_T_relationOf_108 ?_
                refine lv_icmp_ne (tgt := 118) hx hb d_T_relationOf_111 (by decide) (fun c29 => ?_) (fun c29 => ?_)
                · refine lv_iconst (v := 2) hx hb d_T_relationOf_118 (by decide) ?_
                  exact W.iret (v := 2) hx hb hr (fun t ht hW => ⟨2, rfl, (by simp only [c_rl, c_rl2, c_rl3, c_rl4, c_rl5, if_pos c1, decide_eq_true c1, if_neg c20, decide_eq_false c20, if_pos c21, decide_eq_true c21, if_neg c22, decide_eq_false c22, if_pos c26, decide_eq_true c26, if_pos c27, decide_eq_true c27, if_pos c28, decide_eq_true c28, if_neg c29, decide_eq_false c29]), ht⟩) (fun _ h => nomatch h) d_T_relationOf_119
                · refine lv_iconst (v := 1) hx hb d_T_relationOf_114 (by decide) ?_
                  refine lv_goto (tgt := 119) hx hb d_T_relationOf_115 (by decide) ?_
                  exact W.iret (v := 1) hx hb hr (fun t ht hW => ⟨1, rfl, (by simp only [c_rl, c_rl2, c_rl3, c_rl4, c_rl5, if_pos c1, decide_eq_true c1, if_neg c20, decide_eq_false c20, if_pos c21, decide_eq_true c21, if_neg c22, decide_eq_false c22, if_pos c26, decide_eq_true c26, if_pos c27, decide_eq_true c27, if_pos c28, decide_eq_true c28, if_pos c29, decide_eq_true c29]), ht⟩) (fun _ h => nomatch h) d_T_relationOf_119
              · refine lv_iconst (v := 0) hx hb d_T_relationOf_99 (by decide) ?_
                exact W.iret (v := 0) hx hb hr (fun t ht hW => ⟨0, rfl, (by simp only [c_rl, c_rl2, c_rl3, c_rl4, c_rl5, if_pos c1, decide_eq_true c1, if_neg c20, decide_eq_false c20, if_pos c21, decide_eq_true c21, if_neg c22, decide_eq_false c22, if_pos c26, decide_eq_true c26, if_pos c27, decide_eq_true c27, if_neg c28, decide_eq_false c28]), ht⟩) (fun _ h => nomatch h) d_T_relationOf_100
            · refine lv_bipush (v := 6) hx hb d_T_relationOf_83 (by decide) ?_
              exact W.iret (v := 6) hx hb hr (fun t ht hW => ⟨6, rfl, (by simp only [c_rl, c_rl2, c_rl3, c_rl4, c_rl5, if_pos c1, decide_eq_true c1, if_neg c20, decide_eq_false c20, if_pos c21, decide_eq_true c21, if_neg c22, decide_eq_false c22, if_pos c26, decide_eq_true c26, if_neg c27, decide_eq_false c27]), ht⟩) (fun _ h => nomatch h) d_T_relationOf_85
          · refine lv_iconst (v := 5) hx hb d_T_relationOf_70 (by decide) ?_
            exact W.iret (v := 5) hx hb hr (fun t ht hW => ⟨5, rfl, (by simp only [c_rl, c_rl2, c_rl3, c_rl4, c_rl5, if_pos c1, decide_eq_true c1, if_neg c20, decide_eq_false c20, if_pos c21, decide_eq_true c21, if_neg c22, decide_eq_false c22, if_neg c26, decide_eq_false c26]), ht⟩) (fun _ h => nomatch h) d_T_relationOf_71
      · refine lv_aload_n hx hb d_T_relationOf_35 rfl (lv_at hl 0 rfl) ?_
        refine va_get (D := D) (ci := 2) (v := .int e1) (C := "TimeWords$Years") (T := F_Y) (N := 4) hx hb hw in_Y hown hK hP 0 rfl rfl 1 (by decide) (hw _ fl_T_156) (fun _ h9 => h9) rfl d_T_relationOf_36 ?_
        refine lv_aload_n hx hb d_T_relationOf_39 rfl (lv_at hl 1 rfl) ?_
        refine va_get (D := D) (ci := 2) (v := .int e1q) (C := "TimeWords$Years") (T := F_Y) (N := 4) hx hb hw in_Y hown hK hP 1 rfl rfl 1 (by decide) (hw _ fl_T_156) (fun _ h9 => h9) rfl d_T_relationOf_40 ?_
        refine lv_icmp_gt (tgt := 48) hx hb d_T_relationOf_43 (by decide) (fun c30 => ?_) (fun c30 => ?_)
        · refine lv_aload_n hx hb d_T_relationOf_48 rfl (lv_at hl 0 rfl) ?_
          refine va_get (D := D) (ci := 2) (v := .int e0) (C := "TimeWords$Years") (T := F_Y) (N := 4) hx hb hw in_Y hown hK hP 0 rfl rfl 0 (by decide) (hw _ fl_T_153) (fun _ h9 => h9) rfl d_T_relationOf_49 ?_
          refine lv_aload_n hx hb d_T_relationOf_52 rfl (lv_at hl 1 rfl) ?_
          refine va_get (D := D) (ci := 2) (v := .int e0q) (C := "TimeWords$Years") (T := F_Y) (N := 4) hx hb hw in_Y hown hK hP 1 rfl rfl 0 (by decide) (hw _ fl_T_153) (fun _ h9 => h9) rfl d_T_relationOf_53 ?_
          refine lv_icmp_gt (tgt := 72) hx hb d_T_relationOf_56 (by decide) (fun c31 => ?_) (fun c31 => ?_)
          · refine lv_aload_n hx hb d_T_relationOf_72 rfl (lv_at hl 0 rfl) ?_
            refine va_get (D := D) (ci := 2) (v := .int e0) (C := "TimeWords$Years") (T := F_Y) (N := 4) hx hb hw in_Y hown hK hP 0 rfl rfl 0 (by decide) (hw _ fl_T_153) (fun _ h9 => h9) rfl d_T_relationOf_73 ?_
            refine lv_aload_n hx hb d_T_relationOf_76 rfl (lv_at hl 1 rfl) ?_
            refine va_get (D := D) (ci := 2) (v := .int e0q) (C := "TimeWords$Years") (T := F_Y) (N := 4) hx hb hw in_Y hown hK hP 1 rfl rfl 0 (by decide) (hw _ fl_T_153) (fun _ h9 => h9) rfl d_T_relationOf_77 ?_
            refine lv_icmp_le (tgt := 86) hx hb d_T_relationOf_80 (by decide) (fun c32 => ?_) (fun c32 => ?_)
            · refine lv_aload_n hx hb d_T_relationOf_86 rfl (lv_at hl 0 rfl) ?_
              refine va_get (D := D) (ci := 2) (v := .int e1) (C := "TimeWords$Years") (T := F_Y) (N := 4) hx hb hw in_Y hown hK hP 0 rfl rfl 1 (by decide) (hw _ fl_T_156) (fun _ h9 => h9) rfl d_T_relationOf_87 ?_
              refine lv_iconst (v := 1) hx hb d_T_relationOf_90 (by decide) ?_
              refine lv_iadd hx hb d_T_relationOf_91 ?_
              refine lv_aload_n hx hb d_T_relationOf_92 rfl (lv_at hl 1 rfl) ?_
              refine va_get (D := D) (ci := 2) (v := .int e0q) (C := "TimeWords$Years") (T := F_Y) (N := 4) hx hb hw in_Y hown hK hP 1 rfl rfl 0 (by decide) (hw _ fl_T_153) (fun _ h9 => h9) rfl d_T_relationOf_93 ?_
              refine lv_icmp_ge (tgt := 101) hx hb d_T_relationOf_96 (by decide) (fun c33 => ?_) (fun c33 => ?_)
              · refine lv_aload_n hx hb d_T_relationOf_101 rfl (lv_at hl 0 rfl) ?_
                refine va_get (D := D) (ci := 2) (v := .int e1) (C := "TimeWords$Years") (T := F_Y) (N := 4) hx hb hw in_Y hown hK hP 0 rfl rfl 1 (by decide) (hw _ fl_T_156) (fun _ h9 => h9) rfl d_T_relationOf_102 ?_
                refine lv_iconst (v := 1) hx hb d_T_relationOf_105 (by decide) ?_
                refine lv_iadd hx hb d_T_relationOf_106 ?_
                refine lv_aload_n hx hb d_T_relationOf_107 rfl (lv_at hl 1 rfl) ?_
                refine va_get (D := D) (ci := 2) (v := .int e0q) (C := "TimeWords$Years") (T := F_Y) (N := 4) hx hb hw in_Y hown hK hP 1 rfl rfl 0 (by decide) (hw _ fl_T_153) (fun _ h9 => h9) rfl d_T_relationOf_108 ?_
                refine lv_icmp_ne (tgt := 118) hx hb d_T_relationOf_111 (by decide) (fun c34 => ?_) (fun c34 => ?_)
                · refine lv_iconst (v := 2) hx hb d_T_relationOf_118 (by decide) ?_
                  exact W.iret (v := 2) hx hb hr (fun t ht hW => ⟨2, rfl, (by simp only [c_rl, c_rl2, c_rl3, c_rl4, c_rl5, if_pos c1, decide_eq_true c1, if_neg c20, decide_eq_false c20, if_neg c21, decide_eq_false c21, if_pos c30, decide_eq_true c30, if_pos c31, decide_eq_true c31, if_pos c32, decide_eq_true c32, if_pos c33, decide_eq_true c33, if_neg c34, decide_eq_false c34]), ht⟩) (fun _ h => nomatch h) d_T_relationOf_119
                · refine lv_iconst (v := 1) hx hb d_T_relationOf_114 (by decide) ?_
                  refine lv_goto (tgt := 119) hx hb d_T_relationOf_115 (by decide) ?_
                  exact W.iret (v := 1) hx hb hr (fun t ht hW => ⟨1, rfl, (by simp only [c_rl, c_rl2, c_rl3, c_rl4, c_rl5, if_pos c1, decide_eq_true c1, if_neg c20, decide_eq_false c20, if_neg c21, decide_eq_false c21, if_pos c30, decide_eq_true c30, if_pos c31, decide_eq_true c31, if_pos c32, decide_eq_true c32, if_pos c33, decide_eq_true c33, if_pos c34, decide_eq_true c34]), ht⟩) (fun _ h => nomatch h) d_T_relationOf_119
              · refine lv_iconst (v := 0) hx hb d_T_relationOf_99 (by decide) ?_
                exact W.iret (v := 0) hx hb hr (fun t ht hW => ⟨0, rfl, (by simp only [c_rl, c_rl2, c_rl3, c_rl4, c_rl5, if_pos c1, decide_eq_true c1, if_neg c20, decide_eq_false c20, if_neg c21, decide_eq_false c21, if_pos c30, decide_eq_true c30, if_pos c31, decide_eq_true c31, if_pos c32, decide_eq_true c32, if_neg c33, decide_eq_false c33]), ht⟩) (fun _ h => nomatch h) d_T_relationOf_100
            · refine lv_bipush (v := 6) hx hb d_T_relationOf_83 (by decide) ?_
              exact W.iret (v := 6) hx hb hr (fun t ht hW => ⟨6, rfl, (by simp only [c_rl, c_rl2, c_rl3, c_rl4, c_rl5, if_pos c1, decide_eq_true c1, if_neg c20, decide_eq_false c20, if_neg c21, decide_eq_false c21, if_pos c30, decide_eq_true c30, if_pos c31, decide_eq_true c31, if_neg c32, decide_eq_false c32]), ht⟩) (fun _ h => nomatch h) d_T_relationOf_85
          · refine lv_aload_n hx hb d_T_relationOf_59 rfl (lv_at hl 0 rfl) ?_
            refine va_get (D := D) (ci := 2) (v := .int e1) (C := "TimeWords$Years") (T := F_Y) (N := 4) hx hb hw in_Y hown hK hP 0 rfl rfl 1 (by decide) (hw _ fl_T_156) (fun _ h9 => h9) rfl d_T_relationOf_60 ?_
            refine lv_aload_n hx hb d_T_relationOf_63 rfl (lv_at hl 1 rfl) ?_
            refine va_get (D := D) (ci := 2) (v := .int e1q) (C := "TimeWords$Years") (T := F_Y) (N := 4) hx hb hw in_Y hown hK hP 1 rfl rfl 1 (by decide) (hw _ fl_T_156) (fun _ h9 => h9) rfl d_T_relationOf_64 ?_
            refine lv_icmp_lt (tgt := 72) hx hb d_T_relationOf_67 (by decide) (fun c35 => ?_) (fun c35 => ?_)
            · refine lv_aload_n hx hb d_T_relationOf_72 rfl (lv_at hl 0 rfl) ?_
              refine va_get (D := D) (ci := 2) (v := .int e0) (C := "TimeWords$Years") (T := F_Y) (N := 4) hx hb hw in_Y hown hK hP 0 rfl rfl 0 (by decide) (hw _ fl_T_153) (fun _ h9 => h9) rfl d_T_relationOf_73 ?_
              refine lv_aload_n hx hb d_T_relationOf_76 rfl (lv_at hl 1 rfl) ?_
              refine va_get (D := D) (ci := 2) (v := .int e0q) (C := "TimeWords$Years") (T := F_Y) (N := 4) hx hb hw in_Y hown hK hP 1 rfl rfl 0 (by decide) (hw _ fl_T_153) (fun _ h9 => h9) rfl d_T_relationOf_77 ?_
              refine lv_icmp_le (tgt := 86) hx hb d_T_relationOf_80 (by decide) (fun c36 => ?_) (fun c36 => ?_)
              · refine lv_aload_n hx hb d_T_relationOf_86 rfl (lv_at hl 0 rfl) ?_
                refine va_get (D := D) (ci := 2) (v := .int e1) (C := "TimeWords$Years") (T := F_Y) (N := 4) hx hb hw in_Y hown hK hP 0 rfl rfl 1 (by decide) (hw _ fl_T_156) (fun _ h9 => h9) rfl d_T_relationOf_87 ?_
                refine lv_iconst (v := 1) hx hb d_T_relationOf_90 (by decide) ?_
                refine lv_iadd hx hb d_T_relationOf_91 ?_
                refine lv_aload_n hx hb d_T_relationOf_92 rfl (lv_at hl 1 rfl) ?_
                refine va_get (D := D) (ci := 2) (v := .int e0q) (C := "TimeWords$Years") (T := F_Y) (N := 4) hx hb hw in_Y hown hK hP 1 rfl rfl 0 (by decide) (hw _ fl_T_153) (fun _ h9 => h9) rfl d_T_relationOf_93 ?_
                refine lv_icmp_ge (tgt := 101) hx hb d_T_relationOf_96 (by decide) (fun c37 => ?_) (fun c37 => ?_)
                · refine lv_aload_n hx hb d_T_relationOf_101 rfl (lv_at hl 0 rfl) ?_
                  refine va_get (D := D) (ci := 2) (v := .int e1) (C := "TimeWords$Years") (T := F_Y) (N := 4) hx hb hw in_Y hown hK hP 0 rfl rfl 1 (by decide) (hw _ fl_T_156) (fun _ h9 => h9) rfl d_T_relationOf_102 ?_
                  refine lv_iconst (v := 1) hx hb d_T_relationOf_105 (by decide) ?_
                  refine lv_iadd hx hb d_T_relationOf_106 ?_
                  refine lv_aload_n hx hb d_T_relationOf_107 rfl (lv_at hl 1 rfl) ?_
                  refine va_get (D := D) (ci := 2) (v := .int e0q) (C := "TimeWords$Years") (T := F_Y) (N := 4) hx hb hw in_Y hown hK hP 1 rfl rfl 0 (by decide) (hw _ fl_T_153) (fun _ h9 => h9) rfl d_T_relationOf_108 ?_
                  refine lv_icmp_ne (tgt := 118) hx hb d_T_relationOf_111 (by decide) (fun c38 => ?_) (fun c38 => ?_)
                  · refine lv_iconst (v := 2) hx hb d_T_relationOf_118 (by decide) ?_
                    exact W.iret (v := 2) hx hb hr (fun t ht hW => ⟨2, rfl, (by simp only [c_rl, c_rl2, c_rl3, c_rl4, c_rl5, if_pos c1, decide_eq_true c1, if_neg c20, decide_eq_false c20, if_neg c21, decide_eq_false c21, if_pos c30, decide_eq_true c30, if_neg c31, decide_eq_false c31, if_pos c35, decide_eq_true c35, if_pos c36, decide_eq_true c36, if_pos c37, decide_eq_true c37, if_neg c38, decide_eq_false c38]), ht⟩) (fun _ h => nomatch h) d_T_relationOf_119
                  · refine lv_iconst (v := 1) hx hb d_T_relationOf_114 (by decide) ?_
                    refine lv_goto (tgt := 119) hx hb d_T_relationOf_115 (by decide) ?_
                    exact W.iret (v := 1) hx hb hr (fun t ht hW => ⟨1, rfl, (by simp only [c_rl, c_rl2, c_rl3, c_rl4, c_rl5, if_pos c1, decide_eq_true c1, if_neg c20, decide_eq_false c20, if_neg c21, decide_eq_false c21, if_pos c30, decide_eq_true c30, if_neg c31, decide_eq_false c31, if_pos c35, decide_eq_true c35, if_pos c36, decide_eq_true c36, if_pos c37, decide_eq_true c37, if_pos c38, decide_eq_true c38]), ht⟩) (fun _ h => nomatch h) d_T_relationOf_119
                · refine lv_iconst (v := 0) hx hb d_T_relationOf_99 (by decide) ?_
                  exact W.iret (v := 0) hx hb hr (fun t ht hW => ⟨0, rfl, (by simp only [c_rl, c_rl2, c_rl3, c_rl4, c_rl5, if_pos c1, decide_eq_true c1, if_neg c20, decide_eq_false c20, if_neg c21, decide_eq_false c21, if_pos c30, decide_eq_true c30, if_neg c31, decide_eq_false c31, if_pos c35, decide_eq_true c35, if_pos c36, decide_eq_true c36, if_neg c37, decide_eq_false c37]), ht⟩) (fun _ h => nomatch h) d_T_relationOf_100
              · refine lv_bipush (v := 6) hx hb d_T_relationOf_83 (by decide) ?_
                exact W.iret (v := 6) hx hb hr (fun t ht hW => ⟨6, rfl, (by simp only [c_rl, c_rl2, c_rl3, c_rl4, c_rl5, if_pos c1, decide_eq_true c1, if_neg c20, decide_eq_false c20, if_neg c21, decide_eq_false c21, if_pos c30, decide_eq_true c30, if_neg c31, decide_eq_false c31, if_pos c35, decide_eq_true c35, if_neg c36, decide_eq_false c36]), ht⟩) (fun _ h => nomatch h) d_T_relationOf_85
            · refine lv_iconst (v := 5) hx hb d_T_relationOf_70 (by decide) ?_
              exact W.iret (v := 5) hx hb hr (fun t ht hW => ⟨5, rfl, (by simp only [c_rl, c_rl2, c_rl3, c_rl4, c_rl5, if_pos c1, decide_eq_true c1, if_neg c20, decide_eq_false c20, if_neg c21, decide_eq_false c21, if_pos c30, decide_eq_true c30, if_neg c31, decide_eq_false c31, if_neg c35, decide_eq_false c35]), ht⟩) (fun _ h => nomatch h) d_T_relationOf_71
        · refine lv_iconst (v := 4) hx hb d_T_relationOf_46 (by decide) ?_
          exact W.iret (v := 4) hx hb hr (fun t ht hW => ⟨4, rfl, (by simp only [c_rl, c_rl2, c_rl3, c_rl4, c_rl5, if_pos c1, decide_eq_true c1, if_neg c20, decide_eq_false c20, if_neg c21, decide_eq_false c21, if_neg c30, decide_eq_false c30]), ht⟩) (fun _ h => nomatch h) d_T_relationOf_47
    · refine lv_iconst (v := 3) hx hb d_T_relationOf_22 (by decide) ?_
      exact W.iret (v := 3) hx hb hr (fun t ht hW => ⟨3, rfl, (by simp only [c_rl, c_rl2, c_rl3, c_rl4, c_rl5, if_pos c1, decide_eq_true c1, if_pos c20, decide_eq_true c20]), ht⟩) (fun _ h => nomatch h) d_T_relationOf_23

set_option maxHeartbeats 4000000 in
set_option maxRecDepth 100000 in
theorem k_T_relationsAhead (l : Launch) (D : va_G) (T : gT) (yo : Nat) (e0 e1 : Int32) (oF oT : Bool) (yq : Nat) (e0q e1q : Int32) (oFq oTq : Bool) : Met l y_T_relationsAhead (Cond.code y_T_relationsAhead b_T_relationsAhead 4 (some .int) :: bg_W) ({ frames := 1, cells := 0, slots := 0, locals := 17 }) (sP D T ([(yo, .inr (2, [.int e0, .int e1, .int (b2i oF), .int (b2i oT)])), (yq, .inr (2, [.int e0q, .int e1q, .int (b2i oFq), .int (b2i oTq)]))]) [.ref yo, .ref yq]) (vp_Si (fun r : Int32 => r = c_ra e0 e1 e0q e1q)) 0 0 (fun _ => False) := by
  refine Met.ofW (cc := b_T_relationsAhead) (maxL := 4) (ret := (some .int)) (by decide) rfl ?_
  intro p e s m args below meth c s₁ B hml hv
  obtain ⟨rfl, hP, hK⟩ := hv
  have hx := B.exec
  have hb := B.bytes
  have hr := B.returns
  have hw : ∀ w ∈ bg_W, w.before ([.ref yo, .ref yq] : List Value).toArray s = true := fun w h => atoms_spec (ws := (Cond.code y_T_relationsAhead b_T_relationsAhead 4 (some .int) :: bg_W)) B.pre w (List.mem_cons_of_mem _ h)
  have hown : s.vm.findClass "TimeWords" = some m.cls := findClass_of_methodNamed B.named
  have hlocks := B.notSynchronized
  have hl := lv_entry ([.ref yo, .ref yq]) (n := 4) (Nat.le_of_ble_eq_true rfl)
  rw [lg_entry_eq]
  generalize (lg_sl ([.ref yo, .ref yq]) ++ List.replicate (4 - (lg_sl ([.ref yo, .ref yq])).length) Slot.unset).toArray = ls at hl ⊢
  have hl : lv_has ls 4 [(0, .ref yo), (1, .ref yq)] := hl
  refine lv_iconst (v := 0) hx hb d_T_relationsAhead_0 (by decide) ?_
  refine lv_istore_n (lv' := [(2, .int 0), (0, .ref yo), (1, .ref yq)]) hx hb d_T_relationsAhead_1 rfl hl (by decide) rfl (fun ls hl => ?_)
  refine lv_aload_n hx hb d_T_relationsAhead_2 rfl (lv_at hl 1 rfl) ?_
  refine va_get (D := D) (ci := 2) (v := .int e0) (C := "TimeWords$Years") (T := F_Y) (N := 4) hx hb hw in_Y hown hK hP 0 rfl rfl 0 (by decide) (hw _ fl_T_153) (fun _ h9 => h9) rfl d_T_relationsAhead_3 ?_
  refine lv_iconst (v := 1) hx hb d_T_relationsAhead_6 (by decide) ?_
  refine lv_iadd hx hb d_T_relationsAhead_7 ?_
  refine lv_aload_n hx hb d_T_relationsAhead_8 rfl (lv_at hl 2 rfl) ?_
  refine va_get (D := D) (ci := 2) (v := .int e0q) (C := "TimeWords$Years") (T := F_Y) (N := 4) hx hb hw in_Y hown hK hP 1 rfl rfl 0 (by decide) (hw _ fl_T_153) (fun _ h9 => h9) rfl d_T_relationsAhead_9 ?_
  refine va_mmax hx hb (hml.trans hl.1.symm) hown (hw _ ml_T_368) (hw _ wt_MA_max) (hw _ wz_MA) (hw _ wc_MA_max) (Nat.le_of_ble_eq_true rfl) (Nat.le_of_ble_eq_true rfl) (Nat.le_of_ble_eq_true rfl) (Nat.le_of_ble_eq_true rfl) d_T_relationsAhead_12 ?_
  refine lv_istore_n (lv' := [(3, .int (if (e0 + 1) < e0q then e0q else (e0 + 1))), (2, .int 0), (0, .ref yo), (1, .ref yq)]) hx hb d_T_relationsAhead_15 rfl hl (by decide) rfl (fun ls hl => ?_)
  refine lv_aload_n hx hb d_T_relationsAhead_16 rfl (lv_at hl 2 rfl) ?_
  refine va_get (D := D) (ci := 2) (v := .int e0) (C := "TimeWords$Years") (T := F_Y) (N := 4) hx hb hw in_Y hown hK hP 0 rfl rfl 0 (by decide) (hw _ fl_T_153) (fun _ h9 => h9) rfl d_T_relationsAhead_17 ?_
  refine lv_iconst (v := 1) hx hb d_T_relationsAhead_20 (by decide) ?_
  refine lv_iadd hx hb d_T_relationsAhead_21 ?_
  refine lv_aload_n hx hb d_T_relationsAhead_22 rfl (lv_at hl 3 rfl) ?_
  refine va_get (D := D) (ci := 2) (v := .int e1q) (C := "TimeWords$Years") (T := F_Y) (N := 4) hx hb hw in_Y hown hK hP 1 rfl rfl 1 (by decide) (hw _ fl_T_156) (fun _ h9 => h9) rfl d_T_relationsAhead_23 ?_
  refine lv_icmp_ge (tgt := 33) hx hb d_T_relationsAhead_26 (by decide) (fun c1 => ?_) (fun c1 => ?_)
  · refine lv_iload_n hx hb d_T_relationsAhead_33 rfl (lv_at hl 0 rfl) ?_
    refine lv_aload_n hx hb d_T_relationsAhead_34 rfl (lv_at hl 2 rfl) ?_
    refine va_get (D := D) (ci := 2) (v := .int e1) (C := "TimeWords$Years") (T := F_Y) (N := 4) hx hb hw in_Y hown hK hP 0 rfl rfl 1 (by decide) (hw _ fl_T_156) (fun _ h9 => h9) rfl d_T_relationsAhead_35 ?_
    refine lv_iconst (v := 1) hx hb d_T_relationsAhead_38 (by decide) ?_
    refine lv_iadd hx hb d_T_relationsAhead_39 ?_
    refine lv_aload_n hx hb d_T_relationsAhead_40 rfl (lv_at hl 3 rfl) ?_
    refine va_get (D := D) (ci := 2) (v := .int e1q) (C := "TimeWords$Years") (T := F_Y) (N := 4) hx hb hw in_Y hown hK hP 1 rfl rfl 1 (by decide) (hw _ fl_T_156) (fun _ h9 => h9) rfl d_T_relationsAhead_41 ?_
    refine va_mmin hx hb (hml.trans hl.1.symm) hown (hw _ ml_T_365) (hw _ wt_MA_min) (hw _ wz_MA) (hw _ wc_MA_min) (Nat.le_of_ble_eq_true rfl) (Nat.le_of_ble_eq_true rfl) (Nat.le_of_ble_eq_true rfl) (Nat.le_of_ble_eq_true rfl) d_T_relationsAhead_44 ?_
    refine lv_icmp_gt (tgt := 54) hx hb d_T_relationsAhead_47 (by decide) (fun c2 => ?_) (fun c2 => ?_)
    · refine lv_iload_n hx hb d_T_relationsAhead_54 rfl (lv_at hl 0 rfl) ?_
      refine lv_aload_n hx hb d_T_relationsAhead_55 rfl (lv_at hl 2 rfl) ?_
      refine va_get (D := D) (ci := 2) (v := .int e1) (C := "TimeWords$Years") (T := F_Y) (N := 4) hx hb hw in_Y hown hK hP 0 rfl rfl 1 (by decide) (hw _ fl_T_156) (fun _ h9 => h9) rfl d_T_relationsAhead_56 ?_
      refine lv_aload_n hx hb d_T_relationsAhead_59 rfl (lv_at hl 3 rfl) ?_
      refine va_get (D := D) (ci := 2) (v := .int e1q) (C := "TimeWords$Years") (T := F_Y) (N := 4) hx hb hw in_Y hown hK hP 1 rfl rfl 1 (by decide) (hw _ fl_T_156) (fun _ h9 => h9) rfl d_T_relationsAhead_60 ?_
      refine lv_iconst (v := 1) hx hb d_T_relationsAhead_63 (by decide) ?_
      refine lv_isub hx hb d_T_relationsAhead_64 ?_
      refine va_mmin hx hb (hml.trans hl.1.symm) hown (hw _ ml_T_365) (hw _ wt_MA_min) (hw _ wz_MA) (hw _ wc_MA_min) (Nat.le_of_ble_eq_true rfl) (Nat.le_of_ble_eq_true rfl) (Nat.le_of_ble_eq_true rfl) (Nat.le_of_ble_eq_true rfl) d_T_relationsAhead_65 ?_
      refine lv_icmp_gt (tgt := 75) hx hb d_T_relationsAhead_68 (by decide) (fun c3 => ?_) (fun c3 => ?_)
      · refine lv_iload_n hx hb d_T_relationsAhead_75 rfl (lv_at hl 1 rfl) ?_
        exact W.iret (v := 0) hx hb hr (fun t ht hW => ⟨0, rfl, (by simp only [c_ra, c_ra1, c_ra2, c_ra3, if_pos c1, decide_eq_true c1, if_pos c2, decide_eq_true c2, if_pos c3, decide_eq_true c3]), ht⟩) (fun _ h => nomatch h) d_T_relationsAhead_76
      · refine lv_iload_n hx hb d_T_relationsAhead_71 rfl (lv_at hl 1 rfl) ?_
        refine lv_iconst (v := 4) hx hb d_T_relationsAhead_72 (by decide) ?_
        refine lv_ior hx hb d_T_relationsAhead_73 ?_
        refine lv_istore_n (lv' := [(2, .int (0 ||| 4)), (3, .int (if (e0 + 1) < e0q then e0q else (e0 + 1))), (0, .ref yo), (1, .ref yq)]) hx hb d_T_relationsAhead_74 rfl hl (by decide) rfl (fun ls hl => ?_)
        refine lv_iload_n hx hb d_T_relationsAhead_75 rfl (lv_at hl 0 rfl) ?_
        exact W.iret (v := 0 ||| 4) hx hb hr (fun t ht hW => ⟨0 ||| 4, rfl, (by simp only [c_ra, c_ra1, c_ra2, c_ra3, if_pos c1, decide_eq_true c1, if_pos c2, decide_eq_true c2, if_neg c3, decide_eq_false c3]), ht⟩) (fun _ h => nomatch h) d_T_relationsAhead_76
    · refine lv_iload_n hx hb d_T_relationsAhead_50 rfl (lv_at hl 1 rfl) ?_
      refine lv_iconst (v := 2) hx hb d_T_relationsAhead_51 (by decide) ?_
      refine lv_ior hx hb d_T_relationsAhead_52 ?_
      refine lv_istore_n (lv' := [(2, .int (0 ||| 2)), (3, .int (if (e0 + 1) < e0q then e0q else (e0 + 1))), (0, .ref yo), (1, .ref yq)]) hx hb d_T_relationsAhead_53 rfl hl (by decide) rfl (fun ls hl => ?_)
      refine lv_iload_n hx hb d_T_relationsAhead_54 rfl (lv_at hl 1 rfl) ?_
      refine lv_aload_n hx hb d_T_relationsAhead_55 rfl (lv_at hl 2 rfl) ?_
      refine va_get (D := D) (ci := 2) (v := .int e1) (C := "TimeWords$Years") (T := F_Y) (N := 4) hx hb hw in_Y hown hK hP 0 rfl rfl 1 (by decide) (hw _ fl_T_156) (fun _ h9 => h9) rfl d_T_relationsAhead_56 ?_
      refine lv_aload_n hx hb d_T_relationsAhead_59 rfl (lv_at hl 3 rfl) ?_
      refine va_get (D := D) (ci := 2) (v := .int e1q) (C := "TimeWords$Years") (T := F_Y) (N := 4) hx hb hw in_Y hown hK hP 1 rfl rfl 1 (by decide) (hw _ fl_T_156) (fun _ h9 => h9) rfl d_T_relationsAhead_60 ?_
      refine lv_iconst (v := 1) hx hb d_T_relationsAhead_63 (by decide) ?_
      refine lv_isub hx hb d_T_relationsAhead_64 ?_
      refine va_mmin hx hb (hml.trans hl.1.symm) hown (hw _ ml_T_365) (hw _ wt_MA_min) (hw _ wz_MA) (hw _ wc_MA_min) (Nat.le_of_ble_eq_true rfl) (Nat.le_of_ble_eq_true rfl) (Nat.le_of_ble_eq_true rfl) (Nat.le_of_ble_eq_true rfl) d_T_relationsAhead_65 ?_
      refine lv_icmp_gt (tgt := 75) hx hb d_T_relationsAhead_68 (by decide) (fun c4 => ?_) (fun c4 => ?_)
      · refine lv_iload_n hx hb d_T_relationsAhead_75 rfl (lv_at hl 0 rfl) ?_
        exact W.iret (v := 0 ||| 2) hx hb hr (fun t ht hW => ⟨0 ||| 2, rfl, (by simp only [c_ra, c_ra1, c_ra2, c_ra3, if_pos c1, decide_eq_true c1, if_neg c2, decide_eq_false c2, if_pos c4, decide_eq_true c4]), ht⟩) (fun _ h => nomatch h) d_T_relationsAhead_76
      · refine lv_iload_n hx hb d_T_relationsAhead_71 rfl (lv_at hl 0 rfl) ?_
        refine lv_iconst (v := 4) hx hb d_T_relationsAhead_72 (by decide) ?_
        refine lv_ior hx hb d_T_relationsAhead_73 ?_
        refine lv_istore_n (lv' := [(2, .int ((0 ||| 2) ||| 4)), (3, .int (if (e0 + 1) < e0q then e0q else (e0 + 1))), (0, .ref yo), (1, .ref yq)]) hx hb d_T_relationsAhead_74 rfl hl (by decide) rfl (fun ls hl => ?_)
        refine lv_iload_n hx hb d_T_relationsAhead_75 rfl (lv_at hl 0 rfl) ?_
        exact W.iret (v := (0 ||| 2) ||| 4) hx hb hr (fun t ht hW => ⟨(0 ||| 2) ||| 4, rfl, (by simp only [c_ra, c_ra1, c_ra2, c_ra3, if_pos c1, decide_eq_true c1, if_neg c2, decide_eq_false c2, if_neg c4, decide_eq_false c4]), ht⟩) (fun _ h => nomatch h) d_T_relationsAhead_76
  · refine lv_iload_n hx hb d_T_relationsAhead_29 rfl (lv_at hl 1 rfl) ?_
    refine lv_iconst (v := 1) hx hb d_T_relationsAhead_30 (by decide) ?_
    refine lv_ior hx hb d_T_relationsAhead_31 ?_
    refine lv_istore_n (lv' := [(2, .int (0 ||| 1)), (3, .int (if (e0 + 1) < e0q then e0q else (e0 + 1))), (0, .ref yo), (1, .ref yq)]) hx hb d_T_relationsAhead_32 rfl hl (by decide) rfl (fun ls hl => ?_)
    refine lv_iload_n hx hb d_T_relationsAhead_33 rfl (lv_at hl 1 rfl) ?_
    refine lv_aload_n hx hb d_T_relationsAhead_34 rfl (lv_at hl 2 rfl) ?_
    refine va_get (D := D) (ci := 2) (v := .int e1) (C := "TimeWords$Years") (T := F_Y) (N := 4) hx hb hw in_Y hown hK hP 0 rfl rfl 1 (by decide) (hw _ fl_T_156) (fun _ h9 => h9) rfl d_T_relationsAhead_35 ?_
    refine lv_iconst (v := 1) hx hb d_T_relationsAhead_38 (by decide) ?_
    refine lv_iadd hx hb d_T_relationsAhead_39 ?_
    refine lv_aload_n hx hb d_T_relationsAhead_40 rfl (lv_at hl 3 rfl) ?_
    refine va_get (D := D) (ci := 2) (v := .int e1q) (C := "TimeWords$Years") (T := F_Y) (N := 4) hx hb hw in_Y hown hK hP 1 rfl rfl 1 (by decide) (hw _ fl_T_156) (fun _ h9 => h9) rfl d_T_relationsAhead_41 ?_
    refine va_mmin hx hb (hml.trans hl.1.symm) hown (hw _ ml_T_365) (hw _ wt_MA_min) (hw _ wz_MA) (hw _ wc_MA_min) (Nat.le_of_ble_eq_true rfl) (Nat.le_of_ble_eq_true rfl) (Nat.le_of_ble_eq_true rfl) (Nat.le_of_ble_eq_true rfl) d_T_relationsAhead_44 ?_
    refine lv_icmp_gt (tgt := 54) hx hb d_T_relationsAhead_47 (by decide) (fun c5 => ?_) (fun c5 => ?_)
    · refine lv_iload_n hx hb d_T_relationsAhead_54 rfl (lv_at hl 1 rfl) ?_
      refine lv_aload_n hx hb d_T_relationsAhead_55 rfl (lv_at hl 2 rfl) ?_
      refine va_get (D := D) (ci := 2) (v := .int e1) (C := "TimeWords$Years") (T := F_Y) (N := 4) hx hb hw in_Y hown hK hP 0 rfl rfl 1 (by decide) (hw _ fl_T_156) (fun _ h9 => h9) rfl d_T_relationsAhead_56 ?_
      refine lv_aload_n hx hb d_T_relationsAhead_59 rfl (lv_at hl 3 rfl) ?_
      refine va_get (D := D) (ci := 2) (v := .int e1q) (C := "TimeWords$Years") (T := F_Y) (N := 4) hx hb hw in_Y hown hK hP 1 rfl rfl 1 (by decide) (hw _ fl_T_156) (fun _ h9 => h9) rfl d_T_relationsAhead_60 ?_
      refine lv_iconst (v := 1) hx hb d_T_relationsAhead_63 (by decide) ?_
      refine lv_isub hx hb d_T_relationsAhead_64 ?_
      refine va_mmin hx hb (hml.trans hl.1.symm) hown (hw _ ml_T_365) (hw _ wt_MA_min) (hw _ wz_MA) (hw _ wc_MA_min) (Nat.le_of_ble_eq_true rfl) (Nat.le_of_ble_eq_true rfl) (Nat.le_of_ble_eq_true rfl) (Nat.le_of_ble_eq_true rfl) d_T_relationsAhead_65 ?_
      refine lv_icmp_gt (tgt := 75) hx hb d_T_relationsAhead_68 (by decide) (fun c6 => ?_) (fun c6 => ?_)
      · refine lv_iload_n hx hb d_T_relationsAhead_75 rfl (lv_at hl 0 rfl) ?_
        exact W.iret (v := 0 ||| 1) hx hb hr (fun t ht hW => ⟨0 ||| 1, rfl, (by simp only [c_ra, c_ra1, c_ra2, c_ra3, if_neg c1, decide_eq_false c1, if_pos c5, decide_eq_true c5, if_pos c6, decide_eq_true c6]), ht⟩) (fun _ h => nomatch h) d_T_relationsAhead_76
      · refine lv_iload_n hx hb d_T_relationsAhead_71 rfl (lv_at hl 0 rfl) ?_
        refine lv_iconst (v := 4) hx hb d_T_relationsAhead_72 (by decide) ?_
        refine lv_ior hx hb d_T_relationsAhead_73 ?_
        refine lv_istore_n (lv' := [(2, .int ((0 ||| 1) ||| 4)), (3, .int (if (e0 + 1) < e0q then e0q else (e0 + 1))), (0, .ref yo), (1, .ref yq)]) hx hb d_T_relationsAhead_74 rfl hl (by decide) rfl (fun ls hl => ?_)
        refine lv_iload_n hx hb d_T_relationsAhead_75 rfl (lv_at hl 0 rfl) ?_
        exact W.iret (v := (0 ||| 1) ||| 4) hx hb hr (fun t ht hW => ⟨(0 ||| 1) ||| 4, rfl, (by simp only [c_ra, c_ra1, c_ra2, c_ra3, if_neg c1, decide_eq_false c1, if_pos c5, decide_eq_true c5, if_neg c6, decide_eq_false c6]), ht⟩) (fun _ h => nomatch h) d_T_relationsAhead_76
    · refine lv_iload_n hx hb d_T_relationsAhead_50 rfl (lv_at hl 0 rfl) ?_
      refine lv_iconst (v := 2) hx hb d_T_relationsAhead_51 (by decide) ?_
      refine lv_ior hx hb d_T_relationsAhead_52 ?_
      refine lv_istore_n (lv' := [(2, .int ((0 ||| 1) ||| 2)), (3, .int (if (e0 + 1) < e0q then e0q else (e0 + 1))), (0, .ref yo), (1, .ref yq)]) hx hb d_T_relationsAhead_53 rfl hl (by decide) rfl (fun ls hl => ?_)
      refine lv_iload_n hx hb d_T_relationsAhead_54 rfl (lv_at hl 1 rfl) ?_
      refine lv_aload_n hx hb d_T_relationsAhead_55 rfl (lv_at hl 2 rfl) ?_
      refine va_get (D := D) (ci := 2) (v := .int e1) (C := "TimeWords$Years") (T := F_Y) (N := 4) hx hb hw in_Y hown hK hP 0 rfl rfl 1 (by decide) (hw _ fl_T_156) (fun _ h9 => h9) rfl d_T_relationsAhead_56 ?_
      refine lv_aload_n hx hb d_T_relationsAhead_59 rfl (lv_at hl 3 rfl) ?_
      refine va_get (D := D) (ci := 2) (v := .int e1q) (C := "TimeWords$Years") (T := F_Y) (N := 4) hx hb hw in_Y hown hK hP 1 rfl rfl 1 (by decide) (hw _ fl_T_156) (fun _ h9 => h9) rfl d_T_relationsAhead_60 ?_
      refine lv_iconst (v := 1) hx hb d_T_relationsAhead_63 (by decide) ?_
      refine lv_isub hx hb d_T_relationsAhead_64 ?_
      refine va_mmin hx hb (hml.trans hl.1.symm) hown (hw _ ml_T_365) (hw _ wt_MA_min) (hw _ wz_MA) (hw _ wc_MA_min) (Nat.le_of_ble_eq_true rfl) (Nat.le_of_ble_eq_true rfl) (Nat.le_of_ble_eq_true rfl) (Nat.le_of_ble_eq_true rfl) d_T_relationsAhead_65 ?_
      refine lv_icmp_gt (tgt := 75) hx hb d_T_relationsAhead_68 (by decide) (fun c7 => ?_) (fun c7 => ?_)
      · refine lv_iload_n hx hb d_T_relationsAhead_75 rfl (lv_at hl 0 rfl) ?_
        exact W.iret (v := (0 ||| 1) ||| 2) hx hb hr (fun t ht hW => ⟨(0 ||| 1) ||| 2, rfl, (by simp only [c_ra, c_ra1, c_ra2, c_ra3, if_neg c1, decide_eq_false c1, if_neg c5, decide_eq_false c5, if_pos c7, decide_eq_true c7]), ht⟩) (fun _ h => nomatch h) d_T_relationsAhead_76
      · refine lv_iload_n hx hb d_T_relationsAhead_71 rfl (lv_at hl 0 rfl) ?_
        refine lv_iconst (v := 4) hx hb d_T_relationsAhead_72 (by decide) ?_
        refine lv_ior hx hb d_T_relationsAhead_73 ?_
        refine lv_istore_n (lv' := [(2, .int (((0 ||| 1) ||| 2) ||| 4)), (3, .int (if (e0 + 1) < e0q then e0q else (e0 + 1))), (0, .ref yo), (1, .ref yq)]) hx hb d_T_relationsAhead_74 rfl hl (by decide) rfl (fun ls hl => ?_)
        refine lv_iload_n hx hb d_T_relationsAhead_75 rfl (lv_at hl 0 rfl) ?_
        exact W.iret (v := ((0 ||| 1) ||| 2) ||| 4) hx hb hr (fun t ht hW => ⟨((0 ||| 1) ||| 2) ||| 4, rfl, (by simp only [c_ra, c_ra1, c_ra2, c_ra3, if_neg c1, decide_eq_false c1, if_neg c5, decide_eq_false c5, if_neg c7, decide_eq_false c7]), ht⟩) (fun _ h => nomatch h) d_T_relationsAhead_76

set_option maxHeartbeats 4000000 in
set_option maxRecDepth 100000 in
theorem k_T_relationsOfSharing (l : Launch) (D : va_G) (T : gT) (yo : Nat) (e0 e1 : Int32) (oF oT : Bool) (yq : Nat) (e0q e1q : Int32) (oFq oTq : Bool) : Met l y_T_relationsOfSharing (Cond.code y_T_relationsOfSharing b_T_relationsOfSharing 3 (some .int) :: bg_W) ({ frames := 1, cells := 0, slots := 0, locals := 20 }) (sP D T ([(yo, .inr (2, [.int e0, .int e1, .int (b2i oF), .int (b2i oT)])), (yq, .inr (2, [.int e0q, .int e1q, .int (b2i oFq), .int (b2i oTq)]))]) [.ref yo, .ref yq]) (vp_Si (fun r : Int32 => r = c_rb e0 e1 e0q e1q)) 0 0 (fun _ => False) := by
  refine Met.ofW (cc := b_T_relationsOfSharing) (maxL := 3) (ret := (some .int)) (by decide) rfl ?_
  intro p e s m args below meth c s₁ B hml hv
  obtain ⟨rfl, hP, hK⟩ := hv
  have hx := B.exec
  have hb := B.bytes
  have hr := B.returns
  have hw : ∀ w ∈ bg_W, w.before ([.ref yo, .ref yq] : List Value).toArray s = true := fun w h => atoms_spec (ws := (Cond.code y_T_relationsOfSharing b_T_relationsOfSharing 3 (some .int) :: bg_W)) B.pre w (List.mem_cons_of_mem _ h)
  have hown : s.vm.findClass "TimeWords" = some m.cls := findClass_of_methodNamed B.named
  have hlocks := B.notSynchronized
  have hl := lv_entry ([.ref yo, .ref yq]) (n := 3) (Nat.le_of_ble_eq_true rfl)
  rw [lg_entry_eq]
  generalize (lg_sl ([.ref yo, .ref yq]) ++ List.replicate (3 - (lg_sl ([.ref yo, .ref yq])).length) Slot.unset).toArray = ls at hl ⊢
  have hl : lv_has ls 3 [(0, .ref yo), (1, .ref yq)] := hl
  refine lv_aload_n hx hb d_T_relationsOfSharing_0 rfl (lv_at hl 0 rfl) ?_
  refine va_get (D := D) (ci := 2) (v := .int e0) (C := "TimeWords$Years") (T := F_Y) (N := 4) hx hb hw in_Y hown hK hP 0 rfl rfl 0 (by decide) (hw _ fl_T_153) (fun _ h9 => h9) rfl d_T_relationsOfSharing_1 ?_
  refine lv_aload_n hx hb d_T_relationsOfSharing_4 rfl (lv_at hl 1 rfl) ?_
  refine va_get (D := D) (ci := 2) (v := .int e0q) (C := "TimeWords$Years") (T := F_Y) (N := 4) hx hb hw in_Y hown hK hP 1 rfl rfl 0 (by decide) (hw _ fl_T_153) (fun _ h9 => h9) rfl d_T_relationsOfSharing_5 ?_
  refine va_mmax hx hb (hml.trans hl.1.symm) hown (hw _ ml_T_368) (hw _ wt_MA_max) (hw _ wz_MA) (hw _ wc_MA_max) (Nat.le_of_ble_eq_true rfl) (Nat.le_of_ble_eq_true rfl) (Nat.le_of_ble_eq_true rfl) (Nat.le_of_ble_eq_true rfl) d_T_relationsOfSharing_8 ?_
  refine lv_aload_n hx hb d_T_relationsOfSharing_11 rfl (lv_at hl 0 rfl) ?_
  refine va_get (D := D) (ci := 2) (v := .int e1) (C := "TimeWords$Years") (T := F_Y) (N := 4) hx hb hw in_Y hown hK hP 0 rfl rfl 1 (by decide) (hw _ fl_T_156) (fun _ h9 => h9) rfl d_T_relationsOfSharing_12 ?_
  refine lv_aload_n hx hb d_T_relationsOfSharing_15 rfl (lv_at hl 1 rfl) ?_
  refine va_get (D := D) (ci := 2) (v := .int e1q) (C := "TimeWords$Years") (T := F_Y) (N := 4) hx hb hw in_Y hown hK hP 1 rfl rfl 1 (by decide) (hw _ fl_T_156) (fun _ h9 => h9) rfl d_T_relationsOfSharing_16 ?_
  refine va_mmin hx hb (hml.trans hl.1.symm) hown (hw _ ml_T_365) (hw _ wt_MA_min) (hw _ wz_MA) (hw _ wc_MA_min) (Nat.le_of_ble_eq_true rfl) (Nat.le_of_ble_eq_true rfl) (Nat.le_of_ble_eq_true rfl) (Nat.le_of_ble_eq_true rfl) d_T_relationsOfSharing_19 ?_
  refine lv_icmp_le (tgt := 27) hx hb d_T_relationsOfSharing_22 (by decide) (fun c1 => ?_) (fun c1 => ?_)
  · refine lv_bipush (v := 8) hx hb d_T_relationsOfSharing_27 (by decide) ?_
    refine lv_istore_n (lv' := [(2, .int 8), (0, .ref yo), (1, .ref yq)]) hx hb d_T_relationsOfSharing_29 rfl hl (by decide) rfl (fun ls hl => ?_)
    refine lv_aload_n hx hb d_T_relationsOfSharing_30 rfl (lv_at hl 2 rfl) ?_
    have hPc : va_P D gC ([(yq, .inr (2, [.int e0q, .int e1q, .int (b2i oFq), .int (b2i oTq)]))]) s.heap := (pc1 (hP 1 _ rfl) pc0)
    refine vp_callSi (va_Run.run (va_runV (As := []) (rest := []) ⟨hx, hb, hml, hown, hw⟩ (k_Y_length l D T yq e0q e1q oFq oTq) (cwV 0 hw (bg_V ml_T_227 wi_Y_length wv_Y_length wz_Y wc_Y_length) rfl rfl rfl (by decide +kernel) ⟨Nat.le_of_ble_eq_true rfl, Nat.le_of_ble_eq_true rfl⟩) ⟨sP_b, va_recv hK hPc (ci := 2) (q0 := 0) rfl rfl, sP_p hPc hK⟩ rfl rfl hl.1 rfl (lv_room (Nat.le_of_ble_eq_true rfl)) d_T_relationsOfSharing_31 ⟨Nat.le_of_ble_eq_true rfl, Nat.le_of_ble_eq_true rfl⟩)) (fun r2 hr2 => ?_)
    replace hr2 := hr2.symm; subst hr2
    refine lv_iconst (v := 1) hx hb d_T_relationsOfSharing_34 (by decide) ?_
    refine lv_icmp_le (tgt := 43) hx hb d_T_relationsOfSharing_35 (by decide) (fun c3 => ?_) (fun c3 => ?_)
    · refine lv_aload_n hx hb d_T_relationsOfSharing_43 rfl (lv_at hl 1 rfl) ?_
      have hPc : va_P D gC ([(yo, .inr (2, [.int e0, .int e1, .int (b2i oF), .int (b2i oT)]))]) s.heap := (pc1 (hP 0 _ rfl) pc0)
      refine vp_callSi (va_Run.run (va_runV (As := []) (rest := []) ⟨hx, hb, hml, hown, hw⟩ (k_Y_length l D T yo e0 e1 oF oT) (cwV 0 hw (bg_V ml_T_227 wi_Y_length wv_Y_length wz_Y wc_Y_length) rfl rfl rfl (by decide +kernel) ⟨Nat.le_of_ble_eq_true rfl, Nat.le_of_ble_eq_true rfl⟩) ⟨sP_b, va_recv hK hPc (ci := 2) (q0 := 0) rfl rfl, sP_p hPc hK⟩ rfl rfl hl.1 rfl (lv_room (Nat.le_of_ble_eq_true rfl)) d_T_relationsOfSharing_44 ⟨Nat.le_of_ble_eq_true rfl, Nat.le_of_ble_eq_true rfl⟩)) (fun r4 hr4 => ?_)
      replace hr4 := hr4.symm; subst hr4
      refine lv_iconst (v := 1) hx hb d_T_relationsOfSharing_47 (by decide) ?_
      refine lv_icmp_le (tgt := 56) hx hb d_T_relationsOfSharing_48 (by decide) (fun c5 => ?_) (fun c5 => ?_)
      · refine lv_iload_n hx hb d_T_relationsOfSharing_56 rfl (lv_at hl 0 rfl) ?_
        exact W.iret (v := 8) hx hb hr (fun t ht hW => ⟨8, rfl, (by simp only [c_rb, c_rb1, c_rb2, if_pos c1, decide_eq_true c1, if_pos c3, decide_eq_true c3, if_pos c5, decide_eq_true c5]), ht⟩) (fun _ h => nomatch h) d_T_relationsOfSharing_57
      · refine lv_iload_n hx hb d_T_relationsOfSharing_51 rfl (lv_at hl 0 rfl) ?_
        refine lv_bipush (v := 32) hx hb d_T_relationsOfSharing_52 (by decide) ?_
        refine lv_ior hx hb d_T_relationsOfSharing_54 ?_
        refine lv_istore_n (lv' := [(2, .int (8 ||| 32)), (0, .ref yo), (1, .ref yq)]) hx hb d_T_relationsOfSharing_55 rfl hl (by decide) rfl (fun ls hl => ?_)
        refine lv_iload_n hx hb d_T_relationsOfSharing_56 rfl (lv_at hl 0 rfl) ?_
        exact W.iret (v := 8 ||| 32) hx hb hr (fun t ht hW => ⟨8 ||| 32, rfl, (by simp only [c_rb, c_rb1, c_rb2, if_pos c1, decide_eq_true c1, if_pos c3, decide_eq_true c3, if_neg c5, decide_eq_false c5]), ht⟩) (fun _ h => nomatch h) d_T_relationsOfSharing_57
    · refine lv_iload_n hx hb d_T_relationsOfSharing_38 rfl (lv_at hl 0 rfl) ?_
      refine lv_bipush (v := 16) hx hb d_T_relationsOfSharing_39 (by decide) ?_
      refine lv_ior hx hb d_T_relationsOfSharing_41 ?_
      refine lv_istore_n (lv' := [(2, .int (8 ||| 16)), (0, .ref yo), (1, .ref yq)]) hx hb d_T_relationsOfSharing_42 rfl hl (by decide) rfl (fun ls hl => ?_)
      refine lv_aload_n hx hb d_T_relationsOfSharing_43 rfl (lv_at hl 1 rfl) ?_
      have hPc : va_P D gC ([(yo, .inr (2, [.int e0, .int e1, .int (b2i oF), .int (b2i oT)]))]) s.heap := (pc1 (hP 0 _ rfl) pc0)
      refine vp_callSi (va_Run.run (va_runV (As := []) (rest := []) ⟨hx, hb, hml, hown, hw⟩ (k_Y_length l D T yo e0 e1 oF oT) (cwV 0 hw (bg_V ml_T_227 wi_Y_length wv_Y_length wz_Y wc_Y_length) rfl rfl rfl (by decide +kernel) ⟨Nat.le_of_ble_eq_true rfl, Nat.le_of_ble_eq_true rfl⟩) ⟨sP_b, va_recv hK hPc (ci := 2) (q0 := 0) rfl rfl, sP_p hPc hK⟩ rfl rfl hl.1 rfl (lv_room (Nat.le_of_ble_eq_true rfl)) d_T_relationsOfSharing_44 ⟨Nat.le_of_ble_eq_true rfl, Nat.le_of_ble_eq_true rfl⟩)) (fun r6 hr6 => ?_)
      replace hr6 := hr6.symm; subst hr6
      refine lv_iconst (v := 1) hx hb d_T_relationsOfSharing_47 (by decide) ?_
      refine lv_icmp_le (tgt := 56) hx hb d_T_relationsOfSharing_48 (by decide) (fun c7 => ?_) (fun c7 => ?_)
      · refine lv_iload_n hx hb d_T_relationsOfSharing_56 rfl (lv_at hl 0 rfl) ?_
        exact W.iret (v := 8 ||| 16) hx hb hr (fun t ht hW => ⟨8 ||| 16, rfl, (by simp only [c_rb, c_rb1, c_rb2, if_pos c1, decide_eq_true c1, if_neg c3, decide_eq_false c3, if_pos c7, decide_eq_true c7]), ht⟩) (fun _ h => nomatch h) d_T_relationsOfSharing_57
      · refine lv_iload_n hx hb d_T_relationsOfSharing_51 rfl (lv_at hl 0 rfl) ?_
        refine lv_bipush (v := 32) hx hb d_T_relationsOfSharing_52 (by decide) ?_
        refine lv_ior hx hb d_T_relationsOfSharing_54 ?_
        refine lv_istore_n (lv' := [(2, .int ((8 ||| 16) ||| 32)), (0, .ref yo), (1, .ref yq)]) hx hb d_T_relationsOfSharing_55 rfl hl (by decide) rfl (fun ls hl => ?_)
        refine lv_iload_n hx hb d_T_relationsOfSharing_56 rfl (lv_at hl 0 rfl) ?_
        exact W.iret (v := (8 ||| 16) ||| 32) hx hb hr (fun t ht hW => ⟨(8 ||| 16) ||| 32, rfl, (by simp only [c_rb, c_rb1, c_rb2, if_pos c1, decide_eq_true c1, if_neg c3, decide_eq_false c3, if_neg c7, decide_eq_false c7]), ht⟩) (fun _ h => nomatch h) d_T_relationsOfSharing_57
  · refine lv_iconst (v := 0) hx hb d_T_relationsOfSharing_25 (by decide) ?_
    exact W.iret (v := 0) hx hb hr (fun t ht hW => ⟨0, rfl, (by simp only [c_rb, c_rb1, c_rb2, if_neg c1, decide_eq_false c1]), ht⟩) (fun _ h => nomatch h) d_T_relationsOfSharing_26

set_option maxHeartbeats 4000000 in
set_option maxRecDepth 100000 in
theorem k_T_daysIn (l : Launch) (D : va_G) (T : gT) (κ : gS) (A : Nat → Prop) (x : Int32) (mm : Nat) (hy0 : 1 ≤ mm) (hy1 : mm ≤ 12) : Met l y_T_daysIn (Cond.code y_T_daysIn b_T_daysIn 2 (some .int) :: bg_W) ({ frames := 1, cells := 0, slots := 0, locals := 20 }) (sPf κ A D T ([]) [.int x, .int (nI mm)]) (vp_Si (fun r : Int32 => r = j_dy x (nI mm))) 0 0 (fun _ => False) := by
  refine Met.ofW (cc := b_T_daysIn) (maxL := 2) (ret := (some .int)) (by decide) rfl ?_
  intro p e s m args below meth c s₁ B hml hv
  obtain ⟨rfl, hP, hK, hF⟩ := hv
  have hx := B.exec
  have hb := B.bytes
  have hr := B.returns
  have hw : ∀ w ∈ bg_W, w.before ([.int x, .int (nI mm)] : List Value).toArray s = true := fun w h => atoms_spec (ws := (Cond.code y_T_daysIn b_T_daysIn 2 (some .int) :: bg_W)) B.pre w (List.mem_cons_of_mem _ h)
  have hown : s.vm.findClass "TimeWords" = some m.cls := findClass_of_methodNamed B.named
  have hlocks := B.notSynchronized
  have hS : va_S A s.heap s.heap [] := va_S.rf
  have hl := lv_entry ([.int x, .int (nI mm)]) (n := 2) (Nat.le_of_ble_eq_true rfl)
  rw [lg_entry_eq]
  generalize (lg_sl ([.int x, .int (nI mm)]) ++ List.replicate (2 - (lg_sl ([.int x, .int (nI mm)])).length) Slot.unset).toArray = ls at hl ⊢
  have hl : lv_has ls 2 [(0, .int x), (1, .int (nI mm))] := hl
  refine lv_iload_n hx hb d_T_daysIn_0 rfl (lv_at hl 1 rfl) ?_
  refine lv_iconst (v := 1) hx hb d_T_daysIn_1 (by decide) ?_
  refine lv_icmp_lt (tgt := 13) hx hb d_T_daysIn_2 (by decide) (fun c1 => absurd c1 ((show ¬ nI mm < nI 1 from nI_nlt (by omega) (by omega)))) (fun c1 => ?_)
  refine lv_iload_n hx hb d_T_daysIn_5 rfl (lv_at hl 1 rfl) ?_
  refine va_gets (v := .ref κ.2.2.2.1) hx hb hF.2.1.2.2.2.1 hS hown (hw _ fl_T_206) (fun _ h9 => h9) d_T_daysIn_6 ?_
  refine va_tlen (v := 12) hx hb hF.2.1.2.2.2.2.1 hS rfl d_T_daysIn_9 ?_
  refine lv_icmp_le (tgt := 15) hx hb d_T_daysIn_10 (by decide) (fun c2 => ?_) (fun c2 => absurd ((show nI mm ≤ nI 12 from nI_le (by omega) (by decide))) c2)
  refine va_gets (v := .ref κ.2.2.2.1) hx hb hF.2.1.2.2.2.1 hS hown (hw _ fl_T_206) (fun _ h9 => h9) d_T_daysIn_15 ?_
  refine lv_iload_n hx hb d_T_daysIn_18 rfl (lv_at hl 1 rfl) ?_
  refine lv_iconst (v := 1) hx hb d_T_daysIn_19 (by decide) ?_
  refine lv_isub hx hb d_T_daysIn_20 ?_
  rw [show (nI mm) - 1 = nI (mm - 1) from pk_sub (a := mm) (b := 1) (by omega)]
  refine va_ti (v := .int (dM.getD (mm - 1) 0)) hx hb hF.2.1.2.2.2.2.1 hS (vp_in_nI (by omega) (by omega)) (by rw [show (nI (mm - 1)).toNatClampNeg = mm - 1 from nI_clamp (by omega)]) d_T_daysIn_21 ?_
  refine lv_iload_n hx hb d_T_daysIn_22 rfl (lv_at hl 1 rfl) ?_
  refine lv_iconst (v := 2) hx hb d_T_daysIn_23 (by decide) ?_
  refine lv_icmp_ne (tgt := 38) hx hb d_T_daysIn_24 (by decide) (fun c3 => ?_) (fun c3 => ?_)
  · have c3 := nc_ne (a := mm) (b := 2) c3 (by omega) (by omega)
    refine lv_iconst (v := 0) hx hb d_T_daysIn_38 (by decide) ?_
    refine lv_iadd hx hb d_T_daysIn_39 ?_
    exact W.iret (v := (dM.getD (mm - 1) 0) + 0) hx hb hr (fun t ht hW => ⟨(dM.getD (mm - 1) 0) + 0, rfl, (by rw [dy_eq mm (by omega) hy0 x, if_neg (fun z => by have := z.1; omega)]), ht⟩) (fun _ h => nomatch h) d_T_daysIn_40
  · have c3 := nc_eq (a := mm) (b := 2) c3 (by omega) (by omega)
    refine lv_iload_n hx hb d_T_daysIn_27 rfl (lv_at hl 0 rfl) ?_
    refine vp_callSi (va_Run.run (va_runS (As := [.int x]) (rest := [.int (dM.getD (mm - 1) 0)]) ⟨hx, hb, hml, hown, hw⟩ (k_T_isLeapYear l x) (va_cwS 1 hw (bg_S ml_T_371 wt_T_isLeapYear wz_T wc_T_isLeapYear) rfl rfl rfl (by decide +kernel) ⟨Nat.le_of_ble_eq_true rfl, Nat.le_of_ble_eq_true rfl⟩) ⟨nP_b, nP_p⟩ rfl rfl hl.1 rfl (lv_room (Nat.le_of_ble_eq_true rfl)) d_T_daysIn_28 ⟨Nat.le_of_ble_eq_true rfl, Nat.le_of_ble_eq_true rfl⟩)) (fun r4 hr4 => ?_)
    replace hr4 := hr4.symm; subst hr4
    refine lv_if_eq (tgt := 38) hx hb d_T_daysIn_31 (by decide) (fun c5 => ?_) (fun c5 => ?_)
    · have c5 := b2i_f c5
      refine lv_iconst (v := 0) hx hb d_T_daysIn_38 (by decide) ?_
      refine lv_iadd hx hb d_T_daysIn_39 ?_
      exact W.iret (v := (dM.getD (mm - 1) 0) + 0) hx hb hr (fun t ht hW => ⟨(dM.getD (mm - 1) 0) + 0, rfl, (by rw [dy_eq mm (by omega) hy0 x, if_neg (fun z => absurd z.2 (by rw [c5]; decide))]), ht⟩) (fun _ h => nomatch h) d_T_daysIn_40
    · have c5 := b2i_t c5
      refine lv_iconst (v := 1) hx hb d_T_daysIn_34 (by decide) ?_
      refine lv_goto (tgt := 39) hx hb d_T_daysIn_35 (by decide) ?_
      refine lv_iadd hx hb d_T_daysIn_39 ?_
      exact W.iret (v := (dM.getD (mm - 1) 0) + 1) hx hb hr (fun t ht hW => ⟨(dM.getD (mm - 1) 0) + 1, rfl, (by rw [dy_eq mm (by omega) hy0 x, if_pos ⟨by omega, c5⟩]), ht⟩) (fun _ h => nomatch h) d_T_daysIn_40

set_option maxHeartbeats 4000000 in
set_option maxRecDepth 100000 in
theorem k_T_firstWeekday (l : Launch) (D : va_G) (T : gT) (κ : gS) (A : Nat → Prop) (x : Int32) (mm : Nat) (hy0 : 1 ≤ mm) (hy1 : mm ≤ 12) : Met l y_T_firstWeekday (Cond.code y_T_firstWeekday b_T_firstWeekday 5 (some .int) :: bg_W) ({ frames := 2, cells := 0, slots := 0, locals := 41 }) (sPf κ A D T ([]) [.int x, .int (nI mm)]) (vp_Si (fun r : Int32 => r = c_fm (j_md x (365 * (x - 1) + c_fd (x - 1) 4 - c_fd (x - 1) 100 + c_fd (x - 1) 400) (mm - 1)) 7)) 0 0 (fun _ => False) := by
  refine Met.ofW (cc := b_T_firstWeekday) (maxL := 5) (ret := (some .int)) (by decide) rfl ?_
  intro p e s m args below meth c s₁ B hml hv
  obtain ⟨rfl, hP, hK, hF⟩ := hv
  have hx := B.exec
  have hb := B.bytes
  have hr := B.returns
  have hw : ∀ w ∈ bg_W, w.before ([.int x, .int (nI mm)] : List Value).toArray s = true := fun w h => atoms_spec (ws := (Cond.code y_T_firstWeekday b_T_firstWeekday 5 (some .int) :: bg_W)) B.pre w (List.mem_cons_of_mem _ h)
  have hown : s.vm.findClass "TimeWords" = some m.cls := findClass_of_methodNamed B.named
  have hlocks := B.notSynchronized
  have hS : va_S A s.heap s.heap [] := va_S.rf
  have hl := lv_entry ([.int x, .int (nI mm)]) (n := 5) (Nat.le_of_ble_eq_true rfl)
  rw [lg_entry_eq]
  generalize (lg_sl ([.int x, .int (nI mm)]) ++ List.replicate (5 - (lg_sl ([.int x, .int (nI mm)])).length) Slot.unset).toArray = ls at hl ⊢
  have hl : lv_has ls 5 [(0, .int x), (1, .int (nI mm))] := hl
  refine lv_iload_n hx hb d_T_firstWeekday_0 rfl (lv_at hl 0 rfl) ?_
  refine lv_iconst (v := 1) hx hb d_T_firstWeekday_1 (by decide) ?_
  refine lv_isub hx hb d_T_firstWeekday_2 ?_
  refine lv_istore_n (lv' := [(2, .int (x - 1)), (0, .int x), (1, .int (nI mm))]) hx hb d_T_firstWeekday_3 rfl hl (by decide) rfl (fun ls hl => ?_)
  refine lv_sipush (v := 365) hx hb d_T_firstWeekday_4 (by decide) ?_
  refine lv_iload_n hx hb d_T_firstWeekday_7 rfl (lv_at hl 0 rfl) ?_
  refine lv_imul hx hb d_T_firstWeekday_8 ?_
  refine lv_iload_n hx hb d_T_firstWeekday_9 rfl (lv_at hl 0 rfl) ?_
  refine lv_iconst (v := 4) hx hb d_T_firstWeekday_10 (by decide) ?_
  refine vp_callSi (va_Run.run (va_runS (As := [.int (x - 1), .int 4]) (rest := [.int (365 * (x - 1))]) ⟨hx, hb, hml, hown, hw⟩ (k_MA_floorDiv l (x - 1) 4 (by decide)) (va_cwS 2 hw (bg_S ml_T_330 wt_MA_floorDiv wz_MA wc_MA_floorDiv) rfl rfl rfl (by decide +kernel) ⟨Nat.le_of_ble_eq_true rfl, Nat.le_of_ble_eq_true rfl⟩) ⟨nP_b, nP_p⟩ rfl rfl hl.1 rfl (lv_room (Nat.le_of_ble_eq_true rfl)) d_T_firstWeekday_11 ⟨Nat.le_of_ble_eq_true rfl, Nat.le_of_ble_eq_true rfl⟩)) (fun r1 hr1 => ?_)
  replace hr1 := hr1.symm; subst hr1
  refine lv_iadd hx hb d_T_firstWeekday_14 ?_
  refine lv_iload_n hx hb d_T_firstWeekday_15 rfl (lv_at hl 0 rfl) ?_
  refine lv_bipush (v := 100) hx hb d_T_firstWeekday_16 (by decide) ?_
  refine vp_callSi (va_Run.run (va_runS (As := [.int (x - 1), .int 100]) (rest := [.int ((365 * (x - 1)) + (c_fd (x - 1) 4))]) ⟨hx, hb, hml, hown, hw⟩ (k_MA_floorDiv l (x - 1) 100 (by decide)) (va_cwS 2 hw (bg_S ml_T_330 wt_MA_floorDiv wz_MA wc_MA_floorDiv) rfl rfl rfl (by decide +kernel) ⟨Nat.le_of_ble_eq_true rfl, Nat.le_of_ble_eq_true rfl⟩) ⟨nP_b, nP_p⟩ rfl rfl hl.1 rfl (lv_room (Nat.le_of_ble_eq_true rfl)) d_T_firstWeekday_18 ⟨Nat.le_of_ble_eq_true rfl, Nat.le_of_ble_eq_true rfl⟩)) (fun r2 hr2 => ?_)
  replace hr2 := hr2.symm; subst hr2
  refine lv_isub hx hb d_T_firstWeekday_21 ?_
  refine lv_iload_n hx hb d_T_firstWeekday_22 rfl (lv_at hl 0 rfl) ?_
  refine lv_sipush (v := 400) hx hb d_T_firstWeekday_23 (by decide) ?_
  refine vp_callSi (va_Run.run (va_runS (As := [.int (x - 1), .int 400]) (rest := [.int (((365 * (x - 1)) + (c_fd (x - 1) 4)) - (c_fd (x - 1) 100))]) ⟨hx, hb, hml, hown, hw⟩ (k_MA_floorDiv l (x - 1) 400 (by decide)) (va_cwS 2 hw (bg_S ml_T_330 wt_MA_floorDiv wz_MA wc_MA_floorDiv) rfl rfl rfl (by decide +kernel) ⟨Nat.le_of_ble_eq_true rfl, Nat.le_of_ble_eq_true rfl⟩) ⟨nP_b, nP_p⟩ rfl rfl hl.1 rfl (lv_room (Nat.le_of_ble_eq_true rfl)) d_T_firstWeekday_26 ⟨Nat.le_of_ble_eq_true rfl, Nat.le_of_ble_eq_true rfl⟩)) (fun r3 hr3 => ?_)
  replace hr3 := hr3.symm; subst hr3
  refine lv_iadd hx hb d_T_firstWeekday_29 ?_
  refine lv_istore_n (lv' := [(3, .int ((((365 * (x - 1)) + (c_fd (x - 1) 4)) - (c_fd (x - 1) 100)) + (c_fd (x - 1) 400))), (2, .int (x - 1)), (0, .int x), (1, .int (nI mm))]) hx hb d_T_firstWeekday_30 rfl hl (by decide) rfl (fun ls hl => ?_)
  refine lv_iconst (v := 1) hx hb d_T_firstWeekday_31 (by decide) ?_
  refine lv_istore (lv' := [(4, .int 1), (3, .int ((((365 * (x - 1)) + (c_fd (x - 1) 4)) - (c_fd (x - 1) 100)) + (c_fd (x - 1) 400))), (2, .int (x - 1)), (0, .int x), (1, .int (nI mm))]) hx hb d_T_firstWeekday_32 hl (by decide) rfl (fun ls hl => ?_)
  have loop : ∀ (nf : Nat) (q : Nat), (q + 1 ≤ mm) → ∀ (ls : Array Slot), lv_has ls 5 [(0, .int x), (1, .int (nI mm)), (2, .int (x - 1)), (3, .int (j_md x (365 * (x - 1) + c_fd (x - 1) 4 - c_fd (x - 1) 100 + c_fd (x - 1) 400) q)), (4, .int (nI (q + 1)))] → mm - q < nf → W p l e (headSpec (Cond.code y_T_firstWeekday b_T_firstWeekday 5 (some .int) :: bg_W) ({ frames := 2, cells := 0, slots := 0, locals := 41 })).room s m ([.int x, .int (nI mm)] : List Value).toArray below meth c s.heap [] 0 0 (MQ below (vp_Si (fun r : Int32 => r = c_fm (j_md x (365 * (x - 1) + c_fd (x - 1) 4 - c_fd (x - 1) 100 + c_fd (x - 1) 400) (mm - 1)) 7)) ([.int x, .int (nI mm)] : List Value).toArray s 0 0 (fun _ => False)) (F0 m 34 ls []) := by
    intro nf
    induction nf with
    | zero => intro q hq ls hl hm; exact absurd hm (Nat.not_lt_zero _)
    | succ nf ih =>
      intro q hq ls hl hm
      refine lv_iload hx hb d_T_firstWeekday_34 (lv_at hl 4 rfl) ?_
      refine lv_iload_n hx hb d_T_firstWeekday_36 rfl (lv_at hl 1 rfl) ?_
      refine lv_icmp_ge (tgt := 64) hx hb d_T_firstWeekday_37 (by decide) (fun c4 => ?_) (fun c4 => ?_)
      · have c4 := nc_le (a := mm) (b := q + 1) c4 (by omega) (by omega)
        refine lv_iload_n hx hb d_T_firstWeekday_64 rfl (lv_at hl 3 rfl) ?_
        refine lv_bipush (v := 7) hx hb d_T_firstWeekday_65 (by decide) ?_
        refine vp_callSi (va_Run.run (va_runS (As := [.int (j_md x (365 * (x - 1) + c_fd (x - 1) 4 - c_fd (x - 1) 100 + c_fd (x - 1) 400) q), .int 7]) (rest := []) ⟨hx, hb, hml, hown, hw⟩ (k_MA_floorMod l (j_md x (365 * (x - 1) + c_fd (x - 1) 4 - c_fd (x - 1) 100 + c_fd (x - 1) 400) q) 7 (by decide)) (va_cwS 2 hw (bg_S ml_T_220 wt_MA_floorMod wz_MA wc_MA_floorMod) rfl rfl rfl (by decide +kernel) ⟨Nat.le_of_ble_eq_true rfl, Nat.le_of_ble_eq_true rfl⟩) ⟨nP_b, nP_p⟩ rfl rfl hl.1 rfl (lv_room (Nat.le_of_ble_eq_true rfl)) d_T_firstWeekday_67 ⟨Nat.le_of_ble_eq_true rfl, Nat.le_of_ble_eq_true rfl⟩)) (fun r5 hr5 => ?_)
        replace hr5 := hr5.symm; subst hr5
        exact W.iret (v := c_fm (j_md x (365 * (x - 1) + c_fd (x - 1) 4 - c_fd (x - 1) 100 + c_fd (x - 1) 400) q) 7) hx hb hr (fun t ht hW => ⟨c_fm (j_md x (365 * (x - 1) + c_fd (x - 1) 4 - c_fd (x - 1) 100 + c_fd (x - 1) 400) q) 7, rfl, (by rw [show mm - 1 = q by omega]), ht⟩) (fun _ h => nomatch h) d_T_firstWeekday_70
      · have c4 := nc_nle (a := mm) (b := q + 1) c4 (by omega) (by omega)
        refine lv_iload hx hb d_T_firstWeekday_40 (lv_at hl 4 rfl) ?_
        refine va_gets (v := .ref κ.2.2.2.1) hx hb hF.2.1.2.2.2.1 hS hown (hw _ fl_T_206) (fun _ h9 => h9) d_T_firstWeekday_42 ?_
        refine va_tlen (v := 12) hx hb hF.2.1.2.2.2.2.1 hS rfl d_T_firstWeekday_45 ?_
        refine lv_icmp_gt (tgt := 64) hx hb d_T_firstWeekday_46 (by decide) (fun c6 => absurd c6 ((show ¬ nI 12 < nI (q + 1) from nI_nlt (by omega) (by decide)))) (fun c6 => ?_)
        refine lv_iload_n hx hb d_T_firstWeekday_49 rfl (lv_at hl 3 rfl) ?_
        refine lv_iload_n hx hb d_T_firstWeekday_50 rfl (lv_at hl 0 rfl) ?_
        refine lv_iload hx hb d_T_firstWeekday_51 (lv_at hl 4 rfl) ?_
        have hPc : va_P D gC ([]) s.heap := pc0
        refine vp_callSi (va_Run.run (va_runS (As := [.int x, .int (nI (q + 1))]) (rest := [.int (j_md x (365 * (x - 1) + c_fd (x - 1) 4 - c_fd (x - 1) 100 + c_fd (x - 1) 400) q)]) ⟨hx, hb, hml, hown, hw⟩ (k_T_daysIn l D T κ A x (q + 1) (by omega) (by omega)) (va_cwS 2 hw (bg_S ml_T_213 wt_T_daysIn wz_T wc_T_daysIn) rfl rfl rfl (by decide +kernel) ⟨Nat.le_of_ble_eq_true rfl, Nat.le_of_ble_eq_true rfl⟩) ⟨sPf_b, sPf_p hPc hK hF hS⟩ rfl rfl hl.1 rfl (lv_room (Nat.le_of_ble_eq_true rfl)) d_T_firstWeekday_53 ⟨Nat.le_of_ble_eq_true rfl, Nat.le_of_ble_eq_true rfl⟩)) (fun r7 hr7 => ?_)
        replace hr7 := hr7.symm; subst hr7
        refine lv_iadd hx hb d_T_firstWeekday_56 ?_
        refine lv_istore_n (lv' := [(3, .int ((j_md x (365 * (x - 1) + c_fd (x - 1) 4 - c_fd (x - 1) 100 + c_fd (x - 1) 400) q) + (j_dy x (nI (q + 1))))), (0, .int x), (1, .int (nI mm)), (2, .int (x - 1)), (4, .int (nI (q + 1)))]) hx hb d_T_firstWeekday_57 rfl hl (by decide) rfl (fun ls hl => ?_)
        refine lv_iinc (v := nI (q + 1 + 1)) (lv' := [(4, .int (nI (q + 1 + 1))), (3, .int ((j_md x (365 * (x - 1) + c_fd (x - 1) 4 - c_fd (x - 1) 100 + c_fd (x - 1) 400) q) + (j_dy x (nI (q + 1))))), (0, .int x), (1, .int (nI mm)), (2, .int (x - 1))]) hx hb d_T_firstWeekday_58 hl (k := 4) rfl (nI_add (q + 1) 1) (by decide) rfl (fun ls hl => ?_)
        refine lv_goto (tgt := 34) hx hb d_T_firstWeekday_61 (by decide) ?_
        exact ih (q + 1) (by omega) ls (lv_sub hl [2, 3, 4, 1, 0] rfl) (by omega)
  exact loop ((mm - 0) + 1) 0 hy0 ls (lv_sub hl [3, 4, 2, 1, 0] rfl) (Nat.lt_succ_self _)
