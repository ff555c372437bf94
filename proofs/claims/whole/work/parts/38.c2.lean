theorem sx_c : ∀ i, i < 7 → ∀ j, j < sL.getD i 0 → ((((sB.getD i []).getD j 0) &&& 255).toUInt32 % 65536).toInt32 = (sB.getD i []).getD j 0 := by decide +kernel
theorem sx_n : ∀ i, i < 7 → ∀ j, j < sL.getD i 0 → narrow .char (.int ((sB.getD i []).getD j 0)) = .int ((sB.getD i []).getD j 0) := by decide +kernel
theorem sx_l : ∀ i, i < 7 → sL.getD i 0 ≤ 7 := by decide +kernel
/-- the text of a beginning -/
def sX (i j : Nat) : Int32 := (sB.getD i []).getD j 0
set_option maxHeartbeats 4000000 in
set_option maxRecDepth 100000 in
theorem k_PC_checkIndex_n (l : Launch) (j n : Nat) (hy0 : j < n) (hy1 : n < 1000) : Met l y_PC_checkIndex (Cond.code y_PC_checkIndex b_PC_checkIndex 3 (some .int) :: bg_W) ({ frames := 0, cells := 0, slots := 0, locals := 0 }) (nP [.int (nI j), .int (nI n), .null]) (vp_Si (fun r : Int32 => r = nI j)) 0 0 (fun _ => False) := by
  refine Met.ofW (cc := b_PC_checkIndex) (maxL := 3) (ret := (some .int)) (by decide) rfl ?_
  intro p e s m args below meth c s₁ B hml hv
  obtain ⟨rfl, -⟩ := hv
  have hx := B.exec
  have hb := B.bytes
  have hr := B.returns
  have hw : ∀ w ∈ bg_W, w.before ([.int (nI j), .int (nI n), .null] : List Value).toArray s = true := fun w h => atoms_spec (ws := (Cond.code y_PC_checkIndex b_PC_checkIndex 3 (some .int) :: bg_W)) B.pre w (List.mem_cons_of_mem _ h)
  have hown : s.vm.findClass "jdk/internal/util/Preconditions" = some m.cls := findClass_of_methodNamed B.named
  have hlocks := B.notSynchronized
  have hl := lv_entry ([.int (nI j), .int (nI n), .null]) (n := 3) (Nat.le_of_ble_eq_true rfl)
  rw [lg_entry_eq]
  generalize (lg_sl ([.int (nI j), .int (nI n), .null]) ++ List.replicate (3 - (lg_sl ([.int (nI j), .int (nI n), .null])).length) Slot.unset).toArray = ls at hl ⊢
  have hl : lv_has ls 3 [(0, .int (nI j)), (1, .int (nI n)), (2, .null)] := hl
  refine lv_iload_n hx hb d_PC_checkIndex_0 rfl (lv_at hl 0 rfl) ?_
  refine lv_if_lt (tgt := 9) hx hb d_PC_checkIndex_1 (by decide) (fun c1 => absurd c1 (nI_pos (by omega))) (fun c1 => ?_)
  refine lv_iload_n hx hb d_PC_checkIndex_4 rfl (lv_at hl 0 rfl) ?_
  refine lv_iload_n hx hb d_PC_checkIndex_5 rfl (lv_at hl 1 rfl) ?_
  refine lv_icmp_lt (tgt := 16) hx hb d_PC_checkIndex_6 (by decide) (fun c2 => ?_) (fun c2 => absurd (nI_lt hy0 (by omega)) c2)
  refine lv_iload_n hx hb d_PC_checkIndex_16 rfl (lv_at hl 0 rfl) ?_
  exact W.iret (v := nI j) hx hb hr (fun t ht hW => ⟨nI j, rfl, rfl, ht⟩) (fun _ h => nomatch h) d_PC_checkIndex_17

set_option maxHeartbeats 4000000 in
set_option maxRecDepth 100000 in
theorem k_PC_checkIndex_r (l : Launch) (j n t9 : Nat) (hy0 : j < n) (hy1 : n < 1000) : Met l y_PC_checkIndex (Cond.code y_PC_checkIndex b_PC_checkIndex 3 (some .int) :: bg_W) ({ frames := 0, cells := 0, slots := 0, locals := 0 }) (nP [.int (nI j), .int (nI n), .ref t9]) (vp_Si (fun r : Int32 => r = nI j)) 0 0 (fun _ => False) := by
  refine Met.ofW (cc := b_PC_checkIndex) (maxL := 3) (ret := (some .int)) (by decide) rfl ?_
  intro p e s m args below meth c s₁ B hml hv
  obtain ⟨rfl, -⟩ := hv
  have hx := B.exec
  have hb := B.bytes
  have hr := B.returns
  have hw : ∀ w ∈ bg_W, w.before ([.int (nI j), .int (nI n), .ref t9] : List Value).toArray s = true := fun w h => atoms_spec (ws := (Cond.code y_PC_checkIndex b_PC_checkIndex 3 (some .int) :: bg_W)) B.pre w (List.mem_cons_of_mem _ h)
  have hown : s.vm.findClass "jdk/internal/util/Preconditions" = some m.cls := findClass_of_methodNamed B.named
  have hlocks := B.notSynchronized
  have hl := lv_entry ([.int (nI j), .int (nI n), .ref t9]) (n := 3) (Nat.le_of_ble_eq_true rfl)
  rw [lg_entry_eq]
  generalize (lg_sl ([.int (nI j), .int (nI n), .ref t9]) ++ List.replicate (3 - (lg_sl ([.int (nI j), .int (nI n), .ref t9])).length) Slot.unset).toArray = ls at hl ⊢
  have hl : lv_has ls 3 [(0, .int (nI j)), (1, .int (nI n)), (2, .ref t9)] := hl
  refine lv_iload_n hx hb d_PC_checkIndex_0 rfl (lv_at hl 0 rfl) ?_
  refine lv_if_lt (tgt := 9) hx hb d_PC_checkIndex_1 (by decide) (fun c1 => absurd c1 (nI_pos (by omega))) (fun c1 => ?_)
  refine lv_iload_n hx hb d_PC_checkIndex_4 rfl (lv_at hl 0 rfl) ?_
  refine lv_iload_n hx hb d_PC_checkIndex_5 rfl (lv_at hl 1 rfl) ?_
  refine lv_icmp_lt (tgt := 16) hx hb d_PC_checkIndex_6 (by decide) (fun c2 => ?_) (fun c2 => absurd (nI_lt hy0 (by omega)) c2)
  refine lv_iload_n hx hb d_PC_checkIndex_16 rfl (lv_at hl 0 rfl) ?_
  exact W.iret (v := nI j) hx hb hr (fun t ht hW => ⟨nI j, rfl, rfl, ht⟩) (fun _ h => nomatch h) d_PC_checkIndex_17

set_option maxHeartbeats 4000000 in
set_option maxRecDepth 100000 in
theorem k_O_checkIndex (l : Launch) (j n : Nat) (hy0 : j < n) (hy1 : n < 1000) : Met l y_O_checkIndex (Cond.code y_O_checkIndex b_O_checkIndex 2 (some .int) :: bg_W) ({ frames := 1, cells := 0, slots := 0, locals := 22 }) (nP [.int (nI j), .int (nI n)]) (vp_Si (fun r : Int32 => r = nI j)) 0 0 (fun _ => False) := by
  refine Met.ofW (cc := b_O_checkIndex) (maxL := 2) (ret := (some .int)) (by decide) rfl ?_
  intro p e s m args below meth c s₁ B hml hv
  obtain ⟨rfl, -⟩ := hv
  have hx := B.exec
  have hb := B.bytes
  have hr := B.returns
  have hw : ∀ w ∈ bg_W, w.before ([.int (nI j), .int (nI n)] : List Value).toArray s = true := fun w h => atoms_spec (ws := (Cond.code y_O_checkIndex b_O_checkIndex 2 (some .int) :: bg_W)) B.pre w (List.mem_cons_of_mem _ h)
  have hown : s.vm.findClass "java/util/Objects" = some m.cls := findClass_of_methodNamed B.named
  have hlocks := B.notSynchronized
  have hl := lv_entry ([.int (nI j), .int (nI n)]) (n := 2) (Nat.le_of_ble_eq_true rfl)
  rw [lg_entry_eq]
  generalize (lg_sl ([.int (nI j), .int (nI n)]) ++ List.replicate (2 - (lg_sl ([.int (nI j), .int (nI n)])).length) Slot.unset).toArray = ls at hl ⊢
  have hl : lv_has ls 2 [(0, .int (nI j)), (1, .int (nI n))] := hl
  refine lv_iload_n hx hb d_O_checkIndex_0 rfl (lv_at hl 0 rfl) ?_
  refine lv_iload_n hx hb d_O_checkIndex_1 rfl (lv_at hl 1 rfl) ?_
  refine lv_null hx hb d_O_checkIndex_2 ?_
  refine vp_callSi (va_Run.run (va_runS (As := [.int (nI j), .int (nI n), .null]) (rest := []) ⟨hx, hb, hml, hown, hw⟩ (k_PC_checkIndex_n l j n (by assumption) (by assumption)) (va_cwS 3 hw (bg_S ml_O_105 wt_PC_checkIndex wz_PC wc_PC_checkIndex) rfl rfl rfl (by decide +kernel) ⟨Nat.le_of_ble_eq_true rfl, Nat.le_of_ble_eq_true rfl⟩) ⟨nP_b, nP_p⟩ rfl rfl hl.1 rfl (lv_room (Nat.le_of_ble_eq_true rfl)) d_O_checkIndex_3 ⟨Nat.le_of_ble_eq_true rfl, Nat.le_of_ble_eq_true rfl⟩)) (fun r1 hr1 => ?_)
  replace hr1 := hr1.symm; subst hr1
  exact W.iret (v := nI j) hx hb hr (fun t ht hW => ⟨nI j, rfl, rfl, ht⟩) (fun _ h => nomatch h) d_O_checkIndex_6

set_option maxHeartbeats 4000000 in
set_option maxRecDepth 100000 in
theorem k_S_checkIndex (l : Launch) (D : va_G) (T : gT) (κ : gS) (A : Nat → Prop) (j n : Nat) (hy0 : j < n) (hy1 : n < 1000) : Met l y_S_checkIndex (Cond.code y_S_checkIndex b_S_checkIndex 2 none :: bg_W) ({ frames := 1, cells := 0, slots := 0, locals := 22 }) (sPf κ A D T ([]) [.int (nI j), .int (nI n)]) (va_Sv (fun _ => True)) 0 0 (fun _ => False) := by
  refine Met.ofW (cc := b_S_checkIndex) (maxL := 2) (ret := none) (by decide) rfl ?_
  intro p e s m args below meth c s₁ B hml hv
  obtain ⟨rfl, hP, hK, hF⟩ := hv
  have hx := B.exec
  have hb := B.bytes
  have hr := B.returns
  have hw : ∀ w ∈ bg_W, w.before ([.int (nI j), .int (nI n)] : List Value).toArray s = true := fun w h => atoms_spec (ws := (Cond.code y_S_checkIndex b_S_checkIndex 2 none :: bg_W)) B.pre w (List.mem_cons_of_mem _ h)
  have hown : s.vm.findClass "java/lang/String" = some m.cls := findClass_of_methodNamed B.named
  have hlocks := B.notSynchronized
  have hS : va_S A s.heap s.heap [] := va_S.rf
  have hl := lv_entry ([.int (nI j), .int (nI n)]) (n := 2) (Nat.le_of_ble_eq_true rfl)
  rw [lg_entry_eq]
  generalize (lg_sl ([.int (nI j), .int (nI n)]) ++ List.replicate (2 - (lg_sl ([.int (nI j), .int (nI n)])).length) Slot.unset).toArray = ls at hl ⊢
  have hl : lv_has ls 2 [(0, .int (nI j)), (1, .int (nI n))] := hl
  refine lv_iload_n hx hb d_S_checkIndex_0 rfl (lv_at hl 0 rfl) ?_
  refine lv_iload_n hx hb d_S_checkIndex_1 rfl (lv_at hl 1 rfl) ?_
  rcases hF.2.1.2.2.2.2.2.1 with hz | ⟨t9, hz⟩
  · refine va_gets (v := .null) hx hb hz hS hown (hw _ fl_S_1053) (fun _ h9 => h9) d_S_checkIndex_2 ?_
    refine vp_callSi (va_Run.run (va_runS (As := [.int (nI j), .int (nI n), .null]) (rest := []) ⟨hx, hb, hml, hown, hw⟩ (k_PC_checkIndex_n l j n (by assumption) (by assumption)) (va_cwS 3 hw (bg_S ml_S_1059 wt_PC_checkIndex wz_PC wc_PC_checkIndex) rfl rfl rfl (by decide +kernel) ⟨Nat.le_of_ble_eq_true rfl, Nat.le_of_ble_eq_true rfl⟩) ⟨nP_b, nP_p⟩ rfl rfl hl.1 rfl (lv_room (Nat.le_of_ble_eq_true rfl)) d_S_checkIndex_5 ⟨Nat.le_of_ble_eq_true rfl, Nat.le_of_ble_eq_true rfl⟩)) (fun r1 hr1 => ?_)
    replace hr1 := hr1.symm; subst hr1
    refine lv_pop hx hb d_S_checkIndex_8 rfl ?_
    exact W.vret hx hb hr (fun t ht hW => ⟨rfl, trivial, ht⟩) (fun _ h => nomatch h) d_S_checkIndex_9
  · refine va_gets (v := .ref t9) hx hb hz hS hown (hw _ fl_S_1053) (fun _ h9 => h9) d_S_checkIndex_2 ?_
    refine vp_callSi (va_Run.run (va_runS (As := [.int (nI j), .int (nI n), .ref t9]) (rest := []) ⟨hx, hb, hml, hown, hw⟩ (k_PC_checkIndex_r l j n t9 (by assumption) (by assumption)) (va_cwS 3 hw (bg_S ml_S_1059 wt_PC_checkIndex wz_PC wc_PC_checkIndex) rfl rfl rfl (by decide +kernel) ⟨Nat.le_of_ble_eq_true rfl, Nat.le_of_ble_eq_true rfl⟩) ⟨nP_b, nP_p⟩ rfl rfl hl.1 rfl (lv_room (Nat.le_of_ble_eq_true rfl)) d_S_checkIndex_5 ⟨Nat.le_of_ble_eq_true rfl, Nat.le_of_ble_eq_true rfl⟩)) (fun r2 hr2 => ?_)
    replace hr2 := hr2.symm; subst hr2
    refine lv_pop hx hb d_S_checkIndex_8 rfl ?_
    exact W.vret hx hb hr (fun t ht hW => ⟨rfl, trivial, ht⟩) (fun _ h => nomatch h) d_S_checkIndex_9

set_option maxHeartbeats 4000000 in
set_option maxRecDepth 100000 in
theorem k_S_coder (l : Launch) (D : va_G) (T : gT) (κ : gS) (A : Nat → Prop) (si : Nat) (hy0 : si < 7) : Met l y_S_coder (Cond.code y_S_coder b_S_coder 1 (some .byte) :: bg_W) ({ frames := 0, cells := 0, slots := 0, locals := 0 }) (sPf κ A D T ([]) [.ref (κ.1 (282 + 2 * si))]) (vp_Si (fun r : Int32 => r = 0)) 0 0 (fun _ => False) := by
  refine Met.ofW (cc := b_S_coder) (maxL := 1) (ret := (some .byte)) (by decide) rfl ?_
  intro p e s m args below meth c s₁ B hml hv
  obtain ⟨rfl, hP, hK, hF⟩ := hv
  have hx := B.exec
  have hb := B.bytes
  have hr := B.returns
  have hw : ∀ w ∈ bg_W, w.before ([.ref (κ.1 (282 + 2 * si))] : List Value).toArray s = true := fun w h => atoms_spec (ws := (Cond.code y_S_coder b_S_coder 1 (some .byte) :: bg_W)) B.pre w (List.mem_cons_of_mem _ h)
  have hown : s.vm.findClass "java/lang/String" = some m.cls := findClass_of_methodNamed B.named
  have hlocks := B.notSynchronized
  have hS : va_S A s.heap s.heap [] := va_S.rf
  have hl := lv_entry ([.ref (κ.1 (282 + 2 * si))]) (n := 1) (Nat.le_of_ble_eq_true rfl)
  rw [lg_entry_eq]
  generalize (lg_sl ([.ref (κ.1 (282 + 2 * si))]) ++ List.replicate (1 - (lg_sl ([.ref (κ.1 (282 + 2 * si))])).length) Slot.unset).toArray = ls at hl ⊢
  have hl : lv_has ls 1 [(0, .ref (κ.1 (282 + 2 * si)))] := hl
  refine va_gets (v := .int 1) hx hb hF.2.1.1 hS hown (hw _ fl_S_38) (fun _ h9 => h9) d_S_coder_0 ?_
  refine lv_if_eq (tgt := 13) hx hb d_S_coder_3 (by decide) (fun c1 => absurd c1 (by decide)) (fun c1 => ?_)
  refine lv_aload_n hx hb d_S_coder_6 rfl (lv_at hl 0 rfl) ?_
  refine vk_getf hx hb (hF.1 si hy0).2.1 hS hown (hw _ fl_S_15) (fun _ h9 => h9) d_S_coder_7 ?_
  refine lv_goto (tgt := 14) hx hb d_S_coder_10 (by decide) ?_
  exact W.zret (v := 0) hx hb hr rfl (fun t ht hW => ⟨0, rfl, rfl, ht⟩) (fun _ h => nomatch h) d_S_coder_14

set_option maxHeartbeats 4000000 in
set_option maxRecDepth 100000 in
theorem k_S_isLatin1 (l : Launch) (D : va_G) (T : gT) (κ : gS) (A : Nat → Prop) (si : Nat) (hy0 : si < 7) : Met l y_S_isLatin1 (Cond.code y_S_isLatin1 b_S_isLatin1 1 (some .boolean) :: bg_W) ({ frames := 0, cells := 0, slots := 0, locals := 0 }) (sPf κ A D T ([]) [.ref (κ.1 (282 + 2 * si))]) (vp_Si (fun r : Int32 => r = 1)) 0 0 (fun _ => False) := by
  refine Met.ofW (cc := b_S_isLatin1) (maxL := 1) (ret := (some .boolean)) (by decide) rfl ?_
  intro p e s m args below meth c s₁ B hml hv
  obtain ⟨rfl, hP, hK, hF⟩ := hv
  have hx := B.exec
  have hb := B.bytes
  have hr := B.returns
  have hw : ∀ w ∈ bg_W, w.before ([.ref (κ.1 (282 + 2 * si))] : List Value).toArray s = true := fun w h => atoms_spec (ws := (Cond.code y_S_isLatin1 b_S_isLatin1 1 (some .boolean) :: bg_W)) B.pre w (List.mem_cons_of_mem _ h)
  have hown : s.vm.findClass "java/lang/String" = some m.cls := findClass_of_methodNamed B.named
  have hlocks := B.notSynchronized
  have hS : va_S A s.heap s.heap [] := va_S.rf
  have hl := lv_entry ([.ref (κ.1 (282 + 2 * si))]) (n := 1) (Nat.le_of_ble_eq_true rfl)
  rw [lg_entry_eq]
  generalize (lg_sl ([.ref (κ.1 (282 + 2 * si))]) ++ List.replicate (1 - (lg_sl ([.ref (κ.1 (282 + 2 * si))])).length) Slot.unset).toArray = ls at hl ⊢
  have hl : lv_has ls 1 [(0, .ref (κ.1 (282 + 2 * si)))] := hl
  refine va_gets (v := .int 1) hx hb hF.2.1.1 hS hown (hw _ fl_S_38) (fun _ h9 => h9) d_S_isLatin1_0 ?_
  refine lv_if_eq (tgt := 17) hx hb d_S_isLatin1_3 (by decide) (fun c1 => absurd c1 (by decide)) (fun c1 => ?_)
  refine lv_aload_n hx hb d_S_isLatin1_6 rfl (lv_at hl 0 rfl) ?_
  refine vk_getf hx hb (hF.1 si hy0).2.1 hS hown (hw _ fl_S_15) (fun _ h9 => h9) d_S_isLatin1_7 ?_
  refine lv_if_ne (tgt := 17) hx hb d_S_isLatin1_10 (by decide) (fun c2 => absurd c2 (by decide)) (fun c2 => ?_)
  refine lv_iconst (v := 1) hx hb d_S_isLatin1_13 (by decide) ?_
  refine lv_goto (tgt := 18) hx hb d_S_isLatin1_14 (by decide) ?_
  exact W.zret (v := 1) hx hb hr rfl (fun t ht hW => ⟨1, rfl, rfl, ht⟩) (fun _ h => nomatch h) d_S_isLatin1_18

set_option maxHeartbeats 4000000 in
set_option maxRecDepth 100000 in
theorem k_S_length (l : Launch) (D : va_G) (T : gT) (κ : gS) (A : Nat → Prop) (si : Nat) (hy0 : si < 7) : Met l y_S_length (Cond.code y_S_length b_S_length 1 (some .int) :: bg_W) ({ frames := 1, cells := 0, slots := 0, locals := 20 }) (sPf κ A D T ([]) [.ref (κ.1 (282 + 2 * si))]) (vp_Si (fun r : Int32 => r = nI (sL.getD si 0))) 0 0 (fun _ => False) := by
  refine Met.ofW (cc := b_S_length) (maxL := 1) (ret := (some .int)) (by decide) rfl ?_
  intro p e s m args below meth c s₁ B hml hv
  obtain ⟨rfl, hP, hK, hF⟩ := hv
  have hx := B.exec
  have hb := B.bytes
  have hr := B.returns
  have hw : ∀ w ∈ bg_W, w.before ([.ref (κ.1 (282 + 2 * si))] : List Value).toArray s = true := fun w h => atoms_spec (ws := (Cond.code y_S_length b_S_length 1 (some .int) :: bg_W)) B.pre w (List.mem_cons_of_mem _ h)
  have hown : s.vm.findClass "java/lang/String" = some m.cls := findClass_of_methodNamed B.named
  have hlocks := B.notSynchronized
  have hS : va_S A s.heap s.heap [] := va_S.rf
  have hl := lv_entry ([.ref (κ.1 (282 + 2 * si))]) (n := 1) (Nat.le_of_ble_eq_true rfl)
  rw [lg_entry_eq]
  generalize (lg_sl ([.ref (κ.1 (282 + 2 * si))]) ++ List.replicate (1 - (lg_sl ([.ref (κ.1 (282 + 2 * si))])).length) Slot.unset).toArray = ls at hl ⊢
  have hl : lv_has ls 1 [(0, .ref (κ.1 (282 + 2 * si)))] := hl
  refine lv_aload_n hx hb d_S_length_0 rfl (lv_at hl 0 rfl) ?_
  refine vk_getf hx hb (hF.1 si hy0).2.2.1 hS hown (hw _ fl_S_9) (fun _ h9 => h9) d_S_length_1 ?_
  refine va_tlen (v := nI (sL.getD si 0)) hx hb (hF.1 si hy0).2.2.2 hS rfl d_S_length_4 ?_
  refine lv_aload_n hx hb d_S_length_5 rfl (lv_at hl 0 rfl) ?_
  have hPc : va_P D gC ([]) s.heap := pc0
  refine vp_callSi (va_Run.run (va_runV (As := []) (rest := [.int (nI (sL.getD si 0))]) ⟨hx, hb, hml, hown, hw⟩ (k_S_coder l D T κ A si (by assumption)) (cwV 0 hw (bg_V ml_S_335 wi_S_coder wv_S_coder wz_S wc_S_coder) rfl rfl rfl (by decide +kernel) ⟨Nat.le_of_ble_eq_true rfl, Nat.le_of_ble_eq_true rfl⟩) ⟨sPf_b, va_Orecv (hF.1 si hy0).1 hS, sPf_p hPc hK hF hS⟩ rfl rfl hl.1 rfl (lv_room (Nat.le_of_ble_eq_true rfl)) d_S_length_6 ⟨Nat.le_of_ble_eq_true rfl, Nat.le_of_ble_eq_true rfl⟩)) (fun r1 hr1 => ?_)
  replace hr1 := hr1.symm; subst hr1
  refine lv_ishr hx hb d_S_length_9 ?_
  rw [sb_shr0]
  exact W.iret (v := nI (sL.getD si 0)) hx hb hr (fun t ht hW => ⟨nI (sL.getD si 0), rfl, rfl, ht⟩) (fun _ h => nomatch h) d_S_length_10

set_option maxHeartbeats 4000000 in
set_option maxRecDepth 100000 in
theorem k_SL_charAt (l : Launch) (D : va_G) (T : gT) (κ : gS) (A : Nat → Prop) (si j : Nat) (hy0 : si < 7) (hy1 : j < sL.getD si 0) : Met l y_SL_charAt (Cond.code y_SL_charAt b_SL_charAt 2 (some .char) :: bg_W) ({ frames := 2, cells := 0, slots := 0, locals := 43 }) (sPf κ A D T ([]) [.ref (κ.2.1 si), .int (nI j)]) (vp_Si (fun r : Int32 => r = sX si j)) 0 0 (fun _ => False) := by
  refine Met.ofW (cc := b_SL_charAt) (maxL := 2) (ret := (some .char)) (by decide) rfl ?_
  intro p e s m args below meth c s₁ B hml hv
  obtain ⟨rfl, hP, hK, hF⟩ := hv
  have hx := B.exec
  have hb := B.bytes
  have hr := B.returns
  have hw : ∀ w ∈ bg_W, w.before ([.ref (κ.2.1 si), .int (nI j)] : List Value).toArray s = true := fun w h => atoms_spec (ws := (Cond.code y_SL_charAt b_SL_charAt 2 (some .char) :: bg_W)) B.pre w (List.mem_cons_of_mem _ h)
  have hown : s.vm.findClass "java/lang/StringLatin1" = some m.cls := findClass_of_methodNamed B.named
  have hlocks := B.notSynchronized
  have hS : va_S A s.heap s.heap [] := va_S.rf
  have hl := lv_entry ([.ref (κ.2.1 si), .int (nI j)]) (n := 2) (Nat.le_of_ble_eq_true rfl)
  rw [lg_entry_eq]
  generalize (lg_sl ([.ref (κ.2.1 si), .int (nI j)]) ++ List.replicate (2 - (lg_sl ([.ref (κ.2.1 si), .int (nI j)])).length) Slot.unset).toArray = ls at hl ⊢
  have hl : lv_has ls 2 [(0, .ref (κ.2.1 si)), (1, .int (nI j))] := hl
  have hjs : j < 1000 := by have h9 := sx_l si hy0; omega
  refine lv_iload_n hx hb d_SL_charAt_0 rfl (lv_at hl 1 rfl) ?_
  refine lv_aload_n hx hb d_SL_charAt_1 rfl (lv_at hl 0 rfl) ?_
  refine va_tlen (v := nI (sL.getD si 0)) hx hb (hF.1 si hy0).2.2.2 hS rfl d_SL_charAt_2 ?_
  have hPc : va_P D gC ([]) s.heap := pc0
  refine va_csv (va_Run.run (va_runS (As := [.int (nI j), .int (nI (sL.getD si 0))]) (rest := []) ⟨hx, hb, hml, hown, hw⟩ (k_S_checkIndex l D T κ A j (sL.getD si 0) hy1 (by have h9 := sx_l si hy0; omega)) (va_cwS 2 hw (bg_S ml_SL_9 wt_S_checkIndex wz_S wc_S_checkIndex) rfl rfl rfl (by decide +kernel) ⟨Nat.le_of_ble_eq_true rfl, Nat.le_of_ble_eq_true rfl⟩) ⟨sPf_b, sPf_p hPc hK hF hS⟩ rfl rfl hl.1 rfl (lv_room (Nat.le_of_ble_eq_true rfl)) d_SL_charAt_3 ⟨Nat.le_of_ble_eq_true rfl, Nat.le_of_ble_eq_true rfl⟩)) (fun hr1 => ?_)
  refine lv_aload_n hx hb d_SL_charAt_6 rfl (lv_at hl 0 rfl) ?_
  refine lv_iload_n hx hb d_SL_charAt_7 rfl (lv_at hl 1 rfl) ?_
  refine va_tb (v := .int ((sB.getD si []).getD j 0)) hx hb (hF.1 si hy0).2.2.2 hS (vp_in_nI hy1 (by have h9 := sx_l si hy0; omega)) (by rw [show (nI j).toNatClampNeg = j from nI_clamp (by omega)]) d_SL_charAt_8 ?_
  refine lv_sipush (v := 255) hx hb d_SL_charAt_9 (by decide) ?_
  refine lv_iand hx hb d_SL_charAt_12 ?_
  refine lv_i2c hx hb d_SL_charAt_13 rfl ?_
  rw [sx_c si hy0 j hy1]
  exact W.zret (v := (sB.getD si []).getD j 0) hx hb hr (sx_n si hy0 j hy1) (fun t ht hW => ⟨(sB.getD si []).getD j 0, rfl, rfl, ht⟩) (fun _ h => nomatch h) d_SL_charAt_14

set_option maxHeartbeats 4000000 in
set_option maxRecDepth 100000 in
theorem k_S_charAt (l : Launch) (D : va_G) (T : gT) (κ : gS) (A : Nat → Prop) (si j : Nat) (hy0 : si < 7) (hy1 : j < sL.getD si 0) : Met l y_S_charAt (Cond.code y_S_charAt b_S_charAt 2 (some .char) :: bg_W) ({ frames := 3, cells := 0, slots := 0, locals := 64 }) (sPf κ A D T ([]) [.ref (κ.1 (282 + 2 * si)), .int (nI j)]) (vp_Si (fun r : Int32 => r = sX si j)) 0 0 (fun _ => False) := by
  refine Met.ofW (cc := b_S_charAt) (maxL := 2) (ret := (some .char)) (by decide) rfl ?_
  intro p e s m args below meth c s₁ B hml hv
  obtain ⟨rfl, hP, hK, hF⟩ := hv
  have hx := B.exec
  have hb := B.bytes
  have hr := B.returns
  have hw : ∀ w ∈ bg_W, w.before ([.ref (κ.1 (282 + 2 * si)), .int (nI j)] : List Value).toArray s = true := fun w h => atoms_spec (ws := (Cond.code y_S_charAt b_S_charAt 2 (some .char) :: bg_W)) B.pre w (List.mem_cons_of_mem _ h)
  have hown : s.vm.findClass "java/lang/String" = some m.cls := findClass_of_methodNamed B.named
  have hlocks := B.notSynchronized
  have hS : va_S A s.heap s.heap [] := va_S.rf
  have hl := lv_entry ([.ref (κ.1 (282 + 2 * si)), .int (nI j)]) (n := 2) (Nat.le_of_ble_eq_true rfl)
  rw [lg_entry_eq]
  generalize (lg_sl ([.ref (κ.1 (282 + 2 * si)), .int (nI j)]) ++ List.replicate (2 - (lg_sl ([.ref (κ.1 (282 + 2 * si)), .int (nI j)])).length) Slot.unset).toArray = ls at hl ⊢
  have hl : lv_has ls 2 [(0, .ref (κ.1 (282 + 2 * si))), (1, .int (nI j))] := hl
  refine lv_aload_n hx hb d_S_charAt_0 rfl (lv_at hl 0 rfl) ?_
  have hPc : va_P D gC ([]) s.heap := pc0
  refine vp_callSi (va_Run.run (va_runV (As := []) (rest := []) ⟨hx, hb, hml, hown, hw⟩ (k_S_isLatin1 l D T κ A si hy0) (cwV 0 hw (bg_V ml_S_492 wi_S_isLatin1 wv_S_isLatin1 wz_S wc_S_isLatin1) rfl rfl rfl (by decide +kernel) ⟨Nat.le_of_ble_eq_true rfl, Nat.le_of_ble_eq_true rfl⟩) ⟨sPf_b, va_Orecv (hF.1 si hy0).1 hS, sPf_p hPc hK hF hS⟩ rfl rfl hl.1 rfl (lv_room (Nat.le_of_ble_eq_true rfl)) d_S_charAt_1 ⟨Nat.le_of_ble_eq_true rfl, Nat.le_of_ble_eq_true rfl⟩)) (fun r1 hr1 => ?_)
  replace hr1 := hr1.symm; subst hr1
  refine lv_if_eq (tgt := 16) hx hb d_S_charAt_4 (by decide) (fun c2 => absurd c2 (by decide)) (fun c2 => ?_)
  refine lv_aload_n hx hb d_S_charAt_7 rfl (lv_at hl 0 rfl) ?_
  refine vk_getf hx hb (hF.1 si hy0).2.2.1 hS hown (hw _ fl_S_9) (fun _ h9 => h9) d_S_charAt_8 ?_
  refine lv_iload_n hx hb d_S_charAt_11 rfl (lv_at hl 1 rfl) ?_
  have hPc : va_P D gC ([]) s.heap := pc0
  refine vp_callSi (va_Run.run (va_runS (As := [.ref (κ.2.1 si), .int (nI j)]) (rest := []) ⟨hx, hb, hml, hown, hw⟩ (k_SL_charAt l D T κ A si j hy0 hy1) (va_cwS 2 hw (bg_S ml_S_495 wt_SL_charAt wz_SL wc_SL_charAt) rfl rfl rfl (by decide +kernel) ⟨Nat.le_of_ble_eq_true rfl, Nat.le_of_ble_eq_true rfl⟩) ⟨sPf_b, sPf_p hPc hK hF hS⟩ rfl rfl hl.1 rfl (lv_room (Nat.le_of_ble_eq_true rfl)) d_S_charAt_12 ⟨Nat.le_of_ble_eq_true rfl, Nat.le_of_ble_eq_true rfl⟩)) (fun r3 hr3 => ?_)
  replace hr3 := hr3.symm; subst hr3
  exact W.zret (v := sX si j) hx hb hr (sx_n si hy0 j hy1) (fun t ht hW => ⟨sX si j, rfl, rfl, ht⟩) (fun _ h => nomatch h) d_S_charAt_15
