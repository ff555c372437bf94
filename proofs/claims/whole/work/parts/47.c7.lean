theorem lt_8 {x : Int32} (h : ¬ 7 < x) : x < 8 := by
  rw [Int32.lt_iff_toInt_lt] at h ⊢
  have e1 : (7 : Int32).toInt = 7 := by decide
  have e2 : (8 : Int32).toInt = 8 := by decide
  omega
theorem gt_7 {x : Int32} (h : x < 8) : ¬ 7 < x := by
  rw [Int32.lt_iff_toInt_lt] at h ⊢
  have e1 : (7 : Int32).toInt = 7 := by decide
  have e2 : (8 : Int32).toInt = 8 := by decide
  omega
theorem in_01 {x : Int32} (h : j_in x 0 1 = true) : x = 0 ∨ x = 1 := by
  obtain ⟨h1, h2⟩ : ¬ x < 0 ∧ ¬ 1 < x := by simpa [j_in] using h
  obtain ⟨n, hn, rfl⟩ := nI_of h1
  have h3 : ¬ nI 1 < nI n := h2
  have h4 : n ≤ 1 := by
    rcases Nat.lt_or_ge 1 n with q | q
    · exact absurd (nI_lt q hn) h3
    · exact q
  rcases Nat.lt_or_ge 0 n with q | q
  · right; rw [show n = 1 by omega]; rfl
  · left; rw [show n = 0 by omega]; rfl
set_option maxHeartbeats 4000000 in
set_option maxRecDepth 100000 in
theorem k_T_isLetter (l : Launch) (x : Int32) : Met l y_T_isLetter (Cond.code y_T_isLetter b_T_isLetter 1 (some .boolean) :: bg_W) ({ frames := 0, cells := 0, slots := 0, locals := 0 }) (nP [.int x]) (vp_Si (fun r : Int32 => r = b2i (j_in x 97 122))) 0 0 (fun _ => False) := by
  refine Met.ofW (cc := b_T_isLetter) (maxL := 1) (ret := (some .boolean)) (by decide) rfl ?_
  intro p e s m args below meth c s₁ B hml hv
  obtain ⟨rfl, -⟩ := hv
  have hx := B.exec
  have hb := B.bytes
  have hr := B.returns
  have hw : ∀ w ∈ bg_W, w.before ([.int x] : List Value).toArray s = true := fun w h => atoms_spec (ws := (Cond.code y_T_isLetter b_T_isLetter 1 (some .boolean) :: bg_W)) B.pre w (List.mem_cons_of_mem _ h)
  have hown : s.vm.findClass "TimeWords" = some m.cls := findClass_of_methodNamed B.named
  have hlocks := B.notSynchronized
  have hl := lv_entry ([.int x]) (n := 1) (Nat.le_of_ble_eq_true rfl)
  rw [lg_entry_eq]
  generalize (lg_sl ([.int x]) ++ List.replicate (1 - (lg_sl ([.int x])).length) Slot.unset).toArray = ls at hl ⊢
  have hl : lv_has ls 1 [(0, .int x)] := hl
  refine lv_iload_n hx hb d_T_isLetter_0 rfl (lv_at hl 0 rfl) ?_
  refine lv_bipush (v := 97) hx hb d_T_isLetter_1 (by decide) ?_
  refine lv_icmp_lt (tgt := 16) hx hb d_T_isLetter_3 (by decide) (fun c1 => ?_) (fun c1 => ?_)
  · refine lv_iconst (v := 0) hx hb d_T_isLetter_16 (by decide) ?_
    exact W.zret (v := 0) hx hb hr rfl (fun t ht hW => ⟨0, rfl, (by simp [j_in, b2i, *]), ht⟩) (fun _ h => nomatch h) d_T_isLetter_17
  · refine lv_iload_n hx hb d_T_isLetter_6 rfl (lv_at hl 0 rfl) ?_
    refine lv_bipush (v := 122) hx hb d_T_isLetter_7 (by decide) ?_
    refine lv_icmp_gt (tgt := 16) hx hb d_T_isLetter_9 (by decide) (fun c2 => ?_) (fun c2 => ?_)
    · refine lv_iconst (v := 0) hx hb d_T_isLetter_16 (by decide) ?_
      exact W.zret (v := 0) hx hb hr rfl (fun t ht hW => ⟨0, rfl, (by simp [j_in, b2i, *]), ht⟩) (fun _ h => nomatch h) d_T_isLetter_17
    · refine lv_iconst (v := 1) hx hb d_T_isLetter_12 (by decide) ?_
      refine lv_goto (tgt := 17) hx hb d_T_isLetter_13 (by decide) ?_
      exact W.zret (v := 1) hx hb hr rfl (fun t ht hW => ⟨1, rfl, (by simp [j_in, b2i, *]), ht⟩) (fun _ h => nomatch h) d_T_isLetter_17

set_option maxHeartbeats 4000000 in
set_option maxRecDepth 100000 in
theorem k_T_isDigit (l : Launch) (x : Int32) : Met l y_T_isDigit (Cond.code y_T_isDigit b_T_isDigit 1 (some .boolean) :: bg_W) ({ frames := 0, cells := 0, slots := 0, locals := 0 }) (nP [.int x]) (vp_Si (fun r : Int32 => r = b2i (j_in x 48 57))) 0 0 (fun _ => False) := by
  refine Met.ofW (cc := b_T_isDigit) (maxL := 1) (ret := (some .boolean)) (by decide) rfl ?_
  intro p e s m args below meth c s₁ B hml hv
  obtain ⟨rfl, -⟩ := hv
  have hx := B.exec
  have hb := B.bytes
  have hr := B.returns
  have hw : ∀ w ∈ bg_W, w.before ([.int x] : List Value).toArray s = true := fun w h => atoms_spec (ws := (Cond.code y_T_isDigit b_T_isDigit 1 (some .boolean) :: bg_W)) B.pre w (List.mem_cons_of_mem _ h)
  have hown : s.vm.findClass "TimeWords" = some m.cls := findClass_of_methodNamed B.named
  have hlocks := B.notSynchronized
  have hl := lv_entry ([.int x]) (n := 1) (Nat.le_of_ble_eq_true rfl)
  rw [lg_entry_eq]
  generalize (lg_sl ([.int x]) ++ List.replicate (1 - (lg_sl ([.int x])).length) Slot.unset).toArray = ls at hl ⊢
  have hl : lv_has ls 1 [(0, .int x)] := hl
  refine lv_iload_n hx hb d_T_isDigit_0 rfl (lv_at hl 0 rfl) ?_
  refine lv_bipush (v := 48) hx hb d_T_isDigit_1 (by decide) ?_
  refine lv_icmp_lt (tgt := 16) hx hb d_T_isDigit_3 (by decide) (fun c1 => ?_) (fun c1 => ?_)
  · refine lv_iconst (v := 0) hx hb d_T_isDigit_16 (by decide) ?_
    exact W.zret (v := 0) hx hb hr rfl (fun t ht hW => ⟨0, rfl, (by simp [j_in, b2i, *]), ht⟩) (fun _ h => nomatch h) d_T_isDigit_17
  · refine lv_iload_n hx hb d_T_isDigit_6 rfl (lv_at hl 0 rfl) ?_
    refine lv_bipush (v := 57) hx hb d_T_isDigit_7 (by decide) ?_
    refine lv_icmp_gt (tgt := 16) hx hb d_T_isDigit_9 (by decide) (fun c2 => ?_) (fun c2 => ?_)
    · refine lv_iconst (v := 0) hx hb d_T_isDigit_16 (by decide) ?_
      exact W.zret (v := 0) hx hb hr rfl (fun t ht hW => ⟨0, rfl, (by simp [j_in, b2i, *]), ht⟩) (fun _ h => nomatch h) d_T_isDigit_17
    · refine lv_iconst (v := 1) hx hb d_T_isDigit_12 (by decide) ?_
      refine lv_goto (tgt := 17) hx hb d_T_isDigit_13 (by decide) ?_
      exact W.zret (v := 1) hx hb hr rfl (fun t ht hW => ⟨1, rfl, (by simp [j_in, b2i, *]), ht⟩) (fun _ h => nomatch h) d_T_isDigit_17

set_option maxHeartbeats 4000000 in
set_option maxRecDepth 100000 in
theorem k_T_isYear (l : Launch) (x : Int32) : Met l y_T_isYear (Cond.code y_T_isYear b_T_isYear 1 (some .boolean) :: bg_W) ({ frames := 0, cells := 0, slots := 0, locals := 0 }) (nP [.int x]) (vp_Si (fun r : Int32 => r = b2i (j_in x (-9999) 9999))) 0 0 (fun _ => False) := by
  refine Met.ofW (cc := b_T_isYear) (maxL := 1) (ret := (some .boolean)) (by decide) rfl ?_
  intro p e s m args below meth c s₁ B hml hv
  obtain ⟨rfl, -⟩ := hv
  have hx := B.exec
  have hb := B.bytes
  have hr := B.returns
  have hw : ∀ w ∈ bg_W, w.before ([.int x] : List Value).toArray s = true := fun w h => atoms_spec (ws := (Cond.code y_T_isYear b_T_isYear 1 (some .boolean) :: bg_W)) B.pre w (List.mem_cons_of_mem _ h)
  have hown : s.vm.findClass "TimeWords" = some m.cls := findClass_of_methodNamed B.named
  have hlocks := B.notSynchronized
  have hl := lv_entry ([.int x]) (n := 1) (Nat.le_of_ble_eq_true rfl)
  rw [lg_entry_eq]
  generalize (lg_sl ([.int x]) ++ List.replicate (1 - (lg_sl ([.int x])).length) Slot.unset).toArray = ls at hl ⊢
  have hl : lv_has ls 1 [(0, .int x)] := hl
  refine lv_iload_n hx hb d_T_isYear_0 rfl (lv_at hl 0 rfl) ?_
  refine lv_sipush (v := (-9999)) hx hb d_T_isYear_1 (by decide) ?_
  refine lv_icmp_lt (tgt := 18) hx hb d_T_isYear_4 (by decide) (fun c1 => ?_) (fun c1 => ?_)
  · refine lv_iconst (v := 0) hx hb d_T_isYear_18 (by decide) ?_
    exact W.zret (v := 0) hx hb hr rfl (fun t ht hW => ⟨0, rfl, (by simp [j_in, b2i, *]), ht⟩) (fun _ h => nomatch h) d_T_isYear_19
  · refine lv_iload_n hx hb d_T_isYear_7 rfl (lv_at hl 0 rfl) ?_
    refine lv_sipush (v := 9999) hx hb d_T_isYear_8 (by decide) ?_
    refine lv_icmp_gt (tgt := 18) hx hb d_T_isYear_11 (by decide) (fun c2 => ?_) (fun c2 => ?_)
    · refine lv_iconst (v := 0) hx hb d_T_isYear_18 (by decide) ?_
      exact W.zret (v := 0) hx hb hr rfl (fun t ht hW => ⟨0, rfl, (by simp [j_in, b2i, *]), ht⟩) (fun _ h => nomatch h) d_T_isYear_19
    · refine lv_iconst (v := 1) hx hb d_T_isYear_14 (by decide) ?_
      refine lv_goto (tgt := 19) hx hb d_T_isYear_15 (by decide) ?_
      exact W.zret (v := 1) hx hb hr rfl (fun t ht hW => ⟨1, rfl, (by simp [j_in, b2i, *]), ht⟩) (fun _ h => nomatch h) d_T_isYear_19

set_option maxHeartbeats 4000000 in
set_option maxRecDepth 100000 in
theorem k_T_isSign (l : Launch) (x : Int32) : Met l y_T_isSign (Cond.code y_T_isSign b_T_isSign 1 (some .boolean) :: bg_W) ({ frames := 1, cells := 0, slots := 0, locals := 20 }) (nP [.int x]) (vp_Si (fun r : Int32 => r = b2i (j_sg x))) 0 0 (fun _ => False) := by
  refine Met.ofW (cc := b_T_isSign) (maxL := 1) (ret := (some .boolean)) (by decide) rfl ?_
  intro p e s m args below meth c s₁ B hml hv
  obtain ⟨rfl, -⟩ := hv
  have hx := B.exec
  have hb := B.bytes
  have hr := B.returns
  have hw : ∀ w ∈ bg_W, w.before ([.int x] : List Value).toArray s = true := fun w h => atoms_spec (ws := (Cond.code y_T_isSign b_T_isSign 1 (some .boolean) :: bg_W)) B.pre w (List.mem_cons_of_mem _ h)
  have hown : s.vm.findClass "TimeWords" = some m.cls := findClass_of_methodNamed B.named
  have hlocks := B.notSynchronized
  have hl := lv_entry ([.int x]) (n := 1) (Nat.le_of_ble_eq_true rfl)
  rw [lg_entry_eq]
  generalize (lg_sl ([.int x]) ++ List.replicate (1 - (lg_sl ([.int x])).length) Slot.unset).toArray = ls at hl ⊢
  have hl : lv_has ls 1 [(0, .int x)] := hl
  refine lv_iload_n hx hb d_T_isSign_0 rfl (lv_at hl 0 rfl) ?_
  refine vp_callSi (va_Run.run (va_runS (As := [.int x]) (rest := []) ⟨hx, hb, hml, hown, hw⟩ (k_T_isLetter l x) (va_cwS 1 hw (bg_S ml_T_248 wt_T_isLetter wz_T wc_T_isLetter) rfl rfl rfl (by decide +kernel) ⟨Nat.le_of_ble_eq_true rfl, Nat.le_of_ble_eq_true rfl⟩) ⟨nP_b, nP_p⟩ rfl rfl hl.1 rfl (lv_room (Nat.le_of_ble_eq_true rfl)) d_T_isSign_1 ⟨Nat.le_of_ble_eq_true rfl, Nat.le_of_ble_eq_true rfl⟩)) (fun r1 hr1 => ?_)
  replace hr1 := hr1.symm; subst hr1
  refine lv_if_ne (tgt := 20) hx hb d_T_isSign_4 (by decide) (fun c2 => ?_) (fun c2 => ?_)
  · have c2 := b2i_t c2
    refine lv_iconst (v := 1) hx hb d_T_isSign_20 (by decide) ?_
    refine lv_goto (tgt := 25) hx hb d_T_isSign_21 (by decide) ?_
    exact W.zret (v := 1) hx hb hr rfl (fun t ht hW => ⟨1, rfl, (by simp [j_sg, b2i, *]), ht⟩) (fun _ h => nomatch h) d_T_isSign_25
  · have c2 := b2i_f c2
    refine lv_iload_n hx hb d_T_isSign_7 rfl (lv_at hl 0 rfl) ?_
    refine vp_callSi (va_Run.run (va_runS (As := [.int x]) (rest := []) ⟨hx, hb, hml, hown, hw⟩ (k_T_isDigit l x) (va_cwS 1 hw (bg_S ml_T_251 wt_T_isDigit wz_T wc_T_isDigit) rfl rfl rfl (by decide +kernel) ⟨Nat.le_of_ble_eq_true rfl, Nat.le_of_ble_eq_true rfl⟩) ⟨nP_b, nP_p⟩ rfl rfl hl.1 rfl (lv_room (Nat.le_of_ble_eq_true rfl)) d_T_isSign_8 ⟨Nat.le_of_ble_eq_true rfl, Nat.le_of_ble_eq_true rfl⟩)) (fun r3 hr3 => ?_)
    replace hr3 := hr3.symm; subst hr3
    refine lv_if_ne (tgt := 20) hx hb d_T_isSign_11 (by decide) (fun c4 => ?_) (fun c4 => ?_)
    · have c4 := b2i_t c4
      refine lv_iconst (v := 1) hx hb d_T_isSign_20 (by decide) ?_
      refine lv_goto (tgt := 25) hx hb d_T_isSign_21 (by decide) ?_
      exact W.zret (v := 1) hx hb hr rfl (fun t ht hW => ⟨1, rfl, (by simp [j_sg, b2i, *]), ht⟩) (fun _ h => nomatch h) d_T_isSign_25
    · have c4 := b2i_f c4
      refine lv_iload_n hx hb d_T_isSign_14 rfl (lv_at hl 0 rfl) ?_
      refine lv_bipush (v := 32) hx hb d_T_isSign_15 (by decide) ?_
      refine lv_icmp_ne (tgt := 24) hx hb d_T_isSign_17 (by decide) (fun c5 => ?_) (fun c5 => ?_)
      · refine lv_iconst (v := 0) hx hb d_T_isSign_24 (by decide) ?_
        exact W.zret (v := 0) hx hb hr rfl (fun t ht hW => ⟨0, rfl, (by simp [j_sg, b2i, *]), ht⟩) (fun _ h => nomatch h) d_T_isSign_25
      · refine lv_iconst (v := 1) hx hb d_T_isSign_20 (by decide) ?_
        refine lv_goto (tgt := 25) hx hb d_T_isSign_21 (by decide) ?_
        exact W.zret (v := 1) hx hb hr rfl (fun t ht hW => ⟨1, rfl, (by simp [j_sg, b2i, *]), ht⟩) (fun _ h => nomatch h) d_T_isSign_25

set_option maxHeartbeats 4000000 in
set_option maxRecDepth 100000 in
theorem k_T_isLeapYear (l : Launch) (y : Int32) : Met l y_T_isLeapYear (Cond.code y_T_isLeapYear b_T_isLeapYear 1 (some .boolean) :: bg_W) ({ frames := 0, cells := 0, slots := 0, locals := 0 }) (nP [.int y]) (vp_Si (fun r : Int32 => r = b2i (j_lp y))) 0 0 (fun _ => False) := by
  refine Met.ofW (cc := b_T_isLeapYear) (maxL := 1) (ret := (some .boolean)) (by decide) rfl ?_
  intro p e s m args below meth c s₁ B hml hv
  obtain ⟨rfl, -⟩ := hv
  have hx := B.exec
  have hb := B.bytes
  have hr := B.returns
  have hw : ∀ w ∈ bg_W, w.before ([.int y] : List Value).toArray s = true := fun w h => atoms_spec (ws := (Cond.code y_T_isLeapYear b_T_isLeapYear 1 (some .boolean) :: bg_W)) B.pre w (List.mem_cons_of_mem _ h)
  have hown : s.vm.findClass "TimeWords" = some m.cls := findClass_of_methodNamed B.named
  have hlocks := B.notSynchronized
  have hl := lv_entry ([.int y]) (n := 1) (Nat.le_of_ble_eq_true rfl)
  rw [lg_entry_eq]
  generalize (lg_sl ([.int y]) ++ List.replicate (1 - (lg_sl ([.int y])).length) Slot.unset).toArray = ls at hl ⊢
  have hl : lv_has ls 1 [(0, .int y)] := hl
  refine lv_iload_n hx hb d_T_isLeapYear_0 rfl (lv_at hl 0 rfl) ?_
  refine lv_iconst (v := 4) hx hb d_T_isLeapYear_1 (by decide) ?_
  refine lv_irem hx hb d_T_isLeapYear_2 (by decide) ?_
  refine lv_if_ne (tgt := 25) hx hb d_T_isLeapYear_3 (by decide) (fun c1 => ?_) (fun c1 => ?_)
  · refine lv_iconst (v := 0) hx hb d_T_isLeapYear_25 (by decide) ?_
    exact W.zret (v := 0) hx hb hr rfl (fun t ht hW => ⟨0, rfl, (by simp [j_lp, b2i, *]), ht⟩) (fun _ h => nomatch h) d_T_isLeapYear_26
  · refine lv_iload_n hx hb d_T_isLeapYear_6 rfl (lv_at hl 0 rfl) ?_
    refine lv_bipush (v := 100) hx hb d_T_isLeapYear_7 (by decide) ?_
    refine lv_irem hx hb d_T_isLeapYear_9 (by decide) ?_
    refine lv_if_ne (tgt := 21) hx hb d_T_isLeapYear_10 (by decide) (fun c2 => ?_) (fun c2 => ?_)
    · refine lv_iconst (v := 1) hx hb d_T_isLeapYear_21 (by decide) ?_
      refine lv_goto (tgt := 26) hx hb d_T_isLeapYear_22 (by decide) ?_
      exact W.zret (v := 1) hx hb hr rfl (fun t ht hW => ⟨1, rfl, (by simp [j_lp, b2i, *]), ht⟩) (fun _ h => nomatch h) d_T_isLeapYear_26
    · refine lv_iload_n hx hb d_T_isLeapYear_13 rfl (lv_at hl 0 rfl) ?_
      refine lv_sipush (v := 400) hx hb d_T_isLeapYear_14 (by decide) ?_
      refine lv_irem hx hb d_T_isLeapYear_17 (by decide) ?_
      refine lv_if_ne (tgt := 25) hx hb d_T_isLeapYear_18 (by decide) (fun c3 => ?_) (fun c3 => ?_)
      · refine lv_iconst (v := 0) hx hb d_T_isLeapYear_25 (by decide) ?_
        exact W.zret (v := 0) hx hb hr rfl (fun t ht hW => ⟨0, rfl, (by simp [j_lp, b2i, *]), ht⟩) (fun _ h => nomatch h) d_T_isLeapYear_26
      · refine lv_iconst (v := 1) hx hb d_T_isLeapYear_21 (by decide) ?_
        refine lv_goto (tgt := 26) hx hb d_T_isLeapYear_22 (by decide) ?_
        exact W.zret (v := 1) hx hb hr rfl (fun t ht hW => ⟨1, rfl, (by simp [j_lp, b2i, *]), ht⟩) (fun _ h => nomatch h) d_T_isLeapYear_26

set_option maxHeartbeats 4000000 in
set_option maxRecDepth 100000 in
theorem k_T_checkYears (l : Launch) (x y : Int32) (hy0 : j_yy x y = true) : Met l y_T_checkYears (Cond.code y_T_checkYears b_T_checkYears 2 none :: bg_W) ({ frames := 1, cells := 0, slots := 0, locals := 20 }) (nP [.int x, .int y]) (va_Sv (fun _ => True)) 0 0 (fun _ => False) := by
  refine Met.ofW (cc := b_T_checkYears) (maxL := 2) (ret := none) (by decide) rfl ?_
  intro p e s m args below meth c s₁ B hml hv
  obtain ⟨rfl, -⟩ := hv
  have hx := B.exec
  have hb := B.bytes
  have hr := B.returns
  have hw : ∀ w ∈ bg_W, w.before ([.int x, .int y] : List Value).toArray s = true := fun w h => atoms_spec (ws := (Cond.code y_T_checkYears b_T_checkYears 2 none :: bg_W)) B.pre w (List.mem_cons_of_mem _ h)
  have hown : s.vm.findClass "TimeWords" = some m.cls := findClass_of_methodNamed B.named
  have hlocks := B.notSynchronized
  have hl := lv_entry ([.int x, .int y]) (n := 2) (Nat.le_of_ble_eq_true rfl)
  rw [lg_entry_eq]
  generalize (lg_sl ([.int x, .int y]) ++ List.replicate (2 - (lg_sl ([.int x, .int y])).length) Slot.unset).toArray = ls at hl ⊢
  have hl : lv_has ls 2 [(0, .int x), (1, .int y)] := hl
  obtain ⟨⟨hA1, hA2⟩, hA3⟩ : (j_in x (-9999) 9999 = true ∧ j_in y (-9999) 9999 = true) ∧ x ≤ y := by simpa [j_yy] using hy0
  refine lv_iload_n hx hb d_T_checkYears_0 rfl (lv_at hl 0 rfl) ?_
  refine vp_callSi (va_Run.run (va_runS (As := [.int x]) (rest := []) ⟨hx, hb, hml, hown, hw⟩ (k_T_isYear l x) (va_cwS 1 hw (bg_S ml_T_203 wt_T_isYear wz_T wc_T_isYear) rfl rfl rfl (by decide +kernel) ⟨Nat.le_of_ble_eq_true rfl, Nat.le_of_ble_eq_true rfl⟩) ⟨nP_b, nP_p⟩ rfl rfl hl.1 rfl (lv_room (Nat.le_of_ble_eq_true rfl)) d_T_checkYears_1 ⟨Nat.le_of_ble_eq_true rfl, Nat.le_of_ble_eq_true rfl⟩)) (fun r1 hr1 => ?_)
  replace hr1 := hr1.symm; subst hr1
  refine lv_if_eq (tgt := 19) hx hb d_T_checkYears_4 (by decide) (fun c2 => absurd c2 ((by rw [hA1]; decide))) (fun c2 => ?_)
  refine lv_iload_n hx hb d_T_checkYears_7 rfl (lv_at hl 1 rfl) ?_
  refine vp_callSi (va_Run.run (va_runS (As := [.int y]) (rest := []) ⟨hx, hb, hml, hown, hw⟩ (k_T_isYear l y) (va_cwS 1 hw (bg_S ml_T_203 wt_T_isYear wz_T wc_T_isYear) rfl rfl rfl (by decide +kernel) ⟨Nat.le_of_ble_eq_true rfl, Nat.le_of_ble_eq_true rfl⟩) ⟨nP_b, nP_p⟩ rfl rfl hl.1 rfl (lv_room (Nat.le_of_ble_eq_true rfl)) d_T_checkYears_8 ⟨Nat.le_of_ble_eq_true rfl, Nat.le_of_ble_eq_true rfl⟩)) (fun r3 hr3 => ?_)
  replace hr3 := hr3.symm; subst hr3
  refine lv_if_eq (tgt := 19) hx hb d_T_checkYears_11 (by decide) (fun c4 => absurd c4 ((by rw [hA2]; decide))) (fun c4 => ?_)
  refine lv_iload_n hx hb d_T_checkYears_14 rfl (lv_at hl 0 rfl) ?_
  refine lv_iload_n hx hb d_T_checkYears_15 rfl (lv_at hl 1 rfl) ?_
  refine lv_icmp_le (tgt := 29) hx hb d_T_checkYears_16 (by decide) (fun c5 => ?_) (fun c5 => absurd (hA3) c5)
  exact W.vret hx hb hr (fun t ht hW => ⟨rfl, trivial, ht⟩) (fun _ h => nomatch h) d_T_checkYears_29

set_option maxHeartbeats 4000000 in
set_option maxRecDepth 100000 in
theorem k_T_checkYears_x (l : Launch) (hl9 : l.stackTraces = false) (D : va_G) (T : gT) (κ : gS) (A : Nat → Prop) (sz : Nat) (x y : Int32) (hy0 : j_yy x y = false) : vx_Met l y_T_checkYears (Cond.code y_T_checkYears b_T_checkYears 2 none :: bg_W) ({ frames := 7, cells := 1, slots := 6, locals := 110 }) (xPf κ A D T ([]) [.int x, .int y] sz) xN (xE "java/lang/IllegalArgumentException" sz) 1 6 (fun q => sz ≤ q) := by
  refine vx_ofW (cc := b_T_checkYears) (maxL := 2) (ret := none) (by decide) rfl ?_
  intro p e s m args below meth c s₁ B hml htab hv
  obtain ⟨rfl, hsz, hP, hK, hF⟩ := hv
  have hx := B.exec
  have hb := B.bytes
  have hr := B.returns
  have hw : ∀ w ∈ bg_W, w.before ([.int x, .int y] : List Value).toArray s = true := fun w h => atoms_spec (ws := (Cond.code y_T_checkYears b_T_checkYears 2 none :: bg_W)) B.pre w (List.mem_cons_of_mem _ h)
  have hown : s.vm.findClass "TimeWords" = some m.cls := findClass_of_methodNamed B.named
  have hlocks := B.notSynchronized
  subst hsz
  have hS : va_S A s.heap s.heap [] := va_S.rf
  have hl := lv_entry ([.int x, .int y]) (n := 2) (Nat.le_of_ble_eq_true rfl)
  rw [lg_entry_eq]
  generalize (lg_sl ([.int x, .int y]) ++ List.replicate (2 - (lg_sl ([.int x, .int y])).length) Slot.unset).toArray = ls at hl ⊢
  have hl : lv_has ls 2 [(0, .int x), (1, .int y)] := hl
  refine lv_iload_n hx hb d_T_checkYears_0 rfl (lv_at hl 0 rfl) ?_
  refine vp_callSi (va_Run.run (va_runS (As := [.int x]) (rest := []) ⟨hx, hb, hml, hown, hw⟩ (k_T_isYear l x) (va_cwS 1 hw (bg_S ml_T_203 wt_T_isYear wz_T wc_T_isYear) rfl rfl rfl (by decide +kernel) ⟨Nat.le_of_ble_eq_true rfl, Nat.le_of_ble_eq_true rfl⟩) ⟨nP_b, nP_p⟩ rfl rfl hl.1 rfl (lv_room (Nat.le_of_ble_eq_true rfl)) d_T_checkYears_1 ⟨Nat.le_of_ble_eq_true rfl, Nat.le_of_ble_eq_true rfl⟩)) (fun r1 hr1 => ?_)
  replace hr1 := hr1.symm; subst hr1
  refine lv_if_eq (tgt := 19) hx hb d_T_checkYears_4 (by decide) (fun c2 => ?_) (fun c2 => ?_)
  · have c2 := b2i_f c2
    exact vx_throwS (rest := []) hx hb hl9 hown th_IA_f th_n (hw _ kl_T_55) (hw _ wz_IA) (hF.2.2.2.2 (243, "no years from one to another") (by decide)) (th_IA_w hw hF) th_IA_g hF.2.1.2.2.2.2.2.2.1 hF.2.1.2.2.2.2.2.2.2 hS (hl.1.trans hml.symm) (d_T_checkYears_19) (d_T_checkYears_22) (d_T_checkYears_23) (d_T_checkYears_25) (d_T_checkYears_28) (fun x h9 => (htab x h9).elim) (Nat.le_of_ble_eq_true rfl) (Nat.le_of_ble_eq_true rfl) (Nat.le_of_ble_eq_true rfl) (Nat.le_of_ble_eq_true rfl) hlocks (fun t9 h8 h7 h6 => ⟨(), trivial, rfl, ⟨h7, fun q h1 _ => h6 q h1⟩⟩) (fun z h9 => absurd h9 List.not_mem_nil) (Nat.le_of_ble_eq_true rfl) (Nat.le_of_ble_eq_true rfl)
  · have c2 := b2i_t c2
    refine lv_iload_n hx hb d_T_checkYears_7 rfl (lv_at hl 1 rfl) ?_
    refine vp_callSi (va_Run.run (va_runS (As := [.int y]) (rest := []) ⟨hx, hb, hml, hown, hw⟩ (k_T_isYear l y) (va_cwS 1 hw (bg_S ml_T_203 wt_T_isYear wz_T wc_T_isYear) rfl rfl rfl (by decide +kernel) ⟨Nat.le_of_ble_eq_true rfl, Nat.le_of_ble_eq_true rfl⟩) ⟨nP_b, nP_p⟩ rfl rfl hl.1 rfl (lv_room (Nat.le_of_ble_eq_true rfl)) d_T_checkYears_8 ⟨Nat.le_of_ble_eq_true rfl, Nat.le_of_ble_eq_true rfl⟩)) (fun r3 hr3 => ?_)
    replace hr3 := hr3.symm; subst hr3
    refine lv_if_eq (tgt := 19) hx hb d_T_checkYears_11 (by decide) (fun c4 => ?_) (fun c4 => ?_)
    · have c4 := b2i_f c4
      exact vx_throwS (rest := []) hx hb hl9 hown th_IA_f th_n (hw _ kl_T_55) (hw _ wz_IA) (hF.2.2.2.2 (243, "no years from one to another") (by decide)) (th_IA_w hw hF) th_IA_g hF.2.1.2.2.2.2.2.2.1 hF.2.1.2.2.2.2.2.2.2 hS (hl.1.trans hml.symm) (d_T_checkYears_19) (d_T_checkYears_22) (d_T_checkYears_23) (d_T_checkYears_25) (d_T_checkYears_28) (fun x h9 => (htab x h9).elim) (Nat.le_of_ble_eq_true rfl) (Nat.le_of_ble_eq_true rfl) (Nat.le_of_ble_eq_true rfl) (Nat.le_of_ble_eq_true rfl) hlocks (fun t9 h8 h7 h6 => ⟨(), trivial, rfl, ⟨h7, fun q h1 _ => h6 q h1⟩⟩) (fun z h9 => absurd h9 List.not_mem_nil) (Nat.le_of_ble_eq_true rfl) (Nat.le_of_ble_eq_true rfl)
    · have c4 := b2i_t c4
      refine lv_iload_n hx hb d_T_checkYears_14 rfl (lv_at hl 0 rfl) ?_
      refine lv_iload_n hx hb d_T_checkYears_15 rfl (lv_at hl 1 rfl) ?_
      refine lv_icmp_le (tgt := 29) hx hb d_T_checkYears_16 (by decide) (fun c5 => ?_) (fun c5 => ?_)
      · exact False.elim (by simp [j_yy, *] at hy0)
      · exact vx_throwS (rest := []) hx hb hl9 hown th_IA_f th_n (hw _ kl_T_55) (hw _ wz_IA) (hF.2.2.2.2 (243, "no years from one to another") (by decide)) (th_IA_w hw hF) th_IA_g hF.2.1.2.2.2.2.2.2.1 hF.2.1.2.2.2.2.2.2.2 hS (hl.1.trans hml.symm) (d_T_checkYears_19) (d_T_checkYears_22) (d_T_checkYears_23) (d_T_checkYears_25) (d_T_checkYears_28) (fun x h9 => (htab x h9).elim) (Nat.le_of_ble_eq_true rfl) (Nat.le_of_ble_eq_true rfl) (Nat.le_of_ble_eq_true rfl) (Nat.le_of_ble_eq_true rfl) hlocks (fun t9 h8 h7 h6 => ⟨(), trivial, rfl, ⟨h7, fun q h1 _ => h6 q h1⟩⟩) (fun z h9 => absurd h9 List.not_mem_nil) (Nat.le_of_ble_eq_true rfl) (Nat.le_of_ble_eq_true rfl)

set_option maxHeartbeats 4000000 in
set_option maxRecDepth 100000 in
theorem k_T_checkPlace (l : Launch) (x : Int32) (hy0 : j_in x 0 7 = true) : Met l y_T_checkPlace (Cond.code y_T_checkPlace b_T_checkPlace 1 none :: bg_W) ({ frames := 0, cells := 0, slots := 0, locals := 0 }) (nP [.int x]) (va_Sv (fun _ => True)) 0 0 (fun _ => False) := by
  refine Met.ofW (cc := b_T_checkPlace) (maxL := 1) (ret := none) (by decide) rfl ?_
  intro p e s m args below meth c s₁ B hml hv
  obtain ⟨rfl, -⟩ := hv
  have hx := B.exec
  have hb := B.bytes
  have hr := B.returns
  have hw : ∀ w ∈ bg_W, w.before ([.int x] : List Value).toArray s = true := fun w h => atoms_spec (ws := (Cond.code y_T_checkPlace b_T_checkPlace 1 none :: bg_W)) B.pre w (List.mem_cons_of_mem _ h)
  have hown : s.vm.findClass "TimeWords" = some m.cls := findClass_of_methodNamed B.named
  have hlocks := B.notSynchronized
  have hl := lv_entry ([.int x]) (n := 1) (Nat.le_of_ble_eq_true rfl)
  rw [lg_entry_eq]
  generalize (lg_sl ([.int x]) ++ List.replicate (1 - (lg_sl ([.int x])).length) Slot.unset).toArray = ls at hl ⊢
  have hl : lv_has ls 1 [(0, .int x)] := hl
  obtain ⟨hA1, hA2⟩ : ¬ x < 0 ∧ ¬ 7 < x := by simpa [j_in] using hy0
  refine lv_iload_n hx hb d_T_checkPlace_0 rfl (lv_at hl 0 rfl) ?_
  refine lv_if_lt (tgt := 10) hx hb d_T_checkPlace_1 (by decide) (fun c1 => absurd c1 (hA1)) (fun c1 => ?_)
  refine lv_iload_n hx hb d_T_checkPlace_4 rfl (lv_at hl 0 rfl) ?_
  refine lv_bipush (v := 8) hx hb d_T_checkPlace_5 (by decide) ?_
  refine lv_icmp_lt (tgt := 20) hx hb d_T_checkPlace_7 (by decide) (fun c2 => ?_) (fun c2 => absurd ((lt_8 hA2)) c2)
  exact W.vret hx hb hr (fun t ht hW => ⟨rfl, trivial, ht⟩) (fun _ h => nomatch h) d_T_checkPlace_20

set_option maxHeartbeats 4000000 in
set_option maxRecDepth 100000 in
theorem k_T_checkPlace_x (l : Launch) (hl9 : l.stackTraces = false) (D : va_G) (T : gT) (κ : gS) (A : Nat → Prop) (sz : Nat) (x : Int32) (hy0 : j_in x 0 7 = false) : vx_Met l y_T_checkPlace (Cond.code y_T_checkPlace b_T_checkPlace 1 none :: bg_W) ({ frames := 7, cells := 1, slots := 6, locals := 110 }) (xPf κ A D T ([]) [.int x] sz) xN (xE "java/lang/IndexOutOfBoundsException" sz) 1 6 (fun q => sz ≤ q) := by
  refine vx_ofW (cc := b_T_checkPlace) (maxL := 1) (ret := none) (by decide) rfl ?_
  intro p e s m args below meth c s₁ B hml htab hv
  obtain ⟨rfl, hsz, hP, hK, hF⟩ := hv
  have hx := B.exec
  have hb := B.bytes
  have hr := B.returns
  have hw : ∀ w ∈ bg_W, w.before ([.int x] : List Value).toArray s = true := fun w h => atoms_spec (ws := (Cond.code y_T_checkPlace b_T_checkPlace 1 none :: bg_W)) B.pre w (List.mem_cons_of_mem _ h)
  have hown : s.vm.findClass "TimeWords" = some m.cls := findClass_of_methodNamed B.named
  have hlocks := B.notSynchronized
  subst hsz
  have hS : va_S A s.heap s.heap [] := va_S.rf
  have hl := lv_entry ([.int x]) (n := 1) (Nat.le_of_ble_eq_true rfl)
  rw [lg_entry_eq]
  generalize (lg_sl ([.int x]) ++ List.replicate (1 - (lg_sl ([.int x])).length) Slot.unset).toArray = ls at hl ⊢
  have hl : lv_has ls 1 [(0, .int x)] := hl
  refine lv_iload_n hx hb d_T_checkPlace_0 rfl (lv_at hl 0 rfl) ?_
  refine lv_if_lt (tgt := 10) hx hb d_T_checkPlace_1 (by decide) (fun c1 => ?_) (fun c1 => ?_)
  · exact vx_throwS (rest := []) hx hb hl9 hown th_IO_f th_n (hw _ kl_T_184) (hw _ wz_IO) (hF.2.2.2.2 (239, "no such place") (by decide)) (th_IO_w hw hF) th_IO_g hF.2.1.2.2.2.2.2.2.1 hF.2.1.2.2.2.2.2.2.2 hS (hl.1.trans hml.symm) (d_T_checkPlace_10) (d_T_checkPlace_13) (d_T_checkPlace_14) (d_T_checkPlace_16) (d_T_checkPlace_19) (fun x h9 => (htab x h9).elim) (Nat.le_of_ble_eq_true rfl) (Nat.le_of_ble_eq_true rfl) (Nat.le_of_ble_eq_true rfl) (Nat.le_of_ble_eq_true rfl) hlocks (fun t9 h8 h7 h6 => ⟨(), trivial, rfl, ⟨h7, fun q h1 _ => h6 q h1⟩⟩) (fun z h9 => absurd h9 List.not_mem_nil) (Nat.le_of_ble_eq_true rfl) (Nat.le_of_ble_eq_true rfl)
  · refine lv_iload_n hx hb d_T_checkPlace_4 rfl (lv_at hl 0 rfl) ?_
    refine lv_bipush (v := 8) hx hb d_T_checkPlace_5 (by decide) ?_
    refine lv_icmp_lt (tgt := 20) hx hb d_T_checkPlace_7 (by decide) (fun c2 => ?_) (fun c2 => ?_)
    · exact False.elim (by simp [j_in, gt_7, *] at hy0)
    · exact vx_throwS (rest := []) hx hb hl9 hown th_IO_f th_n (hw _ kl_T_184) (hw _ wz_IO) (hF.2.2.2.2 (239, "no such place") (by decide)) (th_IO_w hw hF) th_IO_g hF.2.1.2.2.2.2.2.2.1 hF.2.1.2.2.2.2.2.2.2 hS (hl.1.trans hml.symm) (d_T_checkPlace_10) (d_T_checkPlace_13) (d_T_checkPlace_14) (d_T_checkPlace_16) (d_T_checkPlace_19) (fun x h9 => (htab x h9).elim) (Nat.le_of_ble_eq_true rfl) (Nat.le_of_ble_eq_true rfl) (Nat.le_of_ble_eq_true rfl) (Nat.le_of_ble_eq_true rfl) hlocks (fun t9 h8 h7 h6 => ⟨(), trivial, rfl, ⟨h7, fun q h1 _ => h6 q h1⟩⟩) (fun z h9 => absurd h9 List.not_mem_nil) (Nat.le_of_ble_eq_true rfl) (Nat.le_of_ble_eq_true rfl)

set_option maxHeartbeats 4000000 in
set_option maxRecDepth 100000 in
theorem k_T_checkDay (l : Launch) (x : Int32) (hy0 : j_in x 0 100000 = true) : Met l y_T_checkDay (Cond.code y_T_checkDay b_T_checkDay 1 none :: bg_W) ({ frames := 0, cells := 0, slots := 0, locals := 0 }) (nP [.int x]) (va_Sv (fun _ => True)) 0 0 (fun _ => False) := by
  refine Met.ofW (cc := b_T_checkDay) (maxL := 1) (ret := none) (by decide) rfl ?_
  intro p e s m args below meth c s₁ B hml hv
  obtain ⟨rfl, -⟩ := hv
  have hx := B.exec
  have hb := B.bytes
  have hr := B.returns
  have hw : ∀ w ∈ bg_W, w.before ([.int x] : List Value).toArray s = true := fun w h => atoms_spec (ws := (Cond.code y_T_checkDay b_T_checkDay 1 none :: bg_W)) B.pre w (List.mem_cons_of_mem _ h)
  have hown : s.vm.findClass "TimeWords" = some m.cls := findClass_of_methodNamed B.named
  have hlocks := B.notSynchronized
  have hl := lv_entry ([.int x]) (n := 1) (Nat.le_of_ble_eq_true rfl)
  rw [lg_entry_eq]
  generalize (lg_sl ([.int x]) ++ List.replicate (1 - (lg_sl ([.int x])).length) Slot.unset).toArray = ls at hl ⊢
  have hl : lv_has ls 1 [(0, .int x)] := hl
  obtain ⟨hA1, hA2⟩ : ¬ x < 0 ∧ ¬ 100000 < x := by simpa [j_in] using hy0
  refine lv_iload_n hx hb d_T_checkDay_0 rfl (lv_at hl 0 rfl) ?_
  refine lv_if_lt (tgt := 10) hx hb d_T_checkDay_1 (by decide) (fun c1 => absurd c1 (hA1)) (fun c1 => ?_)
  refine lv_iload_n hx hb d_T_checkDay_4 rfl (lv_at hl 0 rfl) ?_
  refine lv_ldc (v := 100000) hx hb hown (hw _ ci_T_245) d_T_checkDay_5 ?_
  refine lv_icmp_le (tgt := 20) hx hb d_T_checkDay_7 (by decide) (fun c2 => ?_) (fun c2 => absurd ((Int32.not_lt.mp hA2)) c2)
  exact W.vret hx hb hr (fun t ht hW => ⟨rfl, trivial, ht⟩) (fun _ h => nomatch h) d_T_checkDay_20

set_option maxHeartbeats 4000000 in
set_option maxRecDepth 100000 in
theorem k_T_checkDay_x (l : Launch) (hl9 : l.stackTraces = false) (D : va_G) (T : gT) (κ : gS) (A : Nat → Prop) (sz : Nat) (x : Int32) (hy0 : j_in x 0 100000 = false) : vx_Met l y_T_checkDay (Cond.code y_T_checkDay b_T_checkDay 1 none :: bg_W) ({ frames := 7, cells := 1, slots := 6, locals := 110 }) (xPf κ A D T ([]) [.int x] sz) xN (xE "java/lang/IllegalArgumentException" sz) 1 6 (fun q => sz ≤ q) := by
  refine vx_ofW (cc := b_T_checkDay) (maxL := 1) (ret := none) (by decide) rfl ?_
  intro p e s m args below meth c s₁ B hml htab hv
  obtain ⟨rfl, hsz, hP, hK, hF⟩ := hv
  have hx := B.exec
  have hb := B.bytes
  have hr := B.returns
  have hw : ∀ w ∈ bg_W, w.before ([.int x] : List Value).toArray s = true := fun w h => atoms_spec (ws := (Cond.code y_T_checkDay b_T_checkDay 1 none :: bg_W)) B.pre w (List.mem_cons_of_mem _ h)
  have hown : s.vm.findClass "TimeWords" = some m.cls := findClass_of_methodNamed B.named
  have hlocks := B.notSynchronized
  subst hsz
  have hS : va_S A s.heap s.heap [] := va_S.rf
  have hl := lv_entry ([.int x]) (n := 1) (Nat.le_of_ble_eq_true rfl)
  rw [lg_entry_eq]
  generalize (lg_sl ([.int x]) ++ List.replicate (1 - (lg_sl ([.int x])).length) Slot.unset).toArray = ls at hl ⊢
  have hl : lv_has ls 1 [(0, .int x)] := hl
  refine lv_iload_n hx hb d_T_checkDay_0 rfl (lv_at hl 0 rfl) ?_
  refine lv_if_lt (tgt := 10) hx hb d_T_checkDay_1 (by decide) (fun c1 => ?_) (fun c1 => ?_)
  · exact vx_throwS (rest := []) hx hb hl9 hown th_IA_f th_n (hw _ kl_T_55) (hw _ wz_IA) (hF.2.2.2.2 (246, "no day") (by decide)) (th_IA_w hw hF) th_IA_g hF.2.1.2.2.2.2.2.2.1 hF.2.1.2.2.2.2.2.2.2 hS (hl.1.trans hml.symm) (d_T_checkDay_10) (d_T_checkDay_13) (d_T_checkDay_14) (d_T_checkDay_16) (d_T_checkDay_19) (fun x h9 => (htab x h9).elim) (Nat.le_of_ble_eq_true rfl) (Nat.le_of_ble_eq_true rfl) (Nat.le_of_ble_eq_true rfl) (Nat.le_of_ble_eq_true rfl) hlocks (fun t9 h8 h7 h6 => ⟨(), trivial, rfl, ⟨h7, fun q h1 _ => h6 q h1⟩⟩) (fun z h9 => absurd h9 List.not_mem_nil) (Nat.le_of_ble_eq_true rfl) (Nat.le_of_ble_eq_true rfl)
  · refine lv_iload_n hx hb d_T_checkDay_4 rfl (lv_at hl 0 rfl) ?_
    refine lv_ldc (v := 100000) hx hb hown (hw _ ci_T_245) d_T_checkDay_5 ?_
    refine lv_icmp_le (tgt := 20) hx hb d_T_checkDay_7 (by decide) (fun c2 => ?_) (fun c2 => ?_)
    · exact False.elim (by simp [j_in, Int32.not_lt.mpr, *] at hy0)
    · exact vx_throwS (rest := []) hx hb hl9 hown th_IA_f th_n (hw _ kl_T_55) (hw _ wz_IA) (hF.2.2.2.2 (246, "no day") (by decide)) (th_IA_w hw hF) th_IA_g hF.2.1.2.2.2.2.2.2.1 hF.2.1.2.2.2.2.2.2.2 hS (hl.1.trans hml.symm) (d_T_checkDay_10) (d_T_checkDay_13) (d_T_checkDay_14) (d_T_checkDay_16) (d_T_checkDay_19) (fun x h9 => (htab x h9).elim) (Nat.le_of_ble_eq_true rfl) (Nat.le_of_ble_eq_true rfl) (Nat.le_of_ble_eq_true rfl) (Nat.le_of_ble_eq_true rfl) hlocks (fun t9 h8 h7 h6 => ⟨(), trivial, rfl, ⟨h7, fun q h1 _ => h6 q h1⟩⟩) (fun z h9 => absurd h9 List.not_mem_nil) (Nat.le_of_ble_eq_true rfl) (Nat.le_of_ble_eq_true rfl)

set_option maxHeartbeats 4000000 in
set_option maxRecDepth 100000 in
theorem k_T_checkEnd (l : Launch) (x : Int32) (hy0 : j_in x 0 1 = true) : Met l y_T_checkEnd (Cond.code y_T_checkEnd b_T_checkEnd 1 none :: bg_W) ({ frames := 0, cells := 0, slots := 0, locals := 0 }) (nP [.int x]) (va_Sv (fun _ => True)) 0 0 (fun _ => False) := by
  refine Met.ofW (cc := b_T_checkEnd) (maxL := 1) (ret := none) (by decide) rfl ?_
  intro p e s m args below meth c s₁ B hml hv
  obtain ⟨rfl, -⟩ := hv
  have hx := B.exec
  have hb := B.bytes
  have hr := B.returns
  have hw : ∀ w ∈ bg_W, w.before ([.int x] : List Value).toArray s = true := fun w h => atoms_spec (ws := (Cond.code y_T_checkEnd b_T_checkEnd 1 none :: bg_W)) B.pre w (List.mem_cons_of_mem _ h)
  have hown : s.vm.findClass "TimeWords" = some m.cls := findClass_of_methodNamed B.named
  have hlocks := B.notSynchronized
  have hl := lv_entry ([.int x]) (n := 1) (Nat.le_of_ble_eq_true rfl)
  rw [lg_entry_eq]
  generalize (lg_sl ([.int x]) ++ List.replicate (1 - (lg_sl ([.int x])).length) Slot.unset).toArray = ls at hl ⊢
  have hl : lv_has ls 1 [(0, .int x)] := hl
  have hA1 := in_01 hy0
  refine lv_iload_n hx hb d_T_checkEnd_0 rfl (lv_at hl 0 rfl) ?_
  refine lv_if_eq (tgt := 19) hx hb d_T_checkEnd_1 (by decide) (fun c1 => ?_) (fun c1 => ?_)
  · exact W.vret hx hb hr (fun t ht hW => ⟨rfl, trivial, ht⟩) (fun _ h => nomatch h) d_T_checkEnd_19
  · refine lv_iload_n hx hb d_T_checkEnd_4 rfl (lv_at hl 0 rfl) ?_
    refine lv_iconst (v := 1) hx hb d_T_checkEnd_5 (by decide) ?_
    refine lv_icmp_eq (tgt := 19) hx hb d_T_checkEnd_6 (by decide) (fun c2 => ?_) (fun c2 => ?_)
    · exact W.vret hx hb hr (fun t ht hW => ⟨rfl, trivial, ht⟩) (fun _ h => nomatch h) d_T_checkEnd_19
    · exact False.elim (by rcases hA1 with h9 | h9 <;> exact absurd h9 (by assumption))

set_option maxHeartbeats 4000000 in
set_option maxRecDepth 100000 in
theorem k_T_checkEnd_x (l : Launch) (hl9 : l.stackTraces = false) (D : va_G) (T : gT) (κ : gS) (A : Nat → Prop) (sz : Nat) (x : Int32) (hy0 : j_in x 0 1 = false) : vx_Met l y_T_checkEnd (Cond.code y_T_checkEnd b_T_checkEnd 1 none :: bg_W) ({ frames := 7, cells := 1, slots := 6, locals := 110 }) (xPf κ A D T ([]) [.int x] sz) xN (xE "java/lang/IndexOutOfBoundsException" sz) 1 6 (fun q => sz ≤ q) := by
  refine vx_ofW (cc := b_T_checkEnd) (maxL := 1) (ret := none) (by decide) rfl ?_
  intro p e s m args below meth c s₁ B hml htab hv
  obtain ⟨rfl, hsz, hP, hK, hF⟩ := hv
  have hx := B.exec
  have hb := B.bytes
  have hr := B.returns
  have hw : ∀ w ∈ bg_W, w.before ([.int x] : List Value).toArray s = true := fun w h => atoms_spec (ws := (Cond.code y_T_checkEnd b_T_checkEnd 1 none :: bg_W)) B.pre w (List.mem_cons_of_mem _ h)
  have hown : s.vm.findClass "TimeWords" = some m.cls := findClass_of_methodNamed B.named
  have hlocks := B.notSynchronized
  subst hsz
  have hS : va_S A s.heap s.heap [] := va_S.rf
  have hl := lv_entry ([.int x]) (n := 1) (Nat.le_of_ble_eq_true rfl)
  rw [lg_entry_eq]
  generalize (lg_sl ([.int x]) ++ List.replicate (1 - (lg_sl ([.int x])).length) Slot.unset).toArray = ls at hl ⊢
  have hl : lv_has ls 1 [(0, .int x)] := hl
  refine lv_iload_n hx hb d_T_checkEnd_0 rfl (lv_at hl 0 rfl) ?_
  refine lv_if_eq (tgt := 19) hx hb d_T_checkEnd_1 (by decide) (fun c1 => ?_) (fun c1 => ?_)
  · exact False.elim (by rw [c1] at hy0; exact absurd hy0 (by decide))
  · refine lv_iload_n hx hb d_T_checkEnd_4 rfl (lv_at hl 0 rfl) ?_
    refine lv_iconst (v := 1) hx hb d_T_checkEnd_5 (by decide) ?_
    refine lv_icmp_eq (tgt := 19) hx hb d_T_checkEnd_6 (by decide) (fun c2 => ?_) (fun c2 => ?_)
    · exact False.elim (by rw [c2] at hy0; exact absurd hy0 (by decide))
    · exact vx_throwS (rest := []) hx hb hl9 hown th_IO_f th_n (hw _ kl_T_184) (hw _ wz_IO) (hF.2.2.2.2 (241, "no such end") (by decide)) (th_IO_w hw hF) th_IO_g hF.2.1.2.2.2.2.2.2.1 hF.2.1.2.2.2.2.2.2.2 hS (hl.1.trans hml.symm) (d_T_checkEnd_9) (d_T_checkEnd_12) (d_T_checkEnd_13) (d_T_checkEnd_15) (d_T_checkEnd_18) (fun x h9 => (htab x h9).elim) (Nat.le_of_ble_eq_true rfl) (Nat.le_of_ble_eq_true rfl) (Nat.le_of_ble_eq_true rfl) (Nat.le_of_ble_eq_true rfl) hlocks (fun t9 h8 h7 h6 => ⟨(), trivial, rfl, ⟨h7, fun q h1 _ => h6 q h1⟩⟩) (fun z h9 => absurd h9 List.not_mem_nil) (Nat.le_of_ble_eq_true rfl) (Nat.le_of_ble_eq_true rfl)
