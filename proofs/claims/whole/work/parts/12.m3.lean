set_option maxHeartbeats 4000000 in
set_option maxRecDepth 100000 in
theorem k_M_beginning (l : Launch) (b : Nat) (hy0 : b < 6) : Met l y_M_beginning (Cond.code y_M_beginning b_M_beginning 1 (some .long) :: bg_W) ({ frames := 0, cells := 0, slots := 0, locals := 0 }) (nP [.int (nI b)]) (vp_Sl (fun r : Int64 => r = jw b)) 0 0 (fun _ => False) := by
  refine Met.ofW (cc := b_M_beginning) (maxL := 1) (ret := (some .long)) (by decide) rfl ?_
  intro p e s m args below meth c s₁ B hml hv
  obtain ⟨rfl, -⟩ := hv
  have hx := B.exec
  have hb := B.bytes
  have hr := B.returns
  have hw : ∀ w ∈ bg_W, w.before ([.int (nI b)] : List Value).toArray s = true := fun w h => atoms_spec (ws := (Cond.code y_M_beginning b_M_beginning 1 (some .long) :: bg_W)) B.pre w (List.mem_cons_of_mem _ h)
  have hown : s.vm.findClass "TimeWordsModel" = some m.cls := findClass_of_methodNamed B.named
  have hlocks := B.notSynchronized
  have hl := lv_entry ([.int (nI b)]) (n := 1) (Nat.le_of_ble_eq_true rfl)
  rw [lg_entry_eq]
  generalize (lg_sl ([.int (nI b)]) ++ List.replicate (1 - (lg_sl ([.int (nI b)])).length) Slot.unset).toArray = ls at hl ⊢
  have hl : lv_has ls 1 [(0, .int (nI b))] := hl
  refine lv_iload_n hx hb d_M_beginning_0 rfl (lv_at hl 0 rfl) ?_
  refine lv_if_ne (tgt := 10) hx hb d_M_beginning_1 (by decide) (fun c1 => ?_) (fun c1 => ?_)
  · have c1 := nc_ne (a := b) (b := 0) c1 (by omega) (by omega)
    refine lv_iload_n hx hb d_M_beginning_10 rfl (lv_at hl 0 rfl) ?_
    refine lv_iconst (v := 1) hx hb d_M_beginning_11 (by decide) ?_
    refine lv_icmp_ne (tgt := 21) hx hb d_M_beginning_12 (by decide) (fun c2 => ?_) (fun c2 => ?_)
    · have c2 := nc_ne (a := b) (b := 1) c2 (by omega) (by omega)
      refine lv_iload_n hx hb d_M_beginning_21 rfl (lv_at hl 0 rfl) ?_
      refine lv_iconst (v := 2) hx hb d_M_beginning_22 (by decide) ?_
      refine lv_icmp_ne (tgt := 32) hx hb d_M_beginning_23 (by decide) (fun c3 => ?_) (fun c3 => ?_)
      · have c3 := nc_ne (a := b) (b := 2) c3 (by omega) (by omega)
        refine lv_iload_n hx hb d_M_beginning_32 rfl (lv_at hl 0 rfl) ?_
        refine lv_iconst (v := 3) hx hb d_M_beginning_33 (by decide) ?_
        refine lv_icmp_ne (tgt := 43) hx hb d_M_beginning_34 (by decide) (fun c4 => ?_) (fun c4 => ?_)
        · have c4 := nc_ne (a := b) (b := 3) c4 (by omega) (by omega)
          refine lv_iload_n hx hb d_M_beginning_43 rfl (lv_at hl 0 rfl) ?_
          refine lv_iconst (v := 4) hx hb d_M_beginning_44 (by decide) ?_
          refine lv_icmp_ne (tgt := 54) hx hb d_M_beginning_45 (by decide) (fun c5 => ?_) (fun c5 => ?_)
          · have c5 := nc_ne (a := b) (b := 4) c5 (by omega) (by omega)
            refine lv_ldc2 (v := 107092667363872) hx hb hown (hw _ cj_M_122) d_M_beginning_54 ?_
            exact W.lret (v := 107092667363872) hx hb hr (fun t ht hW => ⟨107092667363872, rfl, (by simp [jw, *]), ht⟩) (fun _ h => nomatch h) d_M_beginning_57
          · have c5 := nc_eq (a := b) (b := 4) c5 (by omega) (by omega)
            refine lv_ldc2 (v := 27696038348481824) hx hb hown (hw _ cj_M_120) d_M_beginning_48 ?_
            refine lv_goto (tgt := 57) hx hb d_M_beginning_51 (by decide) ?_
            exact W.lret (v := 27696038348481824) hx hb hr (fun t ht hW => ⟨27696038348481824, rfl, (by simp [jw, *]), ht⟩) (fun _ h => nomatch h) d_M_beginning_57
        · have c4 := nc_eq (a := b) (b := 3) c4 (by omega) (by omega)
          refine lv_ldc2 (v := 107075404657696) hx hb hown (hw _ cj_M_118) d_M_beginning_37 ?_
          refine lv_goto (tgt := 57) hx hb d_M_beginning_40 (by decide) ?_
          exact W.lret (v := 107075404657696) hx hb hr (fun t ht hW => ⟨107075404657696, rfl, (by simp [jw, *]), ht⟩) (fun _ h => nomatch h) d_M_beginning_57
      · have c3 := nc_eq (a := b) (b := 2) c3 (by omega) (by omega)
        refine lv_ldc2 (v := 465491485984) hx hb hown (hw _ cj_M_116) d_M_beginning_26 ?_
        refine lv_goto (tgt := 57) hx hb d_M_beginning_29 (by decide) ?_
        exact W.lret (v := 465491485984) hx hb hr (fun t ht hW => ⟨465491485984, rfl, (by simp [jw, *]), ht⟩) (fun _ h => nomatch h) d_M_beginning_57
    · have c2 := nc_eq (a := b) (b := 1) c2 (by omega) (by omega)
      refine lv_ldc2 (v := 1835623456) hx hb hown (hw _ cj_M_114) d_M_beginning_15 ?_
      refine lv_goto (tgt := 57) hx hb d_M_beginning_18 (by decide) ?_
      exact W.lret (v := 1835623456) hx hb hr (fun t ht hW => ⟨1835623456, rfl, (by simp [jw, *]), ht⟩) (fun _ h => nomatch h) d_M_beginning_57
  · have c1 := nc_eq (a := b) (b := 0) c1 (by omega) (by omega)
    refine lv_ldc2 (v := 111469205944608) hx hb hown (hw _ cj_M_112) d_M_beginning_4 ?_
    refine lv_goto (tgt := 57) hx hb d_M_beginning_7 (by decide) ?_
    exact W.lret (v := 111469205944608) hx hb hr (fun t ht hW => ⟨111469205944608, rfl, (by simp [jw, *]), ht⟩) (fun _ h => nomatch h) d_M_beginning_57

set_option maxHeartbeats 4000000 in
set_option maxRecDepth 100000 in
theorem k_M_signs (l : Launch) (b : Nat) (hy0 : b < 6) : Met l y_M_signs (Cond.code y_M_signs b_M_signs 3 (some .int) :: bg_W) ({ frames := 0, cells := 0, slots := 0, locals := 0 }) (nP [.long (jw b)]) (vp_Si (fun r : Int32 => r = nI (jl b))) 0 0 (fun _ => False) := by
  refine Met.ofW (cc := b_M_signs) (maxL := 3) (ret := (some .int)) (by decide) rfl ?_
  intro p e s m args below meth c s₁ B hml hv
  obtain ⟨rfl, -⟩ := hv
  have hx := B.exec
  have hb := B.bytes
  have hr := B.returns
  have hw : ∀ w ∈ bg_W, w.before ([.long (jw b)] : List Value).toArray s = true := fun w h => atoms_spec (ws := (Cond.code y_M_signs b_M_signs 3 (some .int) :: bg_W)) B.pre w (List.mem_cons_of_mem _ h)
  have hown : s.vm.findClass "TimeWordsModel" = some m.cls := findClass_of_methodNamed B.named
  have hlocks := B.notSynchronized
  have hl := lv_entry ([.long (jw b)]) (n := 3) (Nat.le_of_ble_eq_true rfl)
  rw [lg_entry_eq]
  generalize (lg_sl ([.long (jw b)]) ++ List.replicate (3 - (lg_sl ([.long (jw b)])).length) Slot.unset).toArray = ls at hl ⊢
  have hl : lv_has ls 3 [(0, .long (jw b))] := hl
  refine lv_iconst (v := 0) hx hb d_M_signs_0 (by decide) ?_
  refine lv_istore_n (lv' := [(2, .int 0), (0, .long (jw b))]) hx hb d_M_signs_1 rfl hl (by decide) rfl (fun ls hl => ?_)
  have loop : ∀ (n : Nat) (k : Nat), (k ≤ jl b) → ∀ (ls : Array Slot), lv_has ls 3 [(0, .long (jw b)), (2, .int (nI k))] → jl b - k < n → W p l e (headSpec (Cond.code y_M_signs b_M_signs 3 (some .int) :: bg_W) ({ frames := 0, cells := 0, slots := 0, locals := 0 })).room s m ([.long (jw b)] : List Value).toArray below meth c s.heap [] 0 0 (MQ below (vp_Si (fun r : Int32 => r = nI (jl b))) ([.long (jw b)] : List Value).toArray s 0 0 (fun _ => False)) (F0 m 2 ls []) := by
    intro n
    induction n with
    | zero => intro k hk ls hl hm; exact absurd hm (Nat.not_lt_zero _)
    | succ n ih =>
      intro k hk ls hl hm
      have h7 := jl_le b
      have hc := jw_cond b hy0 k (by omega) hk
      refine lv_lload_n hx hb d_M_signs_2 rfl (lv_at hl 0 rfl) ?_
      refine lv_bipush (v := 8) hx hb d_M_signs_3 (by decide) ?_
      refine lv_iload_n hx hb d_M_signs_5 rfl (lv_at hl 1 rfl) ?_
      refine lv_imul hx hb d_M_signs_6 ?_
      refine lv_lushr hx hb d_M_signs_7 rfl ?_
      refine lv_lconst (v := 0) hx hb d_M_signs_8 (by decide) ?_
      refine W.lcmp hx hb d_M_signs_9 ?_
      refine lv_if_eq (tgt := 19) hx hb d_M_signs_10 (by decide) (fun c1 => ?_) (fun c1 => ?_)
      · have he : k = jl b := hc.mp (lg_cmp0.mp c1)
        refine lv_iload_n hx hb d_M_signs_19 rfl (lv_at hl 1 rfl) ?_
        exact W.iret (v := nI k) hx hb hr (fun t ht hW => ⟨nI k, rfl, (by rw [he]), ht⟩) (fun _ h => nomatch h) d_M_signs_20
      · have hne : k ≠ jl b := fun e9 => c1 (lg_cmp0.mpr (hc.mpr e9))
        have hk2 : k < jl b := by omega
        refine lv_iinc (v := nI (k + 1)) (lv' := [(2, .int (nI (k + 1))), (0, .long (jw b))]) hx hb d_M_signs_13 hl (k := 1) rfl (nI_add k 1) (by decide) rfl (fun ls hl => ?_)
        refine lv_goto (tgt := 2) hx hb d_M_signs_16 (by decide) ?_
        exact ih (k + 1) (by omega) ls (lv_sub hl [1, 0] rfl) (by omega)
  exact loop ((jl b - 0) + 1) 0 (Nat.zero_le _) ls (lv_sub hl [1, 0] rfl) (Nat.lt_succ_self _)

set_option maxHeartbeats 4000000 in
set_option maxRecDepth 100000 in
theorem k_M_signOf (l : Launch) (b k : Nat) (hy0 : b < 6) (hy1 : k < jl b) : Met l y_M_signOf (Cond.code y_M_signOf b_M_signOf 3 (some .int) :: bg_W) ({ frames := 1, cells := 0, slots := 0, locals := 22 }) (nP [.long (jw b), .int (nI k)]) (vp_Si (fun r : Int32 => r = jc b k)) 0 0 (fun _ => False) := by
  refine Met.ofW (cc := b_M_signOf) (maxL := 3) (ret := (some .int)) (by decide) rfl ?_
  intro p e s m args below meth c s₁ B hml hv
  obtain ⟨rfl, -⟩ := hv
  have hx := B.exec
  have hb := B.bytes
  have hr := B.returns
  have hw : ∀ w ∈ bg_W, w.before ([.long (jw b), .int (nI k)] : List Value).toArray s = true := fun w h => atoms_spec (ws := (Cond.code y_M_signOf b_M_signOf 3 (some .int) :: bg_W)) B.pre w (List.mem_cons_of_mem _ h)
  have hown : s.vm.findClass "TimeWordsModel" = some m.cls := findClass_of_methodNamed B.named
  have hlocks := B.notSynchronized
  have hl := lv_entry ([.long (jw b), .int (nI k)]) (n := 3) (Nat.le_of_ble_eq_true rfl)
  rw [lg_entry_eq]
  generalize (lg_sl ([.long (jw b), .int (nI k)]) ++ List.replicate (3 - (lg_sl ([.long (jw b), .int (nI k)])).length) Slot.unset).toArray = ls at hl ⊢
  have hl : lv_has ls 3 [(0, .long (jw b)), (2, .int (nI k))] := hl
  refine lv_lload_n hx hb d_M_signOf_0 rfl (lv_at hl 0 rfl) ?_
  refine lv_bipush (v := 8) hx hb d_M_signOf_1 (by decide) ?_
  refine lv_lload_n hx hb d_M_signOf_3 rfl (lv_at hl 0 rfl) ?_
  refine vp_callSi (va_Run.run (va_runS (As := [.long (jw b)]) (rest := [.int 8, .long (jw b)]) ⟨hx, hb, hml, hown, hw⟩ (k_M_signs l b hy0) (va_cwS 1 hw (bg_S ml_M_106 wt_M_signs wz_M wc_M_signs) rfl rfl rfl (by decide +kernel) ⟨Nat.le_of_ble_eq_true rfl, Nat.le_of_ble_eq_true rfl⟩) ⟨nP_b, nP_p⟩ rfl rfl hl.1 rfl (lv_room (Nat.le_of_ble_eq_true rfl)) d_M_signOf_4 ⟨Nat.le_of_ble_eq_true rfl, Nat.le_of_ble_eq_true rfl⟩)) (fun r1 hr1 => ?_)
  replace hr1 := hr1.symm; subst hr1
  refine lv_iconst (v := 1) hx hb d_M_signOf_7 (by decide) ?_
  refine lv_isub hx hb d_M_signOf_8 ?_
  refine lv_iload_n hx hb d_M_signOf_9 rfl (lv_at hl 1 rfl) ?_
  refine lv_isub hx hb d_M_signOf_10 ?_
  refine lv_imul hx hb d_M_signOf_11 ?_
  refine lv_lushr hx hb d_M_signOf_12 rfl ?_
  refine lv_ldc2 (v := 255) hx hb hown (hw _ cj_M_110) d_M_signOf_13 ?_
  refine lv_land hx hb d_M_signOf_16 ?_
  refine lv_l2i hx hb d_M_signOf_17 rfl ?_
  exact W.iret (v := ((((jw b).toUInt64 >>> ((8 * (((nI (jl b)) - 1) - (nI k))).toInt64.toUInt64 &&& Int64.toUInt64 63)).toInt64) &&& 255).toInt32) hx hb hr (fun t ht hW => ⟨((((jw b).toUInt64 >>> ((8 * (((nI (jl b)) - 1) - (nI k))).toInt64.toUInt64 &&& Int64.toUInt64 63)).toInt64) &&& 255).toInt32, rfl, (jw_sign b hy0 k (by have := jl_le b; omega) hy1), ht⟩) (fun _ h => nomatch h) d_M_signOf_18

set_option maxHeartbeats 4000000 in
set_option maxRecDepth 100000 in
theorem k_M_reign (l : Launch) (D : va_G) (T : gT) (o : Nat) (a : Nat → Nat) (z0 z2 : Int32) (nn : Nat) (z14 z18 z19 z20 z21 z24 z26 : Int32) (f1 f4 f5 f6 f7 f8 f9 f10 f11 f12 f13 f15 f16 f17 f22 f23 f25 f27 : Nat → Int32) (sz : Nat) (ni x y : Int32) (hy0 : nn ≤ 24) : Met l y_M_reign (Cond.code y_M_reign b_M_reign 5 (some .boolean) :: bg_W) ({ frames := 2, cells := 0, slots := 0, locals := 42 }) (qP D T (mX T o a z0 z2 (nI nn) z14 z18 z19 z20 z21 z24 z26 f1 f4 f5 f6 f7 f8 f9 f10 f11 f12 f13 f15 f16 f17 f22 f23 f25 f27) [.ref o, .int ni, .int x, .int y] sz) (va_Qi (fun (r : Int32) (u : Int32 × (Nat → Int32) × (Nat → Int32) × (Nat → Int32)) => match u with | (w0, g6, g7, g8) => (j_ix ni (nI nn) = false ∧ r = 0 ∧ w0 = 1 ∧ g6 = f6 ∧ g7 = f7 ∧ g8 = f8) ∨ (j_ix ni (nI nn) = true ∧ j_yy x y = false ∧ r = 0 ∧ w0 = 2 ∧ g6 = f6 ∧ g7 = f7 ∧ g8 = f8) ∨ (j_yy x y = true ∧ ∃ j, j < nn ∧ ni = nI j ∧ r = b2i (decide (f6 j = 0)) ∧ w0 = 0 ∧ g6 = upd f6 j 1 ∧ g7 = upd f7 j x ∧ g8 = upd f8 j y)) (qB D T (va_A (mX T o a z0 z2 (nI nn) z14 z18 z19 z20 z21 z24 z26 f1 f4 f5 f6 f7 f8 f9 f10 f11 f12 f13 f15 f16 f17 f22 f23 f25 f27) sz) (fun u : Int32 × (Nat → Int32) × (Nat → Int32) × (Nat → Int32) => match u with | (w0, g6, g7, g8) => mX T o a w0 z2 (nI nn) z14 z18 z19 z20 z21 z24 z26 f1 f4 f5 g6 g7 g8 f9 f10 f11 f12 f13 f15 f16 f17 f22 f23 f25 f27)) (va_A (mX T o a z0 z2 (nI nn) z14 z18 z19 z20 z21 z24 z26 f1 f4 f5 f6 f7 f8 f9 f10 f11 f12 f13 f15 f16 f17 f22 f23 f25 f27) sz)) 0 0 (va_A (mX T o a z0 z2 (nI nn) z14 z18 z19 z20 z21 z24 z26 f1 f4 f5 f6 f7 f8 f9 f10 f11 f12 f13 f15 f16 f17 f22 f23 f25 f27) sz) := by
  refine Met.ofW (cc := b_M_reign) (maxL := 5) (ret := (some .boolean)) (by decide) rfl ?_
  intro p e s m args below meth c s₁ B hml hv
  obtain ⟨rfl, hsz, hP, hK, hD0⟩ := hv
  have hx := B.exec
  have hb := B.bytes
  have hr := B.returns
  have hw : ∀ w ∈ bg_W, w.before ([.ref o, .int ni, .int x, .int y] : List Value).toArray s = true := fun w h => atoms_spec (ws := (Cond.code y_M_reign b_M_reign 5 (some .boolean) :: bg_W)) B.pre w (List.mem_cons_of_mem _ h)
  have hown : s.vm.findClass "TimeWordsModel" = some m.cls := findClass_of_methodNamed B.named
  have hlocks := B.notSynchronized
  subst hsz
  have hD := hD0.self (sz := s.heap.size)
  generalize hAe : va_A (mX T o a z0 z2 (nI nn) z14 z18 z19 z20 z21 z24 z26 f1 f4 f5 f6 f7 f8 f9 f10 f11 f12 f13 f15 f16 f17 f22 f23 f25 f27) s.heap.size = A at hD ⊢
  have hA : ∀ q : Nat, s.heap.size ≤ q → A q := fun q h => by rw [← hAe]; exact Or.inr h
  have hS : va_S A s.heap s.heap [] := va_S.rf
  have hl := lv_entry ([.ref o, .int ni, .int x, .int y]) (n := 5) (Nat.le_of_ble_eq_true rfl)
  rw [lg_entry_eq]
  generalize (lg_sl ([.ref o, .int ni, .int x, .int y]) ++ List.replicate (5 - (lg_sl ([.ref o, .int ni, .int x, .int y])).length) Slot.unset).toArray = ls at hl ⊢
  have hl : lv_has ls 5 [(0, .ref o), (1, .int ni), (2, .int x), (3, .int y)] := hl
  refine lv_aload_n hx hb d_M_reign_0 rfl (lv_at hl 0 rfl) ?_
  refine lv_aload_n hx hb d_M_reign_1 rfl (lv_at hl 0 rfl) ?_
  refine lv_iload_n hx hb d_M_reign_2 rfl (lv_at hl 1 rfl) ?_
  refine vp_callSi (va_Run.run (va_runV (As := [.int ni]) (rest := [.ref o]) ⟨hx, hb, hml, hown, hw⟩ (k_M_isName l D T o a z0 z2 (nI nn) z14 z18 z19 z20 z21 z24 z26 f1 f4 f5 f6 f7 f8 f9 f10 f11 f12 f13 f15 f16 f17 f22 f23 f25 f27 ni) (cwV 1 hw (bg_V ml_M_99 wi_M_isName wv_M_isName wz_M wc_M_isName) rfl rfl rfl (by decide +kernel) ⟨Nat.le_of_ble_eq_true rfl, Nat.le_of_ble_eq_true rfl⟩) ⟨sP_b, va_recv hK hP (ci := 6) (q0 := 0) rfl rfl, sP_p hP hK⟩ rfl rfl hl.1 rfl (lv_room (Nat.le_of_ble_eq_true rfl)) d_M_reign_3 ⟨Nat.le_of_ble_eq_true rfl, Nat.le_of_ble_eq_true rfl⟩)) (fun r1 hr1 => ?_)
  replace hr1 := hr1.symm; subst hr1
  refine lv_if_ne (tgt := 13) hx hb d_M_reign_6 (by decide) (fun c2 => ?_) (fun c2 => ?_)
  · have c2 := b2i_t c2
    have hix := c2
    obtain ⟨j, hj, rfl⟩ := ix_of c2 (by omega)
    refine lv_iload_n hx hb d_M_reign_13 rfl (lv_at hl 2 rfl) ?_
    refine vp_callSi (va_Run.run (va_runS (As := [.int x]) (rest := [.ref o]) ⟨hx, hb, hml, hown, hw⟩ (k_M_isYear l x) (va_cwS 1 hw (bg_S ml_M_102 wt_M_isYear wz_M wc_M_isYear) rfl rfl rfl (by decide +kernel) ⟨Nat.le_of_ble_eq_true rfl, Nat.le_of_ble_eq_true rfl⟩) ⟨nP_b, nP_p⟩ rfl rfl hl.1 rfl (lv_room (Nat.le_of_ble_eq_true rfl)) d_M_reign_14 ⟨Nat.le_of_ble_eq_true rfl, Nat.le_of_ble_eq_true rfl⟩)) (fun r3 hr3 => ?_)
    replace hr3 := hr3.symm; subst hr3
    refine lv_if_eq (tgt := 32) hx hb d_M_reign_17 (by decide) (fun c4 => ?_) (fun c4 => ?_)
    · have c4 := b2i_f c4
      refine lv_iconst (v := 2) hx hb d_M_reign_32 (by decide) ?_
      refine lv_goto (tgt := 37) hx hb d_M_reign_33 (by decide) ?_
      refine va_put (D := D) (ci := 6) (v := .int 2) (ty := .int) (C := "TimeWordsModel") (T := F_M) (N := 28) hx hb hw in_M ty_M ty_M_ok n_M hown hK hP hD hS 0 rfl rfl 0 (by decide) (hw _ fl_M_69) (fun _ h9 => h9) rfl (by decide +kernel) rfl rfl (Nat.le_of_ble_eq_true rfl) d_M_reign_37 (fun H locs hP hD hS => ?_)
      have hP : va_P D gC (mX T o a 2 z2 (nI nn) z14 z18 z19 z20 z21 z24 z26 f1 f4 f5 f6 f7 f8 f9 f10 f11 f12 f13 f15 f16 f17 f22 f23 f25 f27) H := hP
      have hD : va_D A (mX T o a 2 z2 (nI nn) z14 z18 z19 z20 z21 z24 z26 f1 f4 f5 f6 f7 f8 f9 f10 f11 f12 f13 f15 f16 f17 f22 f23 f25 f27) := hD
      refine lv_aload_n hx hb d_M_reign_40 rfl (lv_at hl 0 rfl) ?_
      refine va_get (D := D) (ci := 6) (v := .int 2) (C := "TimeWordsModel") (T := F_M) (N := 28) hx hb hw in_M hown hK hP 0 rfl rfl 0 (by decide) (hw _ fl_M_69) (fun _ h9 => h9) rfl d_M_reign_41 ?_
      refine lv_if_le (tgt := 49) hx hb d_M_reign_44 (by decide) (fun c5 => absurd c5 (by decide)) (fun c5 => ?_)
      refine lv_iconst (v := 0) hx hb d_M_reign_47 (by decide) ?_
      exact W.zret (v := 0) hx hb hr rfl (fun t ht hW => ⟨⟨0, (2, f6, f7, f8), rfl, (Or.inr (Or.inl ⟨hix, by simp [j_yy, *], rfl, rfl, rfl, rfl, rfl⟩)), by rw [ht]; exact hP, va_K.moved hW.alike hK, hD⟩, hS.F ht⟩) hS.2.2 d_M_reign_48
    · have c4 := b2i_t c4
      refine lv_iload_n hx hb d_M_reign_20 rfl (lv_at hl 3 rfl) ?_
      refine vp_callSi (va_Run.run (va_runS (As := [.int y]) (rest := [.ref o]) ⟨hx, hb, hml, hown, hw⟩ (k_M_isYear l y) (va_cwS 1 hw (bg_S ml_M_102 wt_M_isYear wz_M wc_M_isYear) rfl rfl rfl (by decide +kernel) ⟨Nat.le_of_ble_eq_true rfl, Nat.le_of_ble_eq_true rfl⟩) ⟨nP_b, nP_p⟩ rfl rfl hl.1 rfl (lv_room (Nat.le_of_ble_eq_true rfl)) d_M_reign_21 ⟨Nat.le_of_ble_eq_true rfl, Nat.le_of_ble_eq_true rfl⟩)) (fun r6 hr6 => ?_)
      replace hr6 := hr6.symm; subst hr6
      refine lv_if_eq (tgt := 32) hx hb d_M_reign_24 (by decide) (fun c7 => ?_) (fun c7 => ?_)
      · have c7 := b2i_f c7
        refine lv_iconst (v := 2) hx hb d_M_reign_32 (by decide) ?_
        refine lv_goto (tgt := 37) hx hb d_M_reign_33 (by decide) ?_
        refine va_put (D := D) (ci := 6) (v := .int 2) (ty := .int) (C := "TimeWordsModel") (T := F_M) (N := 28) hx hb hw in_M ty_M ty_M_ok n_M hown hK hP hD hS 0 rfl rfl 0 (by decide) (hw _ fl_M_69) (fun _ h9 => h9) rfl (by decide +kernel) rfl rfl (Nat.le_of_ble_eq_true rfl) d_M_reign_37 (fun H locs hP hD hS => ?_)
        have hP : va_P D gC (mX T o a 2 z2 (nI nn) z14 z18 z19 z20 z21 z24 z26 f1 f4 f5 f6 f7 f8 f9 f10 f11 f12 f13 f15 f16 f17 f22 f23 f25 f27) H := hP
        have hD : va_D A (mX T o a 2 z2 (nI nn) z14 z18 z19 z20 z21 z24 z26 f1 f4 f5 f6 f7 f8 f9 f10 f11 f12 f13 f15 f16 f17 f22 f23 f25 f27) := hD
        refine lv_aload_n hx hb d_M_reign_40 rfl (lv_at hl 0 rfl) ?_
        refine va_get (D := D) (ci := 6) (v := .int 2) (C := "TimeWordsModel") (T := F_M) (N := 28) hx hb hw in_M hown hK hP 0 rfl rfl 0 (by decide) (hw _ fl_M_69) (fun _ h9 => h9) rfl d_M_reign_41 ?_
        refine lv_if_le (tgt := 49) hx hb d_M_reign_44 (by decide) (fun c8 => absurd c8 (by decide)) (fun c8 => ?_)
        refine lv_iconst (v := 0) hx hb d_M_reign_47 (by decide) ?_
        exact W.zret (v := 0) hx hb hr rfl (fun t ht hW => ⟨⟨0, (2, f6, f7, f8), rfl, (Or.inr (Or.inl ⟨hix, by simp [j_yy, *], rfl, rfl, rfl, rfl, rfl⟩)), by rw [ht]; exact hP, va_K.moved hW.alike hK, hD⟩, hS.F ht⟩) hS.2.2 d_M_reign_48
      · have c7 := b2i_t c7
        refine lv_iload_n hx hb d_M_reign_27 rfl (lv_at hl 2 rfl) ?_
        refine lv_iload_n hx hb d_M_reign_28 rfl (lv_at hl 3 rfl) ?_
        refine lv_icmp_le (tgt := 36) hx hb d_M_reign_29 (by decide) (fun c9 => ?_) (fun c9 => ?_)
        · refine lv_iconst (v := 0) hx hb d_M_reign_36 (by decide) ?_
          refine va_put (D := D) (ci := 6) (v := .int 0) (ty := .int) (C := "TimeWordsModel") (T := F_M) (N := 28) hx hb hw in_M ty_M ty_M_ok n_M hown hK hP hD hS 0 rfl rfl 0 (by decide) (hw _ fl_M_69) (fun _ h9 => h9) rfl (by decide +kernel) rfl rfl (Nat.le_of_ble_eq_true rfl) d_M_reign_37 (fun H locs hP hD hS => ?_)
          have hP : va_P D gC (mX T o a 0 z2 (nI nn) z14 z18 z19 z20 z21 z24 z26 f1 f4 f5 f6 f7 f8 f9 f10 f11 f12 f13 f15 f16 f17 f22 f23 f25 f27) H := hP
          have hD : va_D A (mX T o a 0 z2 (nI nn) z14 z18 z19 z20 z21 z24 z26 f1 f4 f5 f6 f7 f8 f9 f10 f11 f12 f13 f15 f16 f17 f22 f23 f25 f27) := hD
          refine lv_aload_n hx hb d_M_reign_40 rfl (lv_at hl 0 rfl) ?_
          refine va_get (D := D) (ci := 6) (v := .int 0) (C := "TimeWordsModel") (T := F_M) (N := 28) hx hb hw in_M hown hK hP 0 rfl rfl 0 (by decide) (hw _ fl_M_69) (fun _ h9 => h9) rfl d_M_reign_41 ?_
          refine lv_if_le (tgt := 49) hx hb d_M_reign_44 (by decide) (fun c10 => ?_) (fun c10 => absurd c10 (by decide))
          refine lv_aload_n hx hb d_M_reign_49 rfl (lv_at hl 0 rfl) ?_
          refine va_get (D := D) (ci := 6) (v := .ref (a 6)) (C := "TimeWordsModel") (T := F_M) (N := 28) hx hb hw in_M hown hK hP 0 rfl rfl 6 (by decide) (hw _ fl_M_19) (fun _ h9 => h9) rfl d_M_reign_50 ?_
          refine lv_iload_n hx hb d_M_reign_53 rfl (lv_at hl 1 rfl) ?_
          refine va_zald hx hb hK hP 4 1 rfl rfl (by first | assumption | exact vp_in_nI (by omega) (by omega)) d_M_reign_54 ?_
          rw [show (nI j).toNatClampNeg = j from nI_clamp (by omega)]
          refine lv_istore (lv' := [(4, .int (f6 j)), (0, .ref o), (1, .int (nI j)), (2, .int x), (3, .int y)]) hx hb d_M_reign_55 hl (by decide) rfl (fun ls hl => ?_)
          refine lv_aload_n hx hb d_M_reign_57 rfl (lv_at hl 1 rfl) ?_
          refine va_get (D := D) (ci := 6) (v := .ref (a 6)) (C := "TimeWordsModel") (T := F_M) (N := 28) hx hb hw in_M hown hK hP 0 rfl rfl 6 (by decide) (hw _ fl_M_19) (fun _ h9 => h9) rfl d_M_reign_58 ?_
          refine lv_iload_n hx hb d_M_reign_61 rfl (lv_at hl 2 rfl) ?_
          refine lv_iconst (v := 1) hx hb d_M_reign_62 (by decide) ?_
          refine va_zast hx hb hK hP hD hS 4 1 rfl rfl (by first | assumption | exact vp_in_nI (by omega) (by omega)) d_M_reign_63 (fun H locs hP hD hS => ?_)
          rw [show (nI j).toNatClampNeg = j from nI_clamp (by omega)] at hP hD
          have hP : va_P D gC (mX T o a 0 z2 (nI nn) z14 z18 z19 z20 z21 z24 z26 f1 f4 f5 (upd f6 j 1) f7 f8 f9 f10 f11 f12 f13 f15 f16 f17 f22 f23 f25 f27) H := hP
          have hD : va_D A (mX T o a 0 z2 (nI nn) z14 z18 z19 z20 z21 z24 z26 f1 f4 f5 (upd f6 j 1) f7 f8 f9 f10 f11 f12 f13 f15 f16 f17 f22 f23 f25 f27) := hD
          refine lv_aload_n hx hb d_M_reign_64 rfl (lv_at hl 1 rfl) ?_
          refine va_get (D := D) (ci := 6) (v := .ref (a 7)) (C := "TimeWordsModel") (T := F_M) (N := 28) hx hb hw in_M hown hK hP 0 rfl rfl 7 (by decide) (hw _ fl_M_23) (fun _ h9 => h9) rfl d_M_reign_65 ?_
          refine lv_iload_n hx hb d_M_reign_68 rfl (lv_at hl 2 rfl) ?_
          refine lv_iload_n hx hb d_M_reign_69 rfl (lv_at hl 3 rfl) ?_
          refine va_iast hx hb hK hP hD hS 5 0 rfl rfl (by first | assumption | exact vp_in_nI (by omega) (by omega)) d_M_reign_70 (fun H locs hP hD hS => ?_)
          rw [show (nI j).toNatClampNeg = j from nI_clamp (by omega)] at hP hD
          have hP : va_P D gC (mX T o a 0 z2 (nI nn) z14 z18 z19 z20 z21 z24 z26 f1 f4 f5 (upd f6 j 1) (upd f7 j x) f8 f9 f10 f11 f12 f13 f15 f16 f17 f22 f23 f25 f27) H := hP
          have hD : va_D A (mX T o a 0 z2 (nI nn) z14 z18 z19 z20 z21 z24 z26 f1 f4 f5 (upd f6 j 1) (upd f7 j x) f8 f9 f10 f11 f12 f13 f15 f16 f17 f22 f23 f25 f27) := hD
          refine lv_aload_n hx hb d_M_reign_71 rfl (lv_at hl 1 rfl) ?_
          refine va_get (D := D) (ci := 6) (v := .ref (a 8)) (C := "TimeWordsModel") (T := F_M) (N := 28) hx hb hw in_M hown hK hP 0 rfl rfl 8 (by decide) (hw _ fl_M_26) (fun _ h9 => h9) rfl d_M_reign_72 ?_
          refine lv_iload_n hx hb d_M_reign_75 rfl (lv_at hl 2 rfl) ?_
          refine lv_iload_n hx hb d_M_reign_76 rfl (lv_at hl 4 rfl) ?_
          refine va_iast hx hb hK hP hD hS 6 0 rfl rfl (by first | assumption | exact vp_in_nI (by omega) (by omega)) d_M_reign_77 (fun H locs hP hD hS => ?_)
          rw [show (nI j).toNatClampNeg = j from nI_clamp (by omega)] at hP hD
          have hP : va_P D gC (mX T o a 0 z2 (nI nn) z14 z18 z19 z20 z21 z24 z26 f1 f4 f5 (upd f6 j 1) (upd f7 j x) (upd f8 j y) f9 f10 f11 f12 f13 f15 f16 f17 f22 f23 f25 f27) H := hP
          have hD : va_D A (mX T o a 0 z2 (nI nn) z14 z18 z19 z20 z21 z24 z26 f1 f4 f5 (upd f6 j 1) (upd f7 j x) (upd f8 j y) f9 f10 f11 f12 f13 f15 f16 f17 f22 f23 f25 f27) := hD
          refine lv_iload hx hb d_M_reign_78 (lv_at hl 0 rfl) ?_
          refine lv_if_ne (tgt := 87) hx hb d_M_reign_80 (by decide) (fun c11 => ?_) (fun c11 => ?_)
          · refine lv_iconst (v := 0) hx hb d_M_reign_87 (by decide) ?_
            exact W.zret (v := 0) hx hb hr rfl (fun t ht hW => ⟨⟨0, (0, upd f6 j 1, upd f7 j x, upd f8 j y), rfl, (Or.inr (Or.inr ⟨by simp [j_yy, *], _, hj, rfl, by simp [b2i, *], rfl, rfl, rfl, rfl⟩)), by rw [ht]; exact hP, va_K.moved hW.alike hK, hD⟩, hS.F ht⟩) hS.2.2 d_M_reign_88
          · refine lv_iconst (v := 1) hx hb d_M_reign_83 (by decide) ?_
            refine lv_goto (tgt := 88) hx hb d_M_reign_84 (by decide) ?_
            exact W.zret (v := 1) hx hb hr rfl (fun t ht hW => ⟨⟨1, (0, upd f6 j 1, upd f7 j x, upd f8 j y), rfl, (Or.inr (Or.inr ⟨by simp [j_yy, *], _, hj, rfl, by simp [b2i, *], rfl, rfl, rfl, rfl⟩)), by rw [ht]; exact hP, va_K.moved hW.alike hK, hD⟩, hS.F ht⟩) hS.2.2 d_M_reign_88
        · refine lv_iconst (v := 2) hx hb d_M_reign_32 (by decide) ?_
          refine lv_goto (tgt := 37) hx hb d_M_reign_33 (by decide) ?_
          refine va_put (D := D) (ci := 6) (v := .int 2) (ty := .int) (C := "TimeWordsModel") (T := F_M) (N := 28) hx hb hw in_M ty_M ty_M_ok n_M hown hK hP hD hS 0 rfl rfl 0 (by decide) (hw _ fl_M_69) (fun _ h9 => h9) rfl (by decide +kernel) rfl rfl (Nat.le_of_ble_eq_true rfl) d_M_reign_37 (fun H locs hP hD hS => ?_)
          have hP : va_P D gC (mX T o a 2 z2 (nI nn) z14 z18 z19 z20 z21 z24 z26 f1 f4 f5 f6 f7 f8 f9 f10 f11 f12 f13 f15 f16 f17 f22 f23 f25 f27) H := hP
          have hD : va_D A (mX T o a 2 z2 (nI nn) z14 z18 z19 z20 z21 z24 z26 f1 f4 f5 f6 f7 f8 f9 f10 f11 f12 f13 f15 f16 f17 f22 f23 f25 f27) := hD
          refine lv_aload_n hx hb d_M_reign_40 rfl (lv_at hl 0 rfl) ?_
          refine va_get (D := D) (ci := 6) (v := .int 2) (C := "TimeWordsModel") (T := F_M) (N := 28) hx hb hw in_M hown hK hP 0 rfl rfl 0 (by decide) (hw _ fl_M_69) (fun _ h9 => h9) rfl d_M_reign_41 ?_
          refine lv_if_le (tgt := 49) hx hb d_M_reign_44 (by decide) (fun c12 => absurd c12 (by decide)) (fun c12 => ?_)
          refine lv_iconst (v := 0) hx hb d_M_reign_47 (by decide) ?_
          exact W.zret (v := 0) hx hb hr rfl (fun t ht hW => ⟨⟨0, (2, f6, f7, f8), rfl, (Or.inr (Or.inl ⟨hix, by simp [j_yy, *], rfl, rfl, rfl, rfl, rfl⟩)), by rw [ht]; exact hP, va_K.moved hW.alike hK, hD⟩, hS.F ht⟩) hS.2.2 d_M_reign_48
  · have c2 := b2i_f c2
    refine lv_iconst (v := 1) hx hb d_M_reign_9 (by decide) ?_
    refine lv_goto (tgt := 37) hx hb d_M_reign_10 (by decide) ?_
    refine va_put (D := D) (ci := 6) (v := .int 1) (ty := .int) (C := "TimeWordsModel") (T := F_M) (N := 28) hx hb hw in_M ty_M ty_M_ok n_M hown hK hP hD hS 0 rfl rfl 0 (by decide) (hw _ fl_M_69) (fun _ h9 => h9) rfl (by decide +kernel) rfl rfl (Nat.le_of_ble_eq_true rfl) d_M_reign_37 (fun H locs hP hD hS => ?_)
    have hP : va_P D gC (mX T o a 1 z2 (nI nn) z14 z18 z19 z20 z21 z24 z26 f1 f4 f5 f6 f7 f8 f9 f10 f11 f12 f13 f15 f16 f17 f22 f23 f25 f27) H := hP
    have hD : va_D A (mX T o a 1 z2 (nI nn) z14 z18 z19 z20 z21 z24 z26 f1 f4 f5 f6 f7 f8 f9 f10 f11 f12 f13 f15 f16 f17 f22 f23 f25 f27) := hD
    refine lv_aload_n hx hb d_M_reign_40 rfl (lv_at hl 0 rfl) ?_
    refine va_get (D := D) (ci := 6) (v := .int 1) (C := "TimeWordsModel") (T := F_M) (N := 28) hx hb hw in_M hown hK hP 0 rfl rfl 0 (by decide) (hw _ fl_M_69) (fun _ h9 => h9) rfl d_M_reign_41 ?_
    refine lv_if_le (tgt := 49) hx hb d_M_reign_44 (by decide) (fun c13 => absurd c13 (by decide)) (fun c13 => ?_)
    refine lv_iconst (v := 0) hx hb d_M_reign_47 (by decide) ?_
    exact W.zret (v := 0) hx hb hr rfl (fun t ht hW => ⟨⟨0, (1, f6, f7, f8), rfl, (Or.inl ⟨by assumption, rfl, rfl, rfl, rfl, rfl⟩), by rw [ht]; exact hP, va_K.moved hW.alike hK, hD⟩, hS.F ht⟩) hS.2.2 d_M_reign_48

set_option maxHeartbeats 4000000 in
set_option maxRecDepth 100000 in
theorem k_M_phase (l : Launch) (D : va_G) (T : gT) (o : Nat) (a : Nat → Nat) (z0 z2 : Int32) (nn : Nat) (z14 z18 z19 z20 z21 z24 z26 : Int32) (f1 f4 f5 f6 f7 f8 f9 f10 f11 f12 f13 f15 f16 f17 f22 f23 f25 f27 : Nat → Int32) (sz : Nat) (ni pl x y dy : Int32) (ck : Nat → Nat) (hy0 : nn ≤ 24) (hy1 : ∀ i, f9 i = nI (ck i)) (hy2 : ∀ i, ck i ≤ 6) : Met l y_M_phase (Cond.code y_M_phase b_M_phase 7 (some .int) :: bg_W) ({ frames := 2, cells := 0, slots := 0, locals := 42 }) (qP D T (mX T o a z0 z2 (nI nn) z14 z18 z19 z20 z21 z24 z26 f1 f4 f5 f6 f7 f8 f9 f10 f11 f12 f13 f15 f16 f17 f22 f23 f25 f27) [.ref o, .int ni, .int pl, .int x, .int y, .int dy] sz) (va_Qi (fun (r : Int32) (u : Int32 × (Nat → Int32) × (Nat → Int32) × (Nat → Int32) × (Nat → Int32) × (Nat → Int32)) => match u with | (w0, g9, g10, g11, g12, g13) => ((j_ix ni (nI nn) && j_in pl 0 7) = false ∧ r = 0 ∧ w0 = 1 ∧ g9 = f9 ∧ g10 = f10 ∧ g11 = f11 ∧ g12 = f12 ∧ g13 = f13) ∨ ((j_ix ni (nI nn) && j_in pl 0 7) = true ∧ (j_yy x y && j_in dy 0 100000) = false ∧ r = 0 ∧ w0 = 2 ∧ g9 = f9 ∧ g10 = f10 ∧ g11 = f11 ∧ g12 = f12 ∧ g13 = f13) ∨ (j_in pl 0 7 = true ∧ (j_yy x y && j_in dy 0 100000) = true ∧ ∃ j, j < nn ∧ ni = nI j ∧ ((ck j = 6 ∧ r = 0 ∧ w0 = 3 ∧ g9 = f9 ∧ g10 = f10 ∧ g11 = f11 ∧ g12 = f12 ∧ g13 = f13) ∨ (ck j < 6 ∧ r = nI (ck j + 1) ∧ w0 = 0 ∧ g9 = upd f9 j (nI (ck j + 1)) ∧ g10 = upd f10 (6 * j + ck j) pl ∧ g11 = upd f11 (6 * j + ck j) x ∧ g12 = upd f12 (6 * j + ck j) y ∧ g13 = upd f13 (6 * j + ck j) dy)))) (qB D T (va_A (mX T o a z0 z2 (nI nn) z14 z18 z19 z20 z21 z24 z26 f1 f4 f5 f6 f7 f8 f9 f10 f11 f12 f13 f15 f16 f17 f22 f23 f25 f27) sz) (fun u : Int32 × (Nat → Int32) × (Nat → Int32) × (Nat → Int32) × (Nat → Int32) × (Nat → Int32) => match u with | (w0, g9, g10, g11, g12, g13) => mX T o a w0 z2 (nI nn) z14 z18 z19 z20 z21 z24 z26 f1 f4 f5 f6 f7 f8 g9 g10 g11 g12 g13 f15 f16 f17 f22 f23 f25 f27)) (va_A (mX T o a z0 z2 (nI nn) z14 z18 z19 z20 z21 z24 z26 f1 f4 f5 f6 f7 f8 f9 f10 f11 f12 f13 f15 f16 f17 f22 f23 f25 f27) sz)) 0 0 (va_A (mX T o a z0 z2 (nI nn) z14 z18 z19 z20 z21 z24 z26 f1 f4 f5 f6 f7 f8 f9 f10 f11 f12 f13 f15 f16 f17 f22 f23 f25 f27) sz) := by
  refine Met.ofW (cc := b_M_phase) (maxL := 7) (ret := (some .int)) (by decide) rfl ?_
  intro p e s m args below meth c s₁ B hml hv
  obtain ⟨rfl, hsz, hP, hK, hD0⟩ := hv
  have hx := B.exec
  have hb := B.bytes
  have hr := B.returns
  have hw : ∀ w ∈ bg_W, w.before ([.ref o, .int ni, .int pl, .int x, .int y, .int dy] : List Value).toArray s = true := fun w h => atoms_spec (ws := (Cond.code y_M_phase b_M_phase 7 (some .int) :: bg_W)) B.pre w (List.mem_cons_of_mem _ h)
  have hown : s.vm.findClass "TimeWordsModel" = some m.cls := findClass_of_methodNamed B.named
  have hlocks := B.notSynchronized
  subst hsz
  have hD := hD0.self (sz := s.heap.size)
  generalize hAe : va_A (mX T o a z0 z2 (nI nn) z14 z18 z19 z20 z21 z24 z26 f1 f4 f5 f6 f7 f8 f9 f10 f11 f12 f13 f15 f16 f17 f22 f23 f25 f27) s.heap.size = A at hD ⊢
  have hA : ∀ q : Nat, s.heap.size ≤ q → A q := fun q h => by rw [← hAe]; exact Or.inr h
  have hS : va_S A s.heap s.heap [] := va_S.rf
  have hl := lv_entry ([.ref o, .int ni, .int pl, .int x, .int y, .int dy]) (n := 7) (Nat.le_of_ble_eq_true rfl)
  rw [lg_entry_eq]
  generalize (lg_sl ([.ref o, .int ni, .int pl, .int x, .int y, .int dy]) ++ List.replicate (7 - (lg_sl ([.ref o, .int ni, .int pl, .int x, .int y, .int dy])).length) Slot.unset).toArray = ls at hl ⊢
  have hl : lv_has ls 7 [(0, .ref o), (1, .int ni), (2, .int pl), (3, .int x), (4, .int y), (5, .int dy)] := hl
  refine lv_aload_n hx hb d_M_phase_0 rfl (lv_at hl 0 rfl) ?_
  refine lv_iload_n hx hb d_M_phase_1 rfl (lv_at hl 1 rfl) ?_
  refine vp_callSi (va_Run.run (va_runV (As := [.int ni]) (rest := []) ⟨hx, hb, hml, hown, hw⟩ (k_M_isName l D T o a z0 z2 (nI nn) z14 z18 z19 z20 z21 z24 z26 f1 f4 f5 f6 f7 f8 f9 f10 f11 f12 f13 f15 f16 f17 f22 f23 f25 f27 ni) (cwV 1 hw (bg_V ml_M_99 wi_M_isName wv_M_isName wz_M wc_M_isName) rfl rfl rfl (by decide +kernel) ⟨Nat.le_of_ble_eq_true rfl, Nat.le_of_ble_eq_true rfl⟩) ⟨sP_b, va_recv hK hP (ci := 6) (q0 := 0) rfl rfl, sP_p hP hK⟩ rfl rfl hl.1 rfl (lv_room (Nat.le_of_ble_eq_true rfl)) d_M_phase_2 ⟨Nat.le_of_ble_eq_true rfl, Nat.le_of_ble_eq_true rfl⟩)) (fun r1 hr1 => ?_)
  replace hr1 := hr1.symm; subst hr1
  refine lv_if_eq (tgt := 18) hx hb d_M_phase_5 (by decide) (fun c2 => ?_) (fun c2 => ?_)
  · have c2 := b2i_f c2
    refine lv_aload_n hx hb d_M_phase_18 rfl (lv_at hl 0 rfl) ?_
    refine lv_iconst (v := 1) hx hb d_M_phase_19 (by decide) ?_
    refine g_calli (va_runV (As := [.int 1]) (rest := []) ⟨hx, hb, hml, hown, hw⟩ (k_M_fails l D T o a z0 z2 (nI nn) z14 z18 z19 z20 z21 z24 z26 f1 f4 f5 f6 f7 f8 f9 f10 f11 f12 f13 f15 f16 f17 f22 f23 f25 f27 s.heap.size 1) (cwV 1 hw (bg_V ml_M_89 wi_M_fails wv_M_fails wz_M wc_M_fails) rfl rfl rfl (by decide +kernel) ⟨Nat.le_of_ble_eq_true rfl, Nat.le_of_ble_eq_true rfl⟩) ⟨qP_b, va_recv hK hP (ci := 6) (q0 := 0) rfl rfl, qP_p hP hK hD⟩ rfl rfl hl.1 rfl (lv_room (Nat.le_of_ble_eq_true rfl)) d_M_phase_20 ⟨Nat.le_of_ble_eq_true rfl, Nat.le_of_ble_eq_true rfl⟩) hD hS hA (fun r3 u4 H locs hr3 hP hD hS => ?_)
    obtain ⟨q0, q1⟩ := hr3
    replace q0 := q0.symm; subst q0; replace q1 := q1.symm; subst q1
    have hP : va_P D gC (mX T o a 1 z2 (nI nn) z14 z18 z19 z20 z21 z24 z26 f1 f4 f5 f6 f7 f8 f9 f10 f11 f12 f13 f15 f16 f17 f22 f23 f25 f27) H := hP
    have hD : va_D A (mX T o a 1 z2 (nI nn) z14 z18 z19 z20 z21 z24 z26 f1 f4 f5 f6 f7 f8 f9 f10 f11 f12 f13 f15 f16 f17 f22 f23 f25 f27) := hD
    exact W.iret (v := 0) hx hb hr (fun t ht hW => ⟨⟨0, (1, f9, f10, f11, f12, f13), rfl, (Or.inl ⟨by simp [*], rfl, rfl, rfl, rfl, rfl, rfl, rfl⟩), by rw [ht]; exact hP, va_K.moved hW.alike hK, hD⟩, hS.F ht⟩) hS.2.2 d_M_phase_23
  · have c2 := b2i_t c2
    have hix := c2
    obtain ⟨j, hj, rfl⟩ := ix_of c2 (by omega)
    have h6 := hy2 j
    refine lv_iload_n hx hb d_M_phase_8 rfl (lv_at hl 2 rfl) ?_
    refine lv_iconst (v := 0) hx hb d_M_phase_9 (by decide) ?_
    refine lv_bipush (v := 7) hx hb d_M_phase_10 (by decide) ?_
    refine vp_callSi (va_Run.run (va_runS (As := [.int pl, .int 0, .int 7]) (rest := []) ⟨hx, hb, hml, hown, hw⟩ (k_M_in l pl 0 7) (va_cwS 3 hw (bg_S ml_M_72 wt_M_in wz_M wc_M_in) rfl rfl rfl (by decide +kernel) ⟨Nat.le_of_ble_eq_true rfl, Nat.le_of_ble_eq_true rfl⟩) ⟨nP_b, nP_p⟩ rfl rfl hl.1 rfl (lv_room (Nat.le_of_ble_eq_true rfl)) d_M_phase_12 ⟨Nat.le_of_ble_eq_true rfl, Nat.le_of_ble_eq_true rfl⟩)) (fun r5 hr5 => ?_)
    replace hr5 := hr5.symm; subst hr5
    refine lv_if_ne (tgt := 24) hx hb d_M_phase_15 (by decide) (fun c6 => ?_) (fun c6 => ?_)
    · have c6 := b2i_t c6
      refine lv_iload_n hx hb d_M_phase_24 rfl (lv_at hl 3 rfl) ?_
      refine vp_callSi (va_Run.run (va_runS (As := [.int x]) (rest := []) ⟨hx, hb, hml, hown, hw⟩ (k_M_isYear l x) (va_cwS 1 hw (bg_S ml_M_102 wt_M_isYear wz_M wc_M_isYear) rfl rfl rfl (by decide +kernel) ⟨Nat.le_of_ble_eq_true rfl, Nat.le_of_ble_eq_true rfl⟩) ⟨nP_b, nP_p⟩ rfl rfl hl.1 rfl (lv_room (Nat.le_of_ble_eq_true rfl)) d_M_phase_25 ⟨Nat.le_of_ble_eq_true rfl, Nat.le_of_ble_eq_true rfl⟩)) (fun r7 hr7 => ?_)
      replace hr7 := hr7.symm; subst hr7
      refine lv_if_eq (tgt := 56) hx hb d_M_phase_28 (by decide) (fun c8 => ?_) (fun c8 => ?_)
      · have c8 := b2i_f c8
        refine lv_aload_n hx hb d_M_phase_56 rfl (lv_at hl 0 rfl) ?_
        refine lv_iconst (v := 2) hx hb d_M_phase_57 (by decide) ?_
        refine g_calli (va_runV (As := [.int 2]) (rest := []) ⟨hx, hb, hml, hown, hw⟩ (k_M_fails l D T o a z0 z2 (nI nn) z14 z18 z19 z20 z21 z24 z26 f1 f4 f5 f6 f7 f8 f9 f10 f11 f12 f13 f15 f16 f17 f22 f23 f25 f27 s.heap.size 2) (cwV 1 hw (bg_V ml_M_89 wi_M_fails wv_M_fails wz_M wc_M_fails) rfl rfl rfl (by decide +kernel) ⟨Nat.le_of_ble_eq_true rfl, Nat.le_of_ble_eq_true rfl⟩) ⟨qP_b, va_recv hK hP (ci := 6) (q0 := 0) rfl rfl, qP_p hP hK hD⟩ rfl rfl hl.1 rfl (lv_room (Nat.le_of_ble_eq_true rfl)) d_M_phase_58 ⟨Nat.le_of_ble_eq_true rfl, Nat.le_of_ble_eq_true rfl⟩) hD hS hA (fun r9 u10 H locs hr9 hP hD hS => ?_)
        obtain ⟨q0, q1⟩ := hr9
        replace q0 := q0.symm; subst q0; replace q1 := q1.symm; subst q1
        have hP : va_P D gC (mX T o a 2 z2 (nI nn) z14 z18 z19 z20 z21 z24 z26 f1 f4 f5 f6 f7 f8 f9 f10 f11 f12 f13 f15 f16 f17 f22 f23 f25 f27) H := hP
        have hD : va_D A (mX T o a 2 z2 (nI nn) z14 z18 z19 z20 z21 z24 z26 f1 f4 f5 f6 f7 f8 f9 f10 f11 f12 f13 f15 f16 f17 f22 f23 f25 f27) := hD
        exact W.iret (v := 0) hx hb hr (fun t ht hW => ⟨⟨0, (2, f9, f10, f11, f12, f13), rfl, (Or.inr (Or.inl ⟨by simp [*], by first | (simp [j_yy, *]; done) | (have hq : ¬ x ≤ y := k2_nle (by assumption); simp [j_yy, *]), rfl, rfl, rfl, rfl, rfl, rfl, rfl⟩)), by rw [ht]; exact hP, va_K.moved hW.alike hK, hD⟩, hS.F ht⟩) hS.2.2 d_M_phase_61
      · have c8 := b2i_t c8
        refine lv_iload hx hb d_M_phase_31 (lv_at hl 4 rfl) ?_
        refine vp_callSi (va_Run.run (va_runS (As := [.int y]) (rest := []) ⟨hx, hb, hml, hown, hw⟩ (k_M_isYear l y) (va_cwS 1 hw (bg_S ml_M_102 wt_M_isYear wz_M wc_M_isYear) rfl rfl rfl (by decide +kernel) ⟨Nat.le_of_ble_eq_true rfl, Nat.le_of_ble_eq_true rfl⟩) ⟨nP_b, nP_p⟩ rfl rfl hl.1 rfl (lv_room (Nat.le_of_ble_eq_true rfl)) d_M_phase_33 ⟨Nat.le_of_ble_eq_true rfl, Nat.le_of_ble_eq_true rfl⟩)) (fun r11 hr11 => ?_)
        replace hr11 := hr11.symm; subst hr11
        refine lv_if_eq (tgt := 56) hx hb d_M_phase_36 (by decide) (fun c12 => ?_) (fun c12 => ?_)
        · have c12 := b2i_f c12
          refine lv_aload_n hx hb d_M_phase_56 rfl (lv_at hl 0 rfl) ?_
          refine lv_iconst (v := 2) hx hb d_M_phase_57 (by decide) ?_
          refine g_calli (va_runV (As := [.int 2]) (rest := []) ⟨hx, hb, hml, hown, hw⟩ (k_M_fails l D T o a z0 z2 (nI nn) z14 z18 z19 z20 z21 z24 z26 f1 f4 f5 f6 f7 f8 f9 f10 f11 f12 f13 f15 f16 f17 f22 f23 f25 f27 s.heap.size 2) (cwV 1 hw (bg_V ml_M_89 wi_M_fails wv_M_fails wz_M wc_M_fails) rfl rfl rfl (by decide +kernel) ⟨Nat.le_of_ble_eq_true rfl, Nat.le_of_ble_eq_true rfl⟩) ⟨qP_b, va_recv hK hP (ci := 6) (q0 := 0) rfl rfl, qP_p hP hK hD⟩ rfl rfl hl.1 rfl (lv_room (Nat.le_of_ble_eq_true rfl)) d_M_phase_58 ⟨Nat.le_of_ble_eq_true rfl, Nat.le_of_ble_eq_true rfl⟩) hD hS hA (fun r13 u14 H locs hr13 hP hD hS => ?_)
          obtain ⟨q0, q1⟩ := hr13
          replace q0 := q0.symm; subst q0; replace q1 := q1.symm; subst q1
          have hP : va_P D gC (mX T o a 2 z2 (nI nn) z14 z18 z19 z20 z21 z24 z26 f1 f4 f5 f6 f7 f8 f9 f10 f11 f12 f13 f15 f16 f17 f22 f23 f25 f27) H := hP
          have hD : va_D A (mX T o a 2 z2 (nI nn) z14 z18 z19 z20 z21 z24 z26 f1 f4 f5 f6 f7 f8 f9 f10 f11 f12 f13 f15 f16 f17 f22 f23 f25 f27) := hD
          exact W.iret (v := 0) hx hb hr (fun t ht hW => ⟨⟨0, (2, f9, f10, f11, f12, f13), rfl, (Or.inr (Or.inl ⟨by simp [*], by first | (simp [j_yy, *]; done) | (have hq : ¬ x ≤ y := k2_nle (by assumption); simp [j_yy, *]), rfl, rfl, rfl, rfl, rfl, rfl, rfl⟩)), by rw [ht]; exact hP, va_K.moved hW.alike hK, hD⟩, hS.F ht⟩) hS.2.2 d_M_phase_61
        · have c12 := b2i_t c12
          refine lv_iload_n hx hb d_M_phase_39 rfl (lv_at hl 3 rfl) ?_
          refine lv_iload hx hb d_M_phase_40 (lv_at hl 4 rfl) ?_
          refine lv_icmp_gt (tgt := 56) hx hb d_M_phase_42 (by decide) (fun c15 => ?_) (fun c15 => ?_)
          · refine lv_aload_n hx hb d_M_phase_56 rfl (lv_at hl 0 rfl) ?_
            refine lv_iconst (v := 2) hx hb d_M_phase_57 (by decide) ?_
            refine g_calli (va_runV (As := [.int 2]) (rest := []) ⟨hx, hb, hml, hown, hw⟩ (k_M_fails l D T o a z0 z2 (nI nn) z14 z18 z19 z20 z21 z24 z26 f1 f4 f5 f6 f7 f8 f9 f10 f11 f12 f13 f15 f16 f17 f22 f23 f25 f27 s.heap.size 2) (cwV 1 hw (bg_V ml_M_89 wi_M_fails wv_M_fails wz_M wc_M_fails) rfl rfl rfl (by decide +kernel) ⟨Nat.le_of_ble_eq_true rfl, Nat.le_of_ble_eq_true rfl⟩) ⟨qP_b, va_recv hK hP (ci := 6) (q0 := 0) rfl rfl, qP_p hP hK hD⟩ rfl rfl hl.1 rfl (lv_room (Nat.le_of_ble_eq_true rfl)) d_M_phase_58 ⟨Nat.le_of_ble_eq_true rfl, Nat.le_of_ble_eq_true rfl⟩) hD hS hA (fun r16 u17 H locs hr16 hP hD hS => ?_)
            obtain ⟨q0, q1⟩ := hr16
            replace q0 := q0.symm; subst q0; replace q1 := q1.symm; subst q1
            have hP : va_P D gC (mX T o a 2 z2 (nI nn) z14 z18 z19 z20 z21 z24 z26 f1 f4 f5 f6 f7 f8 f9 f10 f11 f12 f13 f15 f16 f17 f22 f23 f25 f27) H := hP
            have hD : va_D A (mX T o a 2 z2 (nI nn) z14 z18 z19 z20 z21 z24 z26 f1 f4 f5 f6 f7 f8 f9 f10 f11 f12 f13 f15 f16 f17 f22 f23 f25 f27) := hD
            exact W.iret (v := 0) hx hb hr (fun t ht hW => ⟨⟨0, (2, f9, f10, f11, f12, f13), rfl, (Or.inr (Or.inl ⟨by simp [*], by first | (simp [j_yy, *]; done) | (have hq : ¬ x ≤ y := k2_nle (by assumption); simp [j_yy, *]), rfl, rfl, rfl, rfl, rfl, rfl, rfl⟩)), by rw [ht]; exact hP, va_K.moved hW.alike hK, hD⟩, hS.F ht⟩) hS.2.2 d_M_phase_61
          · refine lv_iload hx hb d_M_phase_45 (lv_at hl 5 rfl) ?_
            refine lv_iconst (v := 0) hx hb d_M_phase_47 (by decide) ?_
            refine lv_ldc (v := 100000) hx hb hown (hw _ ci_M_105) d_M_phase_48 ?_
            refine vp_callSi (va_Run.run (va_runS (As := [.int dy, .int 0, .int 100000]) (rest := []) ⟨hx, hb, hml, hown, hw⟩ (k_M_in l dy 0 100000) (va_cwS 3 hw (bg_S ml_M_72 wt_M_in wz_M wc_M_in) rfl rfl rfl (by decide +kernel) ⟨Nat.le_of_ble_eq_true rfl, Nat.le_of_ble_eq_true rfl⟩) ⟨nP_b, nP_p⟩ rfl rfl hl.1 rfl (lv_room (Nat.le_of_ble_eq_true rfl)) d_M_phase_50 ⟨Nat.le_of_ble_eq_true rfl, Nat.le_of_ble_eq_true rfl⟩)) (fun r18 hr18 => ?_)
            replace hr18 := hr18.symm; subst hr18
            refine lv_if_ne (tgt := 62) hx hb d_M_phase_53 (by decide) (fun c19 => ?_) (fun c19 => ?_)
            · have c19 := b2i_t c19
              have hyd : (j_yy x y && j_in dy 0 100000) = true := by simp [j_yy, k2_le c15, *]
              refine lv_aload_n hx hb d_M_phase_62 rfl (lv_at hl 0 rfl) ?_
              refine va_get (D := D) (ci := 6) (v := .ref (a 9)) (C := "TimeWordsModel") (T := F_M) (N := 28) hx hb hw in_M hown hK hP 0 rfl rfl 9 (by decide) (hw _ fl_M_29) (fun _ h9 => h9) rfl d_M_phase_63 ?_
              refine lv_iload_n hx hb d_M_phase_66 rfl (lv_at hl 1 rfl) ?_
              refine va_iald hx hb hK hP 7 0 rfl rfl (by first | assumption | exact vp_in_nI (by omega) (by omega)) d_M_phase_67 ?_
              rw [show (nI j).toNatClampNeg = j from nI_clamp (by omega)]
              rw [hy1 j]
              refine lv_bipush (v := 6) hx hb d_M_phase_68 (by decide) ?_
              refine lv_icmp_ne (tgt := 79) hx hb d_M_phase_70 (by decide) (fun c20 => ?_) (fun c20 => ?_)
              · have c20 := nc_ne (a := ck j) (b := 6) c20 (by omega) (by omega)
                have hlt : ck j < 6 := by omega
                refine lv_aload_n hx hb d_M_phase_79 rfl (lv_at hl 0 rfl) ?_
                refine lv_iconst (v := 0) hx hb d_M_phase_80 (by decide) ?_
                refine va_put (D := D) (ci := 6) (v := .int 0) (ty := .int) (C := "TimeWordsModel") (T := F_M) (N := 28) hx hb hw in_M ty_M ty_M_ok n_M hown hK hP hD hS 0 rfl rfl 0 (by decide) (hw _ fl_M_69) (fun _ h9 => h9) rfl (by decide +kernel) rfl rfl (Nat.le_of_ble_eq_true rfl) d_M_phase_81 (fun H locs hP hD hS => ?_)
                have hP : va_P D gC (mX T o a 0 z2 (nI nn) z14 z18 z19 z20 z21 z24 z26 f1 f4 f5 f6 f7 f8 f9 f10 f11 f12 f13 f15 f16 f17 f22 f23 f25 f27) H := hP
                have hD : va_D A (mX T o a 0 z2 (nI nn) z14 z18 z19 z20 z21 z24 z26 f1 f4 f5 f6 f7 f8 f9 f10 f11 f12 f13 f15 f16 f17 f22 f23 f25 f27) := hD
                refine lv_bipush (v := 6) hx hb d_M_phase_84 (by decide) ?_
                refine lv_iload_n hx hb d_M_phase_86 rfl (lv_at hl 1 rfl) ?_
                refine lv_imul hx hb d_M_phase_87 ?_
                rw [show 6 * (nI j) = nI (6 * j) from pk_mul 6 j]
                refine lv_aload_n hx hb d_M_phase_88 rfl (lv_at hl 0 rfl) ?_
                refine va_get (D := D) (ci := 6) (v := .ref (a 9)) (C := "TimeWordsModel") (T := F_M) (N := 28) hx hb hw in_M hown hK hP 0 rfl rfl 9 (by decide) (hw _ fl_M_29) (fun _ h9 => h9) rfl d_M_phase_89 ?_
                refine lv_iload_n hx hb d_M_phase_92 rfl (lv_at hl 1 rfl) ?_
                refine va_iald hx hb hK hP 7 0 rfl rfl (by first | assumption | exact vp_in_nI (by omega) (by omega)) d_M_phase_93 ?_
                rw [show (nI j).toNatClampNeg = j from nI_clamp (by omega)]
                rw [hy1 j]
                refine lv_iadd hx hb d_M_phase_94 ?_
                rw [show (nI (6 * j)) + (nI (ck j)) = nI (6 * j + (ck j)) from nI_add (6 * j) (ck j)]
                refine lv_istore (lv' := [(6, .int (nI (6 * j + (ck j)))), (0, .ref o), (1, .int (nI j)), (2, .int pl), (3, .int x), (4, .int y), (5, .int dy)]) hx hb d_M_phase_95 hl (by decide) rfl (fun ls hl => ?_)
                refine lv_aload_n hx hb d_M_phase_97 rfl (lv_at hl 1 rfl) ?_
                refine va_get (D := D) (ci := 6) (v := .ref (a 10)) (C := "TimeWordsModel") (T := F_M) (N := 28) hx hb hw in_M hown hK hP 0 rfl rfl 10 (by decide) (hw _ fl_M_32) (fun _ h9 => h9) rfl d_M_phase_98 ?_
                refine lv_iload hx hb d_M_phase_101 (lv_at hl 0 rfl) ?_
                refine lv_iload_n hx hb d_M_phase_103 rfl (lv_at hl 3 rfl) ?_
                refine va_iast hx hb hK hP hD hS 8 0 rfl rfl (by first | assumption | exact vp_in_nI (by omega) (by omega)) d_M_phase_104 (fun H locs hP hD hS => ?_)
                rw [show (nI (6 * j + (ck j))).toNatClampNeg = (6 * j + (ck j)) from nI_clamp (by omega)] at hP hD
                have hP : va_P D gC (mX T o a 0 z2 (nI nn) z14 z18 z19 z20 z21 z24 z26 f1 f4 f5 f6 f7 f8 f9 (upd f10 (6 * j + (ck j)) pl) f11 f12 f13 f15 f16 f17 f22 f23 f25 f27) H := hP
                have hD : va_D A (mX T o a 0 z2 (nI nn) z14 z18 z19 z20 z21 z24 z26 f1 f4 f5 f6 f7 f8 f9 (upd f10 (6 * j + (ck j)) pl) f11 f12 f13 f15 f16 f17 f22 f23 f25 f27) := hD
                refine lv_aload_n hx hb d_M_phase_105 rfl (lv_at hl 1 rfl) ?_
                refine va_get (D := D) (ci := 6) (v := .ref (a 11)) (C := "TimeWordsModel") (T := F_M) (N := 28) hx hb hw in_M hown hK hP 0 rfl rfl 11 (by decide) (hw _ fl_M_35) (fun _ h9 => h9) rfl d_M_phase_106 ?_
                refine lv_iload hx hb d_M_phase_109 (lv_at hl 0 rfl) ?_
                refine lv_iload_n hx hb d_M_phase_111 rfl (lv_at hl 4 rfl) ?_
                refine va_iast hx hb hK hP hD hS 9 0 rfl rfl (by first | assumption | exact vp_in_nI (by omega) (by omega)) d_M_phase_112 (fun H locs hP hD hS => ?_)
                rw [show (nI (6 * j + (ck j))).toNatClampNeg = (6 * j + (ck j)) from nI_clamp (by omega)] at hP hD
                have hP : va_P D gC (mX T o a 0 z2 (nI nn) z14 z18 z19 z20 z21 z24 z26 f1 f4 f5 f6 f7 f8 f9 (upd f10 (6 * j + (ck j)) pl) (upd f11 (6 * j + (ck j)) x) f12 f13 f15 f16 f17 f22 f23 f25 f27) H := hP
                have hD : va_D A (mX T o a 0 z2 (nI nn) z14 z18 z19 z20 z21 z24 z26 f1 f4 f5 f6 f7 f8 f9 (upd f10 (6 * j + (ck j)) pl) (upd f11 (6 * j + (ck j)) x) f12 f13 f15 f16 f17 f22 f23 f25 f27) := hD
                refine lv_aload_n hx hb d_M_phase_113 rfl (lv_at hl 1 rfl) ?_
                refine va_get (D := D) (ci := 6) (v := .ref (a 12)) (C := "TimeWordsModel") (T := F_M) (N := 28) hx hb hw in_M hown hK hP 0 rfl rfl 12 (by decide) (hw _ fl_M_38) (fun _ h9 => h9) rfl d_M_phase_114 ?_
                refine lv_iload hx hb d_M_phase_117 (lv_at hl 0 rfl) ?_
                refine lv_iload hx hb d_M_phase_119 (lv_at hl 5 rfl) ?_
                refine va_iast hx hb hK hP hD hS 10 0 rfl rfl (by first | assumption | exact vp_in_nI (by omega) (by omega)) d_M_phase_121 (fun H locs hP hD hS => ?_)
                rw [show (nI (6 * j + (ck j))).toNatClampNeg = (6 * j + (ck j)) from nI_clamp (by omega)] at hP hD
                have hP : va_P D gC (mX T o a 0 z2 (nI nn) z14 z18 z19 z20 z21 z24 z26 f1 f4 f5 f6 f7 f8 f9 (upd f10 (6 * j + (ck j)) pl) (upd f11 (6 * j + (ck j)) x) (upd f12 (6 * j + (ck j)) y) f13 f15 f16 f17 f22 f23 f25 f27) H := hP
                have hD : va_D A (mX T o a 0 z2 (nI nn) z14 z18 z19 z20 z21 z24 z26 f1 f4 f5 f6 f7 f8 f9 (upd f10 (6 * j + (ck j)) pl) (upd f11 (6 * j + (ck j)) x) (upd f12 (6 * j + (ck j)) y) f13 f15 f16 f17 f22 f23 f25 f27) := hD
                refine lv_aload_n hx hb d_M_phase_122 rfl (lv_at hl 1 rfl) ?_
                refine va_get (D := D) (ci := 6) (v := .ref (a 13)) (C := "TimeWordsModel") (T := F_M) (N := 28) hx hb hw in_M hown hK hP 0 rfl rfl 13 (by decide) (hw _ fl_M_41) (fun _ h9 => h9) rfl d_M_phase_123 ?_
                refine lv_iload hx hb d_M_phase_126 (lv_at hl 0 rfl) ?_
                refine lv_iload hx hb d_M_phase_128 (lv_at hl 6 rfl) ?_
                refine va_iast hx hb hK hP hD hS 11 0 rfl rfl (by first | assumption | exact vp_in_nI (by omega) (by omega)) d_M_phase_130 (fun H locs hP hD hS => ?_)
                rw [show (nI (6 * j + (ck j))).toNatClampNeg = (6 * j + (ck j)) from nI_clamp (by omega)] at hP hD
                have hP : va_P D gC (mX T o a 0 z2 (nI nn) z14 z18 z19 z20 z21 z24 z26 f1 f4 f5 f6 f7 f8 f9 (upd f10 (6 * j + (ck j)) pl) (upd f11 (6 * j + (ck j)) x) (upd f12 (6 * j + (ck j)) y) (upd f13 (6 * j + (ck j)) dy) f15 f16 f17 f22 f23 f25 f27) H := hP
                have hD : va_D A (mX T o a 0 z2 (nI nn) z14 z18 z19 z20 z21 z24 z26 f1 f4 f5 f6 f7 f8 f9 (upd f10 (6 * j + (ck j)) pl) (upd f11 (6 * j + (ck j)) x) (upd f12 (6 * j + (ck j)) y) (upd f13 (6 * j + (ck j)) dy) f15 f16 f17 f22 f23 f25 f27) := hD
                refine lv_aload_n hx hb d_M_phase_131 rfl (lv_at hl 1 rfl) ?_
                refine va_get (D := D) (ci := 6) (v := .ref (a 9)) (C := "TimeWordsModel") (T := F_M) (N := 28) hx hb hw in_M hown hK hP 0 rfl rfl 9 (by decide) (hw _ fl_M_29) (fun _ h9 => h9) rfl d_M_phase_132 ?_
                refine lv_iload_n hx hb d_M_phase_135 rfl (lv_at hl 2 rfl) ?_
                refine lv_dup2_11 hx hb d_M_phase_136 rfl rfl ?_
                refine va_iald hx hb hK hP 7 0 rfl rfl (by first | assumption | exact vp_in_nI (by omega) (by omega)) d_M_phase_137 ?_
                rw [show (nI j).toNatClampNeg = j from nI_clamp (by omega)]
                rw [hy1 j]
                refine lv_iconst (v := 1) hx hb d_M_phase_138 (by decide) ?_
                refine lv_iadd hx hb d_M_phase_139 ?_
                rw [nI_1]
                refine va_iast hx hb hK hP hD hS 7 0 rfl rfl (by first | assumption | exact vp_in_nI (by omega) (by omega)) d_M_phase_140 (fun H locs hP hD hS => ?_)
                rw [show (nI j).toNatClampNeg = j from nI_clamp (by omega)] at hP hD
                have hP : va_P D gC (mX T o a 0 z2 (nI nn) z14 z18 z19 z20 z21 z24 z26 f1 f4 f5 f6 f7 f8 (upd f9 j (nI (ck j + 1))) (upd f10 (6 * j + (ck j)) pl) (upd f11 (6 * j + (ck j)) x) (upd f12 (6 * j + (ck j)) y) (upd f13 (6 * j + (ck j)) dy) f15 f16 f17 f22 f23 f25 f27) H := hP
                have hD : va_D A (mX T o a 0 z2 (nI nn) z14 z18 z19 z20 z21 z24 z26 f1 f4 f5 f6 f7 f8 (upd f9 j (nI (ck j + 1))) (upd f10 (6 * j + (ck j)) pl) (upd f11 (6 * j + (ck j)) x) (upd f12 (6 * j + (ck j)) y) (upd f13 (6 * j + (ck j)) dy) f15 f16 f17 f22 f23 f25 f27) := hD
                refine lv_aload_n hx hb d_M_phase_141 rfl (lv_at hl 1 rfl) ?_
                refine va_get (D := D) (ci := 6) (v := .ref (a 9)) (C := "TimeWordsModel") (T := F_M) (N := 28) hx hb hw in_M hown hK hP 0 rfl rfl 9 (by decide) (hw _ fl_M_29) (fun _ h9 => h9) rfl d_M_phase_142 ?_
                refine lv_iload_n hx hb d_M_phase_145 rfl (lv_at hl 2 rfl) ?_
                refine va_iald hx hb hK hP 7 0 rfl rfl (by first | assumption | exact vp_in_nI (by omega) (by omega)) d_M_phase_146 ?_
                rw [show (nI j).toNatClampNeg = j from nI_clamp (by omega)]
                exact W.iret (v := (upd f9 j (nI (ck j + 1))) j) hx hb hr (fun t ht hW => ⟨⟨(upd f9 j (nI (ck j + 1))) j, (0, upd f9 j (nI (ck j + 1)), upd f10 (6 * j + (ck j)) pl, upd f11 (6 * j + (ck j)) x, upd f12 (6 * j + (ck j)) y, upd f13 (6 * j + (ck j)) dy), rfl, (Or.inr (Or.inr ⟨by assumption, hyd, j, hj, rfl, Or.inr ⟨hlt, pk_us, rfl, rfl, rfl, rfl, rfl, rfl⟩⟩)), by rw [ht]; exact hP, va_K.moved hW.alike hK, hD⟩, hS.F ht⟩) hS.2.2 d_M_phase_147
              · have c20 := nc_eq (a := ck j) (b := 6) c20 (by omega) (by omega)
                refine lv_aload_n hx hb d_M_phase_73 rfl (lv_at hl 0 rfl) ?_
                refine lv_iconst (v := 3) hx hb d_M_phase_74 (by decide) ?_
                refine g_calli (va_runV (As := [.int 3]) (rest := []) ⟨hx, hb, hml, hown, hw⟩ (k_M_fails l D T o a z0 z2 (nI nn) z14 z18 z19 z20 z21 z24 z26 f1 f4 f5 f6 f7 f8 f9 f10 f11 f12 f13 f15 f16 f17 f22 f23 f25 f27 s.heap.size 3) (cwV 1 hw (bg_V ml_M_89 wi_M_fails wv_M_fails wz_M wc_M_fails) rfl rfl rfl (by decide +kernel) ⟨Nat.le_of_ble_eq_true rfl, Nat.le_of_ble_eq_true rfl⟩) ⟨qP_b, va_recv hK hP (ci := 6) (q0 := 0) rfl rfl, qP_p hP hK hD⟩ rfl rfl hl.1 rfl (lv_room (Nat.le_of_ble_eq_true rfl)) d_M_phase_75 ⟨Nat.le_of_ble_eq_true rfl, Nat.le_of_ble_eq_true rfl⟩) hD hS hA (fun r21 u22 H locs hr21 hP hD hS => ?_)
                obtain ⟨q0, q1⟩ := hr21
                replace q0 := q0.symm; subst q0; replace q1 := q1.symm; subst q1
                have hP : va_P D gC (mX T o a 3 z2 (nI nn) z14 z18 z19 z20 z21 z24 z26 f1 f4 f5 f6 f7 f8 f9 f10 f11 f12 f13 f15 f16 f17 f22 f23 f25 f27) H := hP
                have hD : va_D A (mX T o a 3 z2 (nI nn) z14 z18 z19 z20 z21 z24 z26 f1 f4 f5 f6 f7 f8 f9 f10 f11 f12 f13 f15 f16 f17 f22 f23 f25 f27) := hD
                exact W.iret (v := 0) hx hb hr (fun t ht hW => ⟨⟨0, (3, f9, f10, f11, f12, f13), rfl, (Or.inr (Or.inr ⟨by assumption, hyd, j, hj, rfl, Or.inl ⟨c20, rfl, rfl, rfl, rfl, rfl, rfl, rfl⟩⟩)), by rw [ht]; exact hP, va_K.moved hW.alike hK, hD⟩, hS.F ht⟩) hS.2.2 d_M_phase_78
            · have c19 := b2i_f c19
              refine lv_aload_n hx hb d_M_phase_56 rfl (lv_at hl 0 rfl) ?_
              refine lv_iconst (v := 2) hx hb d_M_phase_57 (by decide) ?_
              refine g_calli (va_runV (As := [.int 2]) (rest := []) ⟨hx, hb, hml, hown, hw⟩ (k_M_fails l D T o a z0 z2 (nI nn) z14 z18 z19 z20 z21 z24 z26 f1 f4 f5 f6 f7 f8 f9 f10 f11 f12 f13 f15 f16 f17 f22 f23 f25 f27 s.heap.size 2) (cwV 1 hw (bg_V ml_M_89 wi_M_fails wv_M_fails wz_M wc_M_fails) rfl rfl rfl (by decide +kernel) ⟨Nat.le_of_ble_eq_true rfl, Nat.le_of_ble_eq_true rfl⟩) ⟨qP_b, va_recv hK hP (ci := 6) (q0 := 0) rfl rfl, qP_p hP hK hD⟩ rfl rfl hl.1 rfl (lv_room (Nat.le_of_ble_eq_true rfl)) d_M_phase_58 ⟨Nat.le_of_ble_eq_true rfl, Nat.le_of_ble_eq_true rfl⟩) hD hS hA (fun r23 u24 H locs hr23 hP hD hS => ?_)
              obtain ⟨q0, q1⟩ := hr23
              replace q0 := q0.symm; subst q0; replace q1 := q1.symm; subst q1
              have hP : va_P D gC (mX T o a 2 z2 (nI nn) z14 z18 z19 z20 z21 z24 z26 f1 f4 f5 f6 f7 f8 f9 f10 f11 f12 f13 f15 f16 f17 f22 f23 f25 f27) H := hP
              have hD : va_D A (mX T o a 2 z2 (nI nn) z14 z18 z19 z20 z21 z24 z26 f1 f4 f5 f6 f7 f8 f9 f10 f11 f12 f13 f15 f16 f17 f22 f23 f25 f27) := hD
              exact W.iret (v := 0) hx hb hr (fun t ht hW => ⟨⟨0, (2, f9, f10, f11, f12, f13), rfl, (Or.inr (Or.inl ⟨by simp [*], by first | (simp [j_yy, *]; done) | (have hq : ¬ x ≤ y := k2_nle (by assumption); simp [j_yy, *]), rfl, rfl, rfl, rfl, rfl, rfl, rfl⟩)), by rw [ht]; exact hP, va_K.moved hW.alike hK, hD⟩, hS.F ht⟩) hS.2.2 d_M_phase_61
    · have c6 := b2i_f c6
      refine lv_aload_n hx hb d_M_phase_18 rfl (lv_at hl 0 rfl) ?_
      refine lv_iconst (v := 1) hx hb d_M_phase_19 (by decide) ?_
      refine g_calli (va_runV (As := [.int 1]) (rest := []) ⟨hx, hb, hml, hown, hw⟩ (k_M_fails l D T o a z0 z2 (nI nn) z14 z18 z19 z20 z21 z24 z26 f1 f4 f5 f6 f7 f8 f9 f10 f11 f12 f13 f15 f16 f17 f22 f23 f25 f27 s.heap.size 1) (cwV 1 hw (bg_V ml_M_89 wi_M_fails wv_M_fails wz_M wc_M_fails) rfl rfl rfl (by decide +kernel) ⟨Nat.le_of_ble_eq_true rfl, Nat.le_of_ble_eq_true rfl⟩) ⟨qP_b, va_recv hK hP (ci := 6) (q0 := 0) rfl rfl, qP_p hP hK hD⟩ rfl rfl hl.1 rfl (lv_room (Nat.le_of_ble_eq_true rfl)) d_M_phase_20 ⟨Nat.le_of_ble_eq_true rfl, Nat.le_of_ble_eq_true rfl⟩) hD hS hA (fun r25 u26 H locs hr25 hP hD hS => ?_)
      obtain ⟨q0, q1⟩ := hr25
      replace q0 := q0.symm; subst q0; replace q1 := q1.symm; subst q1
      have hP : va_P D gC (mX T o a 1 z2 (nI nn) z14 z18 z19 z20 z21 z24 z26 f1 f4 f5 f6 f7 f8 f9 f10 f11 f12 f13 f15 f16 f17 f22 f23 f25 f27) H := hP
      have hD : va_D A (mX T o a 1 z2 (nI nn) z14 z18 z19 z20 z21 z24 z26 f1 f4 f5 f6 f7 f8 f9 f10 f11 f12 f13 f15 f16 f17 f22 f23 f25 f27) := hD
      exact W.iret (v := 0) hx hb hr (fun t ht hW => ⟨⟨0, (1, f9, f10, f11, f12, f13), rfl, (Or.inl ⟨by simp [*], rfl, rfl, rfl, rfl, rfl, rfl, rfl⟩), by rw [ht]; exact hP, va_K.moved hW.alike hK, hD⟩, hS.F ht⟩) hS.2.2 d_M_phase_23

set_option maxHeartbeats 4000000 in
set_option maxRecDepth 100000 in
theorem k_M_end (l : Launch) (D : va_G) (T : gT) (o : Nat) (a : Nat → Nat) (z0 z2 z3 : Int32) (sn : Nat) (z18 z19 z20 z21 z24 z26 : Int32) (f1 f4 f5 f6 f7 f8 f9 f10 f11 f12 f13 f15 f16 f17 f22 f23 f25 f27 : Nat → Int32) (sz : Nat) (ni wh : Int32) (hy0 : sn ≤ 60) : Met l y_M_end (Cond.code y_M_end b_M_end 4 (some .int) :: bg_W) ({ frames := 1, cells := 0, slots := 0, locals := 22 }) (qP D T (mX T o a z0 z2 z3 (nI sn) z18 z19 z20 z21 z24 z26 f1 f4 f5 f6 f7 f8 f9 f10 f11 f12 f13 f15 f16 f17 f22 f23 f25 f27) [.ref o, .int ni, .int wh] sz) (va_Qi (fun (r : Int32) (w0 : Int32) => ((j_ix ni (nI sn) && j_in wh 0 1) = false ∧ r = 0 ∧ w0 = 1) ∨ ((j_ix ni (nI sn) && j_in wh 0 1) = true ∧ ∃ j, j < sn ∧ ni = nI j ∧ ((j_op (f17 j) wh = true ∧ r = 0 ∧ w0 = 2) ∨ (j_op (f17 j) wh = false ∧ r = (if wh = 0 then f15 j else f16 j) ∧ w0 = 0)))) (qB D T (va_A (mX T o a z0 z2 z3 (nI sn) z18 z19 z20 z21 z24 z26 f1 f4 f5 f6 f7 f8 f9 f10 f11 f12 f13 f15 f16 f17 f22 f23 f25 f27) sz) (fun w0 : Int32 => mX T o a w0 z2 z3 (nI sn) z18 z19 z20 z21 z24 z26 f1 f4 f5 f6 f7 f8 f9 f10 f11 f12 f13 f15 f16 f17 f22 f23 f25 f27)) (va_A (mX T o a z0 z2 z3 (nI sn) z18 z19 z20 z21 z24 z26 f1 f4 f5 f6 f7 f8 f9 f10 f11 f12 f13 f15 f16 f17 f22 f23 f25 f27) sz)) 0 0 (va_A (mX T o a z0 z2 z3 (nI sn) z18 z19 z20 z21 z24 z26 f1 f4 f5 f6 f7 f8 f9 f10 f11 f12 f13 f15 f16 f17 f22 f23 f25 f27) sz) := by
  refine Met.ofW (cc := b_M_end) (maxL := 4) (ret := (some .int)) (by decide) rfl ?_
  intro p e s m args below meth c s₁ B hml hv
  obtain ⟨rfl, hsz, hP, hK, hD0⟩ := hv
  have hx := B.exec
  have hb := B.bytes
  have hr := B.returns
  have hw : ∀ w ∈ bg_W, w.before ([.ref o, .int ni, .int wh] : List Value).toArray s = true := fun w h => atoms_spec (ws := (Cond.code y_M_end b_M_end 4 (some .int) :: bg_W)) B.pre w (List.mem_cons_of_mem _ h)
  have hown : s.vm.findClass "TimeWordsModel" = some m.cls := findClass_of_methodNamed B.named
  have hlocks := B.notSynchronized
  subst hsz
  have hD := hD0.self (sz := s.heap.size)
  generalize hAe : va_A (mX T o a z0 z2 z3 (nI sn) z18 z19 z20 z21 z24 z26 f1 f4 f5 f6 f7 f8 f9 f10 f11 f12 f13 f15 f16 f17 f22 f23 f25 f27) s.heap.size = A at hD ⊢
  have hA : ∀ q : Nat, s.heap.size ≤ q → A q := fun q h => by rw [← hAe]; exact Or.inr h
  have hS : va_S A s.heap s.heap [] := va_S.rf
  have hl := lv_entry ([.ref o, .int ni, .int wh]) (n := 4) (Nat.le_of_ble_eq_true rfl)
  rw [lg_entry_eq]
  generalize (lg_sl ([.ref o, .int ni, .int wh]) ++ List.replicate (4 - (lg_sl ([.ref o, .int ni, .int wh])).length) Slot.unset).toArray = ls at hl ⊢
  have hl : lv_has ls 4 [(0, .ref o), (1, .int ni), (2, .int wh)] := hl
  refine lv_aload_n hx hb d_M_end_0 rfl (lv_at hl 0 rfl) ?_
  refine lv_iload_n hx hb d_M_end_1 rfl (lv_at hl 1 rfl) ?_
  refine vp_callSi (va_Run.run (va_runV (As := [.int ni]) (rest := []) ⟨hx, hb, hml, hown, hw⟩ (k_M_isSpan l D T o a z0 z2 z3 (nI sn) z18 z19 z20 z21 z24 z26 f1 f4 f5 f6 f7 f8 f9 f10 f11 f12 f13 f15 f16 f17 f22 f23 f25 f27 ni) (cwV 1 hw (bg_V ml_M_164 wi_M_isSpan wv_M_isSpan wz_M wc_M_isSpan) rfl rfl rfl (by decide +kernel) ⟨Nat.le_of_ble_eq_true rfl, Nat.le_of_ble_eq_true rfl⟩) ⟨sP_b, va_recv hK hP (ci := 6) (q0 := 0) rfl rfl, sP_p hP hK⟩ rfl rfl hl.1 rfl (lv_room (Nat.le_of_ble_eq_true rfl)) d_M_end_2 ⟨Nat.le_of_ble_eq_true rfl, Nat.le_of_ble_eq_true rfl⟩)) (fun r1 hr1 => ?_)
  replace hr1 := hr1.symm; subst hr1
  refine lv_if_eq (tgt := 21) hx hb d_M_end_5 (by decide) (fun c2 => ?_) (fun c2 => ?_)
  · have c2 := b2i_f c2
    refine lv_iconst (v := 0) hx hb d_M_end_21 (by decide) ?_
    refine lv_istore_n (lv' := [(3, .int 0), (0, .ref o), (1, .int ni), (2, .int wh)]) hx hb d_M_end_22 rfl hl (by decide) rfl (fun ls hl => ?_)
    refine lv_aload_n hx hb d_M_end_23 rfl (lv_at hl 1 rfl) ?_
    refine lv_iload_n hx hb d_M_end_24 rfl (lv_at hl 0 rfl) ?_
    refine lv_if_ne (tgt := 32) hx hb d_M_end_25 (by decide) (fun c3 => absurd c3 (by decide)) (fun c3 => ?_)
    refine lv_iconst (v := 1) hx hb d_M_end_28 (by decide) ?_
    refine lv_goto (tgt := 46) hx hb d_M_end_29 (by decide) ?_
    refine va_put (D := D) (ci := 6) (v := .int 1) (ty := .int) (C := "TimeWordsModel") (T := F_M) (N := 28) hx hb hw in_M ty_M ty_M_ok n_M hown hK hP hD hS 0 rfl rfl 0 (by decide) (hw _ fl_M_69) (fun _ h9 => h9) rfl (by decide +kernel) rfl rfl (Nat.le_of_ble_eq_true rfl) d_M_end_46 (fun H locs hP hD hS => ?_)
    have hP : va_P D gC (mX T o a 1 z2 z3 (nI sn) z18 z19 z20 z21 z24 z26 f1 f4 f5 f6 f7 f8 f9 f10 f11 f12 f13 f15 f16 f17 f22 f23 f25 f27) H := hP
    have hD : va_D A (mX T o a 1 z2 z3 (nI sn) z18 z19 z20 z21 z24 z26 f1 f4 f5 f6 f7 f8 f9 f10 f11 f12 f13 f15 f16 f17 f22 f23 f25 f27) := hD
    refine lv_aload_n hx hb d_M_end_49 rfl (lv_at hl 1 rfl) ?_
    refine va_get (D := D) (ci := 6) (v := .int 1) (C := "TimeWordsModel") (T := F_M) (N := 28) hx hb hw in_M hown hK hP 0 rfl rfl 0 (by decide) (hw _ fl_M_69) (fun _ h9 => h9) rfl d_M_end_50 ?_
    refine lv_if_le (tgt := 60) hx hb d_M_end_53 (by decide) (fun c4 => absurd c4 (by decide)) (fun c4 => ?_)
    refine lv_iconst (v := 0) hx hb d_M_end_56 (by decide) ?_
    refine lv_goto (tgt := 79) hx hb d_M_end_57 (by decide) ?_
    exact W.iret (v := 0) hx hb hr (fun t ht hW => ⟨⟨0, 1, rfl, (Or.inl ⟨by simp [*], rfl, rfl⟩), by rw [ht]; exact hP, va_K.moved hW.alike hK, hD⟩, hS.F ht⟩) hS.2.2 d_M_end_79
  · have c2 := b2i_t c2
    have hix := c2
    obtain ⟨j, hj, rfl⟩ := ix_of c2 (by omega)
    refine lv_iload_n hx hb d_M_end_8 rfl (lv_at hl 2 rfl) ?_
    refine lv_iconst (v := 0) hx hb d_M_end_9 (by decide) ?_
    refine lv_iconst (v := 1) hx hb d_M_end_10 (by decide) ?_
    refine vp_callSi (va_Run.run (va_runS (As := [.int wh, .int 0, .int 1]) (rest := []) ⟨hx, hb, hml, hown, hw⟩ (k_M_in l wh 0 1) (va_cwS 3 hw (bg_S ml_M_72 wt_M_in wz_M wc_M_in) rfl rfl rfl (by decide +kernel) ⟨Nat.le_of_ble_eq_true rfl, Nat.le_of_ble_eq_true rfl⟩) ⟨nP_b, nP_p⟩ rfl rfl hl.1 rfl (lv_room (Nat.le_of_ble_eq_true rfl)) d_M_end_11 ⟨Nat.le_of_ble_eq_true rfl, Nat.le_of_ble_eq_true rfl⟩)) (fun r5 hr5 => ?_)
    replace hr5 := hr5.symm; subst hr5
    refine lv_if_eq (tgt := 21) hx hb d_M_end_14 (by decide) (fun c6 => ?_) (fun c6 => ?_)
    · have c6 := b2i_f c6
      refine lv_iconst (v := 0) hx hb d_M_end_21 (by decide) ?_
      refine lv_istore_n (lv' := [(3, .int 0), (0, .ref o), (1, .int (nI j)), (2, .int wh)]) hx hb d_M_end_22 rfl hl (by decide) rfl (fun ls hl => ?_)
      refine lv_aload_n hx hb d_M_end_23 rfl (lv_at hl 1 rfl) ?_
      refine lv_iload_n hx hb d_M_end_24 rfl (lv_at hl 0 rfl) ?_
      refine lv_if_ne (tgt := 32) hx hb d_M_end_25 (by decide) (fun c7 => absurd c7 (by decide)) (fun c7 => ?_)
      refine lv_iconst (v := 1) hx hb d_M_end_28 (by decide) ?_
      refine lv_goto (tgt := 46) hx hb d_M_end_29 (by decide) ?_
      refine va_put (D := D) (ci := 6) (v := .int 1) (ty := .int) (C := "TimeWordsModel") (T := F_M) (N := 28) hx hb hw in_M ty_M ty_M_ok n_M hown hK hP hD hS 0 rfl rfl 0 (by decide) (hw _ fl_M_69) (fun _ h9 => h9) rfl (by decide +kernel) rfl rfl (Nat.le_of_ble_eq_true rfl) d_M_end_46 (fun H locs hP hD hS => ?_)
      have hP : va_P D gC (mX T o a 1 z2 z3 (nI sn) z18 z19 z20 z21 z24 z26 f1 f4 f5 f6 f7 f8 f9 f10 f11 f12 f13 f15 f16 f17 f22 f23 f25 f27) H := hP
      have hD : va_D A (mX T o a 1 z2 z3 (nI sn) z18 z19 z20 z21 z24 z26 f1 f4 f5 f6 f7 f8 f9 f10 f11 f12 f13 f15 f16 f17 f22 f23 f25 f27) := hD
      refine lv_aload_n hx hb d_M_end_49 rfl (lv_at hl 1 rfl) ?_
      refine va_get (D := D) (ci := 6) (v := .int 1) (C := "TimeWordsModel") (T := F_M) (N := 28) hx hb hw in_M hown hK hP 0 rfl rfl 0 (by decide) (hw _ fl_M_69) (fun _ h9 => h9) rfl d_M_end_50 ?_
      refine lv_if_le (tgt := 60) hx hb d_M_end_53 (by decide) (fun c8 => absurd c8 (by decide)) (fun c8 => ?_)
      refine lv_iconst (v := 0) hx hb d_M_end_56 (by decide) ?_
      refine lv_goto (tgt := 79) hx hb d_M_end_57 (by decide) ?_
      exact W.iret (v := 0) hx hb hr (fun t ht hW => ⟨⟨0, 1, rfl, (Or.inl ⟨by simp [*], rfl, rfl⟩), by rw [ht]; exact hP, va_K.moved hW.alike hK, hD⟩, hS.F ht⟩) hS.2.2 d_M_end_79
    · have c6 := b2i_t c6
      have hin9 := c6
      refine lv_iconst (v := 1) hx hb d_M_end_17 (by decide) ?_
      refine lv_goto (tgt := 22) hx hb d_M_end_18 (by decide) ?_
      refine lv_istore_n (lv' := [(3, .int 1), (0, .ref o), (1, .int (nI j)), (2, .int wh)]) hx hb d_M_end_22 rfl hl (by decide) rfl (fun ls hl => ?_)
      refine lv_aload_n hx hb d_M_end_23 rfl (lv_at hl 1 rfl) ?_
      refine lv_iload_n hx hb d_M_end_24 rfl (lv_at hl 0 rfl) ?_
      refine lv_if_ne (tgt := 32) hx hb d_M_end_25 (by decide) (fun c9 => ?_) (fun c9 => absurd c9 (by decide))
      refine lv_aload_n hx hb d_M_end_32 rfl (lv_at hl 1 rfl) ?_
      refine lv_iload_n hx hb d_M_end_33 rfl (lv_at hl 2 rfl) ?_
      refine lv_iload_n hx hb d_M_end_34 rfl (lv_at hl 3 rfl) ?_
      refine vp_callSi (va_Run.run (va_runV (As := [.int (nI j), .int wh]) (rest := [.ref o]) ⟨hx, hb, hml, hown, hw⟩ (k_M_isOpen l D T o a z0 z2 z3 (nI sn) z18 z19 z20 z21 z24 z26 f1 f4 f5 f6 f7 f8 f9 f10 f11 f12 f13 f15 f16 f17 f22 f23 f25 f27 j wh (by omega)) (cwV 2 hw (bg_V ml_M_167 wi_M_isOpen wv_M_isOpen wz_M wc_M_isOpen) rfl rfl rfl (by decide +kernel) ⟨Nat.le_of_ble_eq_true rfl, Nat.le_of_ble_eq_true rfl⟩) ⟨sP_b, va_recv hK hP (ci := 6) (q0 := 0) rfl rfl, sP_p hP hK⟩ rfl rfl hl.1 rfl (lv_room (Nat.le_of_ble_eq_true rfl)) d_M_end_35 ⟨Nat.le_of_ble_eq_true rfl, Nat.le_of_ble_eq_true rfl⟩)) (fun r10 hr10 => ?_)
      replace hr10 := hr10.symm; subst hr10
      refine lv_if_eq (tgt := 45) hx hb d_M_end_38 (by decide) (fun c11 => ?_) (fun c11 => ?_)
      · have c11 := b2i_f c11
        refine lv_iconst (v := 0) hx hb d_M_end_45 (by decide) ?_
        refine va_put (D := D) (ci := 6) (v := .int 0) (ty := .int) (C := "TimeWordsModel") (T := F_M) (N := 28) hx hb hw in_M ty_M ty_M_ok n_M hown hK hP hD hS 0 rfl rfl 0 (by decide) (hw _ fl_M_69) (fun _ h9 => h9) rfl (by decide +kernel) rfl rfl (Nat.le_of_ble_eq_true rfl) d_M_end_46 (fun H locs hP hD hS => ?_)
        have hP : va_P D gC (mX T o a 0 z2 z3 (nI sn) z18 z19 z20 z21 z24 z26 f1 f4 f5 f6 f7 f8 f9 f10 f11 f12 f13 f15 f16 f17 f22 f23 f25 f27) H := hP
        have hD : va_D A (mX T o a 0 z2 z3 (nI sn) z18 z19 z20 z21 z24 z26 f1 f4 f5 f6 f7 f8 f9 f10 f11 f12 f13 f15 f16 f17 f22 f23 f25 f27) := hD
        refine lv_aload_n hx hb d_M_end_49 rfl (lv_at hl 1 rfl) ?_
        refine va_get (D := D) (ci := 6) (v := .int 0) (C := "TimeWordsModel") (T := F_M) (N := 28) hx hb hw in_M hown hK hP 0 rfl rfl 0 (by decide) (hw _ fl_M_69) (fun _ h9 => h9) rfl d_M_end_50 ?_
        refine lv_if_le (tgt := 60) hx hb d_M_end_53 (by decide) (fun c12 => ?_) (fun c12 => absurd c12 (by decide))
        refine lv_iload_n hx hb d_M_end_60 rfl (lv_at hl 3 rfl) ?_
        refine lv_if_ne (tgt := 73) hx hb d_M_end_61 (by decide) (fun c13 => ?_) (fun c13 => ?_)
        · refine lv_aload_n hx hb d_M_end_73 rfl (lv_at hl 1 rfl) ?_
          refine va_get (D := D) (ci := 6) (v := .ref (a 16)) (C := "TimeWordsModel") (T := F_M) (N := 28) hx hb hw in_M hown hK hP 0 rfl rfl 16 (by decide) (hw _ fl_M_47) (fun _ h9 => h9) rfl d_M_end_74 ?_
          refine lv_iload_n hx hb d_M_end_77 rfl (lv_at hl 2 rfl) ?_
          refine va_iald hx hb hK hP 13 0 rfl rfl (by first | assumption | exact vp_in_nI (by omega) (by omega)) d_M_end_78 ?_
          rw [show (nI j).toNatClampNeg = j from nI_clamp (by omega)]
          exact W.iret (v := f16 j) hx hb hr (fun t ht hW => ⟨⟨f16 j, 0, rfl, (Or.inr ⟨by rw [hix, hin9]; rfl, j, hj, rfl, Or.inr ⟨by assumption, (by simp only [c2, c6, c11, if_neg c13, decide_eq_false c13]), rfl⟩⟩), by rw [ht]; exact hP, va_K.moved hW.alike hK, hD⟩, hS.F ht⟩) hS.2.2 d_M_end_79
        · refine lv_aload_n hx hb d_M_end_64 rfl (lv_at hl 1 rfl) ?_
          refine va_get (D := D) (ci := 6) (v := .ref (a 15)) (C := "TimeWordsModel") (T := F_M) (N := 28) hx hb hw in_M hown hK hP 0 rfl rfl 15 (by decide) (hw _ fl_M_44) (fun _ h9 => h9) rfl d_M_end_65 ?_
          refine lv_iload_n hx hb d_M_end_68 rfl (lv_at hl 2 rfl) ?_
          refine va_iald hx hb hK hP 12 0 rfl rfl (by first | assumption | exact vp_in_nI (by omega) (by omega)) d_M_end_69 ?_
          rw [show (nI j).toNatClampNeg = j from nI_clamp (by omega)]
          refine lv_goto (tgt := 79) hx hb d_M_end_70 (by decide) ?_
          exact W.iret (v := f15 j) hx hb hr (fun t ht hW => ⟨⟨f15 j, 0, rfl, (Or.inr ⟨by rw [hix, hin9]; rfl, j, hj, rfl, Or.inr ⟨by assumption, (by simp only [c2, c6, c11, if_pos c13, decide_eq_true c13]), rfl⟩⟩), by rw [ht]; exact hP, va_K.moved hW.alike hK, hD⟩, hS.F ht⟩) hS.2.2 d_M_end_79
      · have c11 := b2i_t c11
        refine lv_iconst (v := 2) hx hb d_M_end_41 (by decide) ?_
        refine lv_goto (tgt := 46) hx hb d_M_end_42 (by decide) ?_
        refine va_put (D := D) (ci := 6) (v := .int 2) (ty := .int) (C := "TimeWordsModel") (T := F_M) (N := 28) hx hb hw in_M ty_M ty_M_ok n_M hown hK hP hD hS 0 rfl rfl 0 (by decide) (hw _ fl_M_69) (fun _ h9 => h9) rfl (by decide +kernel) rfl rfl (Nat.le_of_ble_eq_true rfl) d_M_end_46 (fun H locs hP hD hS => ?_)
        have hP : va_P D gC (mX T o a 2 z2 z3 (nI sn) z18 z19 z20 z21 z24 z26 f1 f4 f5 f6 f7 f8 f9 f10 f11 f12 f13 f15 f16 f17 f22 f23 f25 f27) H := hP
        have hD : va_D A (mX T o a 2 z2 z3 (nI sn) z18 z19 z20 z21 z24 z26 f1 f4 f5 f6 f7 f8 f9 f10 f11 f12 f13 f15 f16 f17 f22 f23 f25 f27) := hD
        refine lv_aload_n hx hb d_M_end_49 rfl (lv_at hl 1 rfl) ?_
        refine va_get (D := D) (ci := 6) (v := .int 2) (C := "TimeWordsModel") (T := F_M) (N := 28) hx hb hw in_M hown hK hP 0 rfl rfl 0 (by decide) (hw _ fl_M_69) (fun _ h9 => h9) rfl d_M_end_50 ?_
        refine lv_if_le (tgt := 60) hx hb d_M_end_53 (by decide) (fun c14 => absurd c14 (by decide)) (fun c14 => ?_)
        refine lv_iconst (v := 0) hx hb d_M_end_56 (by decide) ?_
        refine lv_goto (tgt := 79) hx hb d_M_end_57 (by decide) ?_
        exact W.iret (v := 0) hx hb hr (fun t ht hW => ⟨⟨0, 2, rfl, (Or.inr ⟨by rw [hix, hin9]; rfl, j, hj, rfl, Or.inl ⟨by assumption, rfl, rfl⟩⟩), by rw [ht]; exact hP, va_K.moved hW.alike hK, hD⟩, hS.F ht⟩) hS.2.2 d_M_end_79

set_option maxHeartbeats 4000000 in
set_option maxRecDepth 100000 in
theorem k_M_open (l : Launch) (D : va_G) (T : gT) (o : Nat) (a : Nat → Nat) (z0 z2 z3 : Int32) (sn : Nat) (z18 z19 z20 z21 z24 z26 : Int32) (f1 f4 f5 f6 f7 f8 f9 f10 f11 f12 f13 f15 f16 f17 f22 f23 f25 f27 : Nat → Int32) (sz : Nat) (ni wh : Int32) (hy0 : sn ≤ 60) : Met l y_M_open (Cond.code y_M_open b_M_open 3 (some .boolean) :: bg_W) ({ frames := 1, cells := 0, slots := 0, locals := 22 }) (qP D T (mX T o a z0 z2 z3 (nI sn) z18 z19 z20 z21 z24 z26 f1 f4 f5 f6 f7 f8 f9 f10 f11 f12 f13 f15 f16 f17 f22 f23 f25 f27) [.ref o, .int ni, .int wh] sz) (va_Qi (fun (r : Int32) (w0 : Int32) => ((j_ix ni (nI sn) && j_in wh 0 1) = false ∧ r = 0 ∧ w0 = 1) ∨ ((j_ix ni (nI sn) && j_in wh 0 1) = true ∧ ∃ j, j < sn ∧ ni = nI j ∧ r = b2i (j_op (f17 j) wh) ∧ w0 = 0)) (qB D T (va_A (mX T o a z0 z2 z3 (nI sn) z18 z19 z20 z21 z24 z26 f1 f4 f5 f6 f7 f8 f9 f10 f11 f12 f13 f15 f16 f17 f22 f23 f25 f27) sz) (fun w0 : Int32 => mX T o a w0 z2 z3 (nI sn) z18 z19 z20 z21 z24 z26 f1 f4 f5 f6 f7 f8 f9 f10 f11 f12 f13 f15 f16 f17 f22 f23 f25 f27)) (va_A (mX T o a z0 z2 z3 (nI sn) z18 z19 z20 z21 z24 z26 f1 f4 f5 f6 f7 f8 f9 f10 f11 f12 f13 f15 f16 f17 f22 f23 f25 f27) sz)) 0 0 (va_A (mX T o a z0 z2 z3 (nI sn) z18 z19 z20 z21 z24 z26 f1 f4 f5 f6 f7 f8 f9 f10 f11 f12 f13 f15 f16 f17 f22 f23 f25 f27) sz) := by
  refine Met.ofW (cc := b_M_open) (maxL := 3) (ret := (some .boolean)) (by decide) rfl ?_
  intro p e s m args below meth c s₁ B hml hv
  obtain ⟨rfl, hsz, hP, hK, hD0⟩ := hv
  have hx := B.exec
  have hb := B.bytes
  have hr := B.returns
  have hw : ∀ w ∈ bg_W, w.before ([.ref o, .int ni, .int wh] : List Value).toArray s = true := fun w h => atoms_spec (ws := (Cond.code y_M_open b_M_open 3 (some .boolean) :: bg_W)) B.pre w (List.mem_cons_of_mem _ h)
  have hown : s.vm.findClass "TimeWordsModel" = some m.cls := findClass_of_methodNamed B.named
  have hlocks := B.notSynchronized
  subst hsz
  have hD := hD0.self (sz := s.heap.size)
  generalize hAe : va_A (mX T o a z0 z2 z3 (nI sn) z18 z19 z20 z21 z24 z26 f1 f4 f5 f6 f7 f8 f9 f10 f11 f12 f13 f15 f16 f17 f22 f23 f25 f27) s.heap.size = A at hD ⊢
  have hA : ∀ q : Nat, s.heap.size ≤ q → A q := fun q h => by rw [← hAe]; exact Or.inr h
  have hS : va_S A s.heap s.heap [] := va_S.rf
  have hl := lv_entry ([.ref o, .int ni, .int wh]) (n := 3) (Nat.le_of_ble_eq_true rfl)
  rw [lg_entry_eq]
  generalize (lg_sl ([.ref o, .int ni, .int wh]) ++ List.replicate (3 - (lg_sl ([.ref o, .int ni, .int wh])).length) Slot.unset).toArray = ls at hl ⊢
  have hl : lv_has ls 3 [(0, .ref o), (1, .int ni), (2, .int wh)] := hl
  refine lv_aload_n hx hb d_M_open_0 rfl (lv_at hl 0 rfl) ?_
  refine lv_aload_n hx hb d_M_open_1 rfl (lv_at hl 0 rfl) ?_
  refine lv_iload_n hx hb d_M_open_2 rfl (lv_at hl 1 rfl) ?_
  refine vp_callSi (va_Run.run (va_runV (As := [.int ni]) (rest := [.ref o]) ⟨hx, hb, hml, hown, hw⟩ (k_M_isSpan l D T o a z0 z2 z3 (nI sn) z18 z19 z20 z21 z24 z26 f1 f4 f5 f6 f7 f8 f9 f10 f11 f12 f13 f15 f16 f17 f22 f23 f25 f27 ni) (cwV 1 hw (bg_V ml_M_164 wi_M_isSpan wv_M_isSpan wz_M wc_M_isSpan) rfl rfl rfl (by decide +kernel) ⟨Nat.le_of_ble_eq_true rfl, Nat.le_of_ble_eq_true rfl⟩) ⟨sP_b, va_recv hK hP (ci := 6) (q0 := 0) rfl rfl, sP_p hP hK⟩ rfl rfl hl.1 rfl (lv_room (Nat.le_of_ble_eq_true rfl)) d_M_open_3 ⟨Nat.le_of_ble_eq_true rfl, Nat.le_of_ble_eq_true rfl⟩)) (fun r1 hr1 => ?_)
  replace hr1 := hr1.symm; subst hr1
  refine lv_if_eq (tgt := 22) hx hb d_M_open_6 (by decide) (fun c2 => ?_) (fun c2 => ?_)
  · have c2 := b2i_f c2
    refine lv_iconst (v := 1) hx hb d_M_open_22 (by decide) ?_
    refine va_put (D := D) (ci := 6) (v := .int 1) (ty := .int) (C := "TimeWordsModel") (T := F_M) (N := 28) hx hb hw in_M ty_M ty_M_ok n_M hown hK hP hD hS 0 rfl rfl 0 (by decide) (hw _ fl_M_69) (fun _ h9 => h9) rfl (by decide +kernel) rfl rfl (Nat.le_of_ble_eq_true rfl) d_M_open_23 (fun H locs hP hD hS => ?_)
    have hP : va_P D gC (mX T o a 1 z2 z3 (nI sn) z18 z19 z20 z21 z24 z26 f1 f4 f5 f6 f7 f8 f9 f10 f11 f12 f13 f15 f16 f17 f22 f23 f25 f27) H := hP
    have hD : va_D A (mX T o a 1 z2 z3 (nI sn) z18 z19 z20 z21 z24 z26 f1 f4 f5 f6 f7 f8 f9 f10 f11 f12 f13 f15 f16 f17 f22 f23 f25 f27) := hD
    refine lv_aload_n hx hb d_M_open_26 rfl (lv_at hl 0 rfl) ?_
    refine va_get (D := D) (ci := 6) (v := .int 1) (C := "TimeWordsModel") (T := F_M) (N := 28) hx hb hw in_M hown hK hP 0 rfl rfl 0 (by decide) (hw _ fl_M_69) (fun _ h9 => h9) rfl d_M_open_27 ?_
    refine lv_if_ne (tgt := 46) hx hb d_M_open_30 (by decide) (fun c3 => ?_) (fun c3 => absurd c3 (by decide))
    refine lv_iconst (v := 0) hx hb d_M_open_46 (by decide) ?_
    exact W.zret (v := 0) hx hb hr rfl (fun t ht hW => ⟨⟨0, 1, rfl, (Or.inl ⟨by simp [*], rfl, rfl⟩), by rw [ht]; exact hP, va_K.moved hW.alike hK, hD⟩, hS.F ht⟩) hS.2.2 d_M_open_47
  · have c2 := b2i_t c2
    have hix := c2
    obtain ⟨j, hj, rfl⟩ := ix_of c2 (by omega)
    refine lv_iload_n hx hb d_M_open_9 rfl (lv_at hl 2 rfl) ?_
    refine lv_iconst (v := 0) hx hb d_M_open_10 (by decide) ?_
    refine lv_iconst (v := 1) hx hb d_M_open_11 (by decide) ?_
    refine vp_callSi (va_Run.run (va_runS (As := [.int wh, .int 0, .int 1]) (rest := [.ref o]) ⟨hx, hb, hml, hown, hw⟩ (k_M_in l wh 0 1) (va_cwS 3 hw (bg_S ml_M_72 wt_M_in wz_M wc_M_in) rfl rfl rfl (by decide +kernel) ⟨Nat.le_of_ble_eq_true rfl, Nat.le_of_ble_eq_true rfl⟩) ⟨nP_b, nP_p⟩ rfl rfl hl.1 rfl (lv_room (Nat.le_of_ble_eq_true rfl)) d_M_open_12 ⟨Nat.le_of_ble_eq_true rfl, Nat.le_of_ble_eq_true rfl⟩)) (fun r4 hr4 => ?_)
    replace hr4 := hr4.symm; subst hr4
    refine lv_if_eq (tgt := 22) hx hb d_M_open_15 (by decide) (fun c5 => ?_) (fun c5 => ?_)
    · have c5 := b2i_f c5
      refine lv_iconst (v := 1) hx hb d_M_open_22 (by decide) ?_
      refine va_put (D := D) (ci := 6) (v := .int 1) (ty := .int) (C := "TimeWordsModel") (T := F_M) (N := 28) hx hb hw in_M ty_M ty_M_ok n_M hown hK hP hD hS 0 rfl rfl 0 (by decide) (hw _ fl_M_69) (fun _ h9 => h9) rfl (by decide +kernel) rfl rfl (Nat.le_of_ble_eq_true rfl) d_M_open_23 (fun H locs hP hD hS => ?_)
      have hP : va_P D gC (mX T o a 1 z2 z3 (nI sn) z18 z19 z20 z21 z24 z26 f1 f4 f5 f6 f7 f8 f9 f10 f11 f12 f13 f15 f16 f17 f22 f23 f25 f27) H := hP
      have hD : va_D A (mX T o a 1 z2 z3 (nI sn) z18 z19 z20 z21 z24 z26 f1 f4 f5 f6 f7 f8 f9 f10 f11 f12 f13 f15 f16 f17 f22 f23 f25 f27) := hD
      refine lv_aload_n hx hb d_M_open_26 rfl (lv_at hl 0 rfl) ?_
      refine va_get (D := D) (ci := 6) (v := .int 1) (C := "TimeWordsModel") (T := F_M) (N := 28) hx hb hw in_M hown hK hP 0 rfl rfl 0 (by decide) (hw _ fl_M_69) (fun _ h9 => h9) rfl d_M_open_27 ?_
      refine lv_if_ne (tgt := 46) hx hb d_M_open_30 (by decide) (fun c6 => ?_) (fun c6 => absurd c6 (by decide))
      refine lv_iconst (v := 0) hx hb d_M_open_46 (by decide) ?_
      exact W.zret (v := 0) hx hb hr rfl (fun t ht hW => ⟨⟨0, 1, rfl, (Or.inl ⟨by simp [*], rfl, rfl⟩), by rw [ht]; exact hP, va_K.moved hW.alike hK, hD⟩, hS.F ht⟩) hS.2.2 d_M_open_47
    · have c5 := b2i_t c5
      refine lv_iconst (v := 0) hx hb d_M_open_18 (by decide) ?_
      refine lv_goto (tgt := 23) hx hb d_M_open_19 (by decide) ?_
      refine va_put (D := D) (ci := 6) (v := .int 0) (ty := .int) (C := "TimeWordsModel") (T := F_M) (N := 28) hx hb hw in_M ty_M ty_M_ok n_M hown hK hP hD hS 0 rfl rfl 0 (by decide) (hw _ fl_M_69) (fun _ h9 => h9) rfl (by decide +kernel) rfl rfl (Nat.le_of_ble_eq_true rfl) d_M_open_23 (fun H locs hP hD hS => ?_)
      have hP : va_P D gC (mX T o a 0 z2 z3 (nI sn) z18 z19 z20 z21 z24 z26 f1 f4 f5 f6 f7 f8 f9 f10 f11 f12 f13 f15 f16 f17 f22 f23 f25 f27) H := hP
      have hD : va_D A (mX T o a 0 z2 z3 (nI sn) z18 z19 z20 z21 z24 z26 f1 f4 f5 f6 f7 f8 f9 f10 f11 f12 f13 f15 f16 f17 f22 f23 f25 f27) := hD
      refine lv_aload_n hx hb d_M_open_26 rfl (lv_at hl 0 rfl) ?_
      refine va_get (D := D) (ci := 6) (v := .int 0) (C := "TimeWordsModel") (T := F_M) (N := 28) hx hb hw in_M hown hK hP 0 rfl rfl 0 (by decide) (hw _ fl_M_69) (fun _ h9 => h9) rfl d_M_open_27 ?_
      refine lv_if_ne (tgt := 46) hx hb d_M_open_30 (by decide) (fun c7 => absurd c7 (by decide)) (fun c7 => ?_)
      refine lv_aload_n hx hb d_M_open_33 rfl (lv_at hl 0 rfl) ?_
      refine lv_iload_n hx hb d_M_open_34 rfl (lv_at hl 1 rfl) ?_
      refine lv_iload_n hx hb d_M_open_35 rfl (lv_at hl 2 rfl) ?_
      refine vp_callSi (va_Run.run (va_runV (As := [.int (nI j), .int wh]) (rest := []) ⟨hx, hb, hml, hown, hw⟩ (k_M_isOpen l D T o a 0 z2 z3 (nI sn) z18 z19 z20 z21 z24 z26 f1 f4 f5 f6 f7 f8 f9 f10 f11 f12 f13 f15 f16 f17 f22 f23 f25 f27 j wh (by omega)) (cwV 2 hw (bg_V ml_M_167 wi_M_isOpen wv_M_isOpen wz_M wc_M_isOpen) rfl rfl rfl (by decide +kernel) ⟨Nat.le_of_ble_eq_true rfl, Nat.le_of_ble_eq_true rfl⟩) ⟨sP_b, va_recv hK hP (ci := 6) (q0 := 0) rfl rfl, sP_p hP hK⟩ rfl rfl hl.1 rfl (lv_room (Nat.le_of_ble_eq_true rfl)) d_M_open_36 ⟨Nat.le_of_ble_eq_true rfl, Nat.le_of_ble_eq_true rfl⟩)) (fun r8 hr8 => ?_)
      replace hr8 := hr8.symm; subst hr8
      refine lv_if_eq (tgt := 46) hx hb d_M_open_39 (by decide) (fun c9 => ?_) (fun c9 => ?_)
      · have c9 := b2i_f c9
        refine lv_iconst (v := 0) hx hb d_M_open_46 (by decide) ?_
        exact W.zret (v := 0) hx hb hr rfl (fun t ht hW => ⟨⟨0, 0, rfl, (Or.inr ⟨by simp [*], j, hj, rfl, by simp [b2i, *], rfl⟩), by rw [ht]; exact hP, va_K.moved hW.alike hK, hD⟩, hS.F ht⟩) hS.2.2 d_M_open_47
      · have c9 := b2i_t c9
        refine lv_iconst (v := 1) hx hb d_M_open_42 (by decide) ?_
        refine lv_goto (tgt := 47) hx hb d_M_open_43 (by decide) ?_
        exact W.zret (v := 1) hx hb hr rfl (fun t ht hW => ⟨⟨1, 0, rfl, (Or.inr ⟨by simp [*], j, hj, rfl, by simp [b2i, *], rfl⟩), by rw [ht]; exact hP, va_K.moved hW.alike hK, hD⟩, hS.F ht⟩) hS.2.2 d_M_open_47

set_option maxHeartbeats 4000000 in
set_option maxRecDepth 100000 in
theorem k_M_join (l : Launch) (D : va_G) (T : gT) (o : Nat) (a : Nat → Nat) (z0 z2 z3 : Int32) (sn : Nat) (z18 z19 z20 z21 z24 z26 : Int32) (f1 f4 f5 f6 f7 f8 f9 f10 f11 f12 f13 f15 f16 f17 f22 f23 f25 f27 : Nat → Int32) (sz : Nat) (na nb : Int32) (hy0 : sn ≤ 60) : Met l y_M_join (Cond.code y_M_join b_M_join 3 (some .int) :: bg_W) ({ frames := 1, cells := 0, slots := 0, locals := 21 }) (qP D T (mX T o a z0 z2 z3 (nI sn) z18 z19 z20 z21 z24 z26 f1 f4 f5 f6 f7 f8 f9 f10 f11 f12 f13 f15 f16 f17 f22 f23 f25 f27) [.ref o, .int na, .int nb] sz) (va_Qi (fun (r : Int32) (u : Int32 × Int32 × Int32 × Int32 × (Nat → Int32) × (Nat → Int32) × (Nat → Int32) × Int32) => match u with | (w0, w19, w20, w21, g15, g16, g17, w14) => ((j_ix na (nI sn) && j_ix nb (nI sn)) = false ∧ r = 0 ∧ w0 = 1 ∧ w19 = z19 ∧ w20 = z20 ∧ w21 = z21 ∧ g15 = f15 ∧ g16 = f16 ∧ g17 = f17 ∧ w14 = nI sn) ∨ ((j_ix na (nI sn) && j_ix nb (nI sn)) = true ∧ ∃ i, i < sn ∧ na = nI i ∧ ∃ j, j < sn ∧ nb = nI j ∧ ((sn = 60 ∧ r = 0 ∧ w0 = 2 ∧ w19 = z19 ∧ w20 = z20 ∧ w21 = z21 ∧ g15 = f15 ∧ g16 = f16 ∧ g17 = f17 ∧ w14 = nI sn) ∨ (sn < 60 ∧ r = nI sn ∧ w0 = 0 ∧ w19 = (if f15 j ≤ f15 i then f15 j else f15 i) ∧ w20 = (if f16 i ≤ f16 j then f16 j else f16 i) ∧ w21 = f17 i ||| f17 j ∧ g15 = upd f15 sn w19 ∧ g16 = upd f16 sn w20 ∧ g17 = upd f17 sn w21 ∧ w14 = nI (sn + 1))))) (qB D T (va_A (mX T o a z0 z2 z3 (nI sn) z18 z19 z20 z21 z24 z26 f1 f4 f5 f6 f7 f8 f9 f10 f11 f12 f13 f15 f16 f17 f22 f23 f25 f27) sz) (fun u : Int32 × Int32 × Int32 × Int32 × (Nat → Int32) × (Nat → Int32) × (Nat → Int32) × Int32 => match u with | (w0, w19, w20, w21, g15, g16, g17, w14) => mX T o a w0 z2 z3 w14 z18 w19 w20 w21 z24 z26 f1 f4 f5 f6 f7 f8 f9 f10 f11 f12 f13 g15 g16 g17 f22 f23 f25 f27)) (va_A (mX T o a z0 z2 z3 (nI sn) z18 z19 z20 z21 z24 z26 f1 f4 f5 f6 f7 f8 f9 f10 f11 f12 f13 f15 f16 f17 f22 f23 f25 f27) sz)) 0 0 (va_A (mX T o a z0 z2 z3 (nI sn) z18 z19 z20 z21 z24 z26 f1 f4 f5 f6 f7 f8 f9 f10 f11 f12 f13 f15 f16 f17 f22 f23 f25 f27) sz) := by
  refine Met.ofW (cc := b_M_join) (maxL := 3) (ret := (some .int)) (by decide) rfl ?_
  intro p e s m args below meth c s₁ B hml hv
  obtain ⟨rfl, hsz, hP, hK, hD0⟩ := hv
  have hx := B.exec
  have hb := B.bytes
  have hr := B.returns
  have hw : ∀ w ∈ bg_W, w.before ([.ref o, .int na, .int nb] : List Value).toArray s = true := fun w h => atoms_spec (ws := (Cond.code y_M_join b_M_join 3 (some .int) :: bg_W)) B.pre w (List.mem_cons_of_mem _ h)
  have hown : s.vm.findClass "TimeWordsModel" = some m.cls := findClass_of_methodNamed B.named
  have hlocks := B.notSynchronized
  subst hsz
  have hD := hD0.self (sz := s.heap.size)
  generalize hAe : va_A (mX T o a z0 z2 z3 (nI sn) z18 z19 z20 z21 z24 z26 f1 f4 f5 f6 f7 f8 f9 f10 f11 f12 f13 f15 f16 f17 f22 f23 f25 f27) s.heap.size = A at hD ⊢
  have hA : ∀ q : Nat, s.heap.size ≤ q → A q := fun q h => by rw [← hAe]; exact Or.inr h
  have hS : va_S A s.heap s.heap [] := va_S.rf
  have hl := lv_entry ([.ref o, .int na, .int nb]) (n := 3) (Nat.le_of_ble_eq_true rfl)
  rw [lg_entry_eq]
  generalize (lg_sl ([.ref o, .int na, .int nb]) ++ List.replicate (3 - (lg_sl ([.ref o, .int na, .int nb])).length) Slot.unset).toArray = ls at hl ⊢
  have hl : lv_has ls 3 [(0, .ref o), (1, .int na), (2, .int nb)] := hl
  refine lv_aload_n hx hb d_M_join_0 rfl (lv_at hl 0 rfl) ?_
  refine lv_iload_n hx hb d_M_join_1 rfl (lv_at hl 1 rfl) ?_
  refine vp_callSi (va_Run.run (va_runV (As := [.int na]) (rest := []) ⟨hx, hb, hml, hown, hw⟩ (k_M_isSpan l D T o a z0 z2 z3 (nI sn) z18 z19 z20 z21 z24 z26 f1 f4 f5 f6 f7 f8 f9 f10 f11 f12 f13 f15 f16 f17 f22 f23 f25 f27 na) (cwV 1 hw (bg_V ml_M_164 wi_M_isSpan wv_M_isSpan wz_M wc_M_isSpan) rfl rfl rfl (by decide +kernel) ⟨Nat.le_of_ble_eq_true rfl, Nat.le_of_ble_eq_true rfl⟩) ⟨sP_b, va_recv hK hP (ci := 6) (q0 := 0) rfl rfl, sP_p hP hK⟩ rfl rfl hl.1 rfl (lv_room (Nat.le_of_ble_eq_true rfl)) d_M_join_2 ⟨Nat.le_of_ble_eq_true rfl, Nat.le_of_ble_eq_true rfl⟩)) (fun r1 hr1 => ?_)
  replace hr1 := hr1.symm; subst hr1
  refine lv_if_eq (tgt := 16) hx hb d_M_join_5 (by decide) (fun c2 => ?_) (fun c2 => ?_)
  · have c2 := b2i_f c2
    refine lv_aload_n hx hb d_M_join_16 rfl (lv_at hl 0 rfl) ?_
    refine lv_iconst (v := 1) hx hb d_M_join_17 (by decide) ?_
    refine g_calli (va_runV (As := [.int 1]) (rest := []) ⟨hx, hb, hml, hown, hw⟩ (k_M_fails l D T o a z0 z2 z3 (nI sn) z18 z19 z20 z21 z24 z26 f1 f4 f5 f6 f7 f8 f9 f10 f11 f12 f13 f15 f16 f17 f22 f23 f25 f27 s.heap.size 1) (cwV 1 hw (bg_V ml_M_89 wi_M_fails wv_M_fails wz_M wc_M_fails) rfl rfl rfl (by decide +kernel) ⟨Nat.le_of_ble_eq_true rfl, Nat.le_of_ble_eq_true rfl⟩) ⟨qP_b, va_recv hK hP (ci := 6) (q0 := 0) rfl rfl, qP_p hP hK hD⟩ rfl rfl hl.1 rfl (lv_room (Nat.le_of_ble_eq_true rfl)) d_M_join_18 ⟨Nat.le_of_ble_eq_true rfl, Nat.le_of_ble_eq_true rfl⟩) hD hS hA (fun r3 u4 H locs hr3 hP hD hS => ?_)
    obtain ⟨q0, q1⟩ := hr3
    replace q0 := q0.symm; subst q0; replace q1 := q1.symm; subst q1
    have hP : va_P D gC (mX T o a 1 z2 z3 (nI sn) z18 z19 z20 z21 z24 z26 f1 f4 f5 f6 f7 f8 f9 f10 f11 f12 f13 f15 f16 f17 f22 f23 f25 f27) H := hP
    have hD : va_D A (mX T o a 1 z2 z3 (nI sn) z18 z19 z20 z21 z24 z26 f1 f4 f5 f6 f7 f8 f9 f10 f11 f12 f13 f15 f16 f17 f22 f23 f25 f27) := hD
    exact W.iret (v := 0) hx hb hr (fun t ht hW => ⟨⟨0, (1, z19, z20, z21, f15, f16, f17, nI sn), rfl, (Or.inl ⟨by simp [*], rfl, rfl, rfl, rfl, rfl, rfl, rfl, rfl, rfl⟩), by rw [ht]; exact hP, va_K.moved hW.alike hK, hD⟩, hS.F ht⟩) hS.2.2 d_M_join_21
  · have c2 := b2i_t c2
    have hxi := c2
    obtain ⟨i, hi, rfl⟩ := ix_of c2 (by omega)
    refine lv_aload_n hx hb d_M_join_8 rfl (lv_at hl 0 rfl) ?_
    refine lv_iload_n hx hb d_M_join_9 rfl (lv_at hl 2 rfl) ?_
    refine vp_callSi (va_Run.run (va_runV (As := [.int nb]) (rest := []) ⟨hx, hb, hml, hown, hw⟩ (k_M_isSpan l D T o a z0 z2 z3 (nI sn) z18 z19 z20 z21 z24 z26 f1 f4 f5 f6 f7 f8 f9 f10 f11 f12 f13 f15 f16 f17 f22 f23 f25 f27 nb) (cwV 1 hw (bg_V ml_M_164 wi_M_isSpan wv_M_isSpan wz_M wc_M_isSpan) rfl rfl rfl (by decide +kernel) ⟨Nat.le_of_ble_eq_true rfl, Nat.le_of_ble_eq_true rfl⟩) ⟨sP_b, va_recv hK hP (ci := 6) (q0 := 0) rfl rfl, sP_p hP hK⟩ rfl rfl hl.1 rfl (lv_room (Nat.le_of_ble_eq_true rfl)) d_M_join_10 ⟨Nat.le_of_ble_eq_true rfl, Nat.le_of_ble_eq_true rfl⟩)) (fun r5 hr5 => ?_)
    replace hr5 := hr5.symm; subst hr5
    refine lv_if_ne (tgt := 22) hx hb d_M_join_13 (by decide) (fun c6 => ?_) (fun c6 => ?_)
    · have c6 := b2i_t c6
      have hxj := c6
      obtain ⟨j, hj, rfl⟩ := ix_of c6 (by omega)
      refine lv_aload_n hx hb d_M_join_22 rfl (lv_at hl 0 rfl) ?_
      refine va_get (D := D) (ci := 6) (v := .int (nI sn)) (C := "TimeWordsModel") (T := F_M) (N := 28) hx hb hw in_M hown hK hP 0 rfl rfl 14 (by decide) (hw _ fl_M_79) (fun _ h9 => h9) rfl d_M_join_23 ?_
      refine lv_bipush (v := 60) hx hb d_M_join_26 (by decide) ?_
      refine lv_icmp_ne (tgt := 37) hx hb d_M_join_28 (by decide) (fun c7 => ?_) (fun c7 => ?_)
      · have c7 := nc_ne (a := sn) (b := 60) c7 (by omega) (by omega)
        have hlt : sn < 60 := by omega
        refine lv_aload_n hx hb d_M_join_37 rfl (lv_at hl 0 rfl) ?_
        refine lv_iconst (v := 0) hx hb d_M_join_38 (by decide) ?_
        refine va_put (D := D) (ci := 6) (v := .int 0) (ty := .int) (C := "TimeWordsModel") (T := F_M) (N := 28) hx hb hw in_M ty_M ty_M_ok n_M hown hK hP hD hS 0 rfl rfl 0 (by decide) (hw _ fl_M_69) (fun _ h9 => h9) rfl (by decide +kernel) rfl rfl (Nat.le_of_ble_eq_true rfl) d_M_join_39 (fun H locs hP hD hS => ?_)
        have hP : va_P D gC (mX T o a 0 z2 z3 (nI sn) z18 z19 z20 z21 z24 z26 f1 f4 f5 f6 f7 f8 f9 f10 f11 f12 f13 f15 f16 f17 f22 f23 f25 f27) H := hP
        have hD : va_D A (mX T o a 0 z2 z3 (nI sn) z18 z19 z20 z21 z24 z26 f1 f4 f5 f6 f7 f8 f9 f10 f11 f12 f13 f15 f16 f17 f22 f23 f25 f27) := hD
        refine lv_aload_n hx hb d_M_join_42 rfl (lv_at hl 0 rfl) ?_
        refine lv_aload_n hx hb d_M_join_43 rfl (lv_at hl 0 rfl) ?_
        refine va_get (D := D) (ci := 6) (v := .ref (a 15)) (C := "TimeWordsModel") (T := F_M) (N := 28) hx hb hw in_M hown hK hP 0 rfl rfl 15 (by decide) (hw _ fl_M_44) (fun _ h9 => h9) rfl d_M_join_44 ?_
        refine lv_iload_n hx hb d_M_join_47 rfl (lv_at hl 1 rfl) ?_
        refine va_iald hx hb hK hP 12 0 rfl rfl (by first | assumption | exact vp_in_nI (by omega) (by omega)) d_M_join_48 ?_
        rw [show (nI i).toNatClampNeg = i from nI_clamp (by omega)]
        refine lv_aload_n hx hb d_M_join_49 rfl (lv_at hl 0 rfl) ?_
        refine va_get (D := D) (ci := 6) (v := .ref (a 15)) (C := "TimeWordsModel") (T := F_M) (N := 28) hx hb hw in_M hown hK hP 0 rfl rfl 15 (by decide) (hw _ fl_M_44) (fun _ h9 => h9) rfl d_M_join_50 ?_
        refine lv_iload_n hx hb d_M_join_53 rfl (lv_at hl 2 rfl) ?_
        refine va_iald hx hb hK hP 12 0 rfl rfl (by first | assumption | exact vp_in_nI (by omega) (by omega)) d_M_join_54 ?_
        rw [show (nI j).toNatClampNeg = j from nI_clamp (by omega)]
        refine lv_icmp_ge (tgt := 67) hx hb d_M_join_55 (by decide) (fun c8 => ?_) (fun c8 => ?_)
        · refine lv_aload_n hx hb d_M_join_67 rfl (lv_at hl 0 rfl) ?_
          refine va_get (D := D) (ci := 6) (v := .ref (a 15)) (C := "TimeWordsModel") (T := F_M) (N := 28) hx hb hw in_M hown hK hP 0 rfl rfl 15 (by decide) (hw _ fl_M_44) (fun _ h9 => h9) rfl d_M_join_68 ?_
          refine lv_iload_n hx hb d_M_join_71 rfl (lv_at hl 2 rfl) ?_
          refine va_iald hx hb hK hP 12 0 rfl rfl (by first | assumption | exact vp_in_nI (by omega) (by omega)) d_M_join_72 ?_
          rw [show (nI j).toNatClampNeg = j from nI_clamp (by omega)]
          refine va_put (D := D) (ci := 6) (v := .int (f15 j)) (ty := .int) (C := "TimeWordsModel") (T := F_M) (N := 28) hx hb hw in_M ty_M ty_M_ok n_M hown hK hP hD hS 0 rfl rfl 19 (by decide) (hw _ fl_M_132) (fun _ h9 => h9) rfl (by decide +kernel) rfl rfl (Nat.le_of_ble_eq_true rfl) d_M_join_73 (fun H locs hP hD hS => ?_)
          have hP : va_P D gC (mX T o a 0 z2 z3 (nI sn) z18 (f15 j) z20 z21 z24 z26 f1 f4 f5 f6 f7 f8 f9 f10 f11 f12 f13 f15 f16 f17 f22 f23 f25 f27) H := hP
          have hD : va_D A (mX T o a 0 z2 z3 (nI sn) z18 (f15 j) z20 z21 z24 z26 f1 f4 f5 f6 f7 f8 f9 f10 f11 f12 f13 f15 f16 f17 f22 f23 f25 f27) := hD
          refine lv_aload_n hx hb d_M_join_76 rfl (lv_at hl 0 rfl) ?_
          refine lv_aload_n hx hb d_M_join_77 rfl (lv_at hl 0 rfl) ?_
          refine va_get (D := D) (ci := 6) (v := .ref (a 16)) (C := "TimeWordsModel") (T := F_M) (N := 28) hx hb hw in_M hown hK hP 0 rfl rfl 16 (by decide) (hw _ fl_M_47) (fun _ h9 => h9) rfl d_M_join_78 ?_
          refine lv_iload_n hx hb d_M_join_81 rfl (lv_at hl 1 rfl) ?_
          refine va_iald hx hb hK hP 13 0 rfl rfl (by first | assumption | exact vp_in_nI (by omega) (by omega)) d_M_join_82 ?_
          rw [show (nI i).toNatClampNeg = i from nI_clamp (by omega)]
          refine lv_aload_n hx hb d_M_join_83 rfl (lv_at hl 0 rfl) ?_
          refine va_get (D := D) (ci := 6) (v := .ref (a 16)) (C := "TimeWordsModel") (T := F_M) (N := 28) hx hb hw in_M hown hK hP 0 rfl rfl 16 (by decide) (hw _ fl_M_47) (fun _ h9 => h9) rfl d_M_join_84 ?_
          refine lv_iload_n hx hb d_M_join_87 rfl (lv_at hl 2 rfl) ?_
          refine va_iald hx hb hK hP 13 0 rfl rfl (by first | assumption | exact vp_in_nI (by omega) (by omega)) d_M_join_88 ?_
          rw [show (nI j).toNatClampNeg = j from nI_clamp (by omega)]
          refine lv_icmp_le (tgt := 101) hx hb d_M_join_89 (by decide) (fun c9 => ?_) (fun c9 => ?_)
          · refine lv_aload_n hx hb d_M_join_101 rfl (lv_at hl 0 rfl) ?_
            refine va_get (D := D) (ci := 6) (v := .ref (a 16)) (C := "TimeWordsModel") (T := F_M) (N := 28) hx hb hw in_M hown hK hP 0 rfl rfl 16 (by decide) (hw _ fl_M_47) (fun _ h9 => h9) rfl d_M_join_102 ?_
            refine lv_iload_n hx hb d_M_join_105 rfl (lv_at hl 2 rfl) ?_
            refine va_iald hx hb hK hP 13 0 rfl rfl (by first | assumption | exact vp_in_nI (by omega) (by omega)) d_M_join_106 ?_
            rw [show (nI j).toNatClampNeg = j from nI_clamp (by omega)]
            refine va_put (D := D) (ci := 6) (v := .int (f16 j)) (ty := .int) (C := "TimeWordsModel") (T := F_M) (N := 28) hx hb hw in_M ty_M ty_M_ok n_M hown hK hP hD hS 0 rfl rfl 20 (by decide) (hw _ fl_M_135) (fun _ h9 => h9) rfl (by decide +kernel) rfl rfl (Nat.le_of_ble_eq_true rfl) d_M_join_107 (fun H locs hP hD hS => ?_)
            have hP : va_P D gC (mX T o a 0 z2 z3 (nI sn) z18 (f15 j) (f16 j) z21 z24 z26 f1 f4 f5 f6 f7 f8 f9 f10 f11 f12 f13 f15 f16 f17 f22 f23 f25 f27) H := hP
            have hD : va_D A (mX T o a 0 z2 z3 (nI sn) z18 (f15 j) (f16 j) z21 z24 z26 f1 f4 f5 f6 f7 f8 f9 f10 f11 f12 f13 f15 f16 f17 f22 f23 f25 f27) := hD
            refine lv_aload_n hx hb d_M_join_110 rfl (lv_at hl 0 rfl) ?_
            refine lv_aload_n hx hb d_M_join_111 rfl (lv_at hl 0 rfl) ?_
            refine va_get (D := D) (ci := 6) (v := .ref (a 17)) (C := "TimeWordsModel") (T := F_M) (N := 28) hx hb hw in_M hown hK hP 0 rfl rfl 17 (by decide) (hw _ fl_M_50) (fun _ h9 => h9) rfl d_M_join_112 ?_
            refine lv_iload_n hx hb d_M_join_115 rfl (lv_at hl 1 rfl) ?_
            refine va_iald hx hb hK hP 14 0 rfl rfl (by first | assumption | exact vp_in_nI (by omega) (by omega)) d_M_join_116 ?_
            rw [show (nI i).toNatClampNeg = i from nI_clamp (by omega)]
            refine lv_aload_n hx hb d_M_join_117 rfl (lv_at hl 0 rfl) ?_
            refine va_get (D := D) (ci := 6) (v := .ref (a 17)) (C := "TimeWordsModel") (T := F_M) (N := 28) hx hb hw in_M hown hK hP 0 rfl rfl 17 (by decide) (hw _ fl_M_50) (fun _ h9 => h9) rfl d_M_join_118 ?_
            refine lv_iload_n hx hb d_M_join_121 rfl (lv_at hl 2 rfl) ?_
            refine va_iald hx hb hK hP 14 0 rfl rfl (by first | assumption | exact vp_in_nI (by omega) (by omega)) d_M_join_122 ?_
            rw [show (nI j).toNatClampNeg = j from nI_clamp (by omega)]
            refine lv_ior hx hb d_M_join_123 ?_
            refine va_put (D := D) (ci := 6) (v := .int ((f17 i) ||| (f17 j))) (ty := .int) (C := "TimeWordsModel") (T := F_M) (N := 28) hx hb hw in_M ty_M ty_M_ok n_M hown hK hP hD hS 0 rfl rfl 21 (by decide) (hw _ fl_M_138) (fun _ h9 => h9) rfl (by decide +kernel) rfl rfl (Nat.le_of_ble_eq_true rfl) d_M_join_124 (fun H locs hP hD hS => ?_)
            have hP : va_P D gC (mX T o a 0 z2 z3 (nI sn) z18 (f15 j) (f16 j) ((f17 i) ||| (f17 j)) z24 z26 f1 f4 f5 f6 f7 f8 f9 f10 f11 f12 f13 f15 f16 f17 f22 f23 f25 f27) H := hP
            have hD : va_D A (mX T o a 0 z2 z3 (nI sn) z18 (f15 j) (f16 j) ((f17 i) ||| (f17 j)) z24 z26 f1 f4 f5 f6 f7 f8 f9 f10 f11 f12 f13 f15 f16 f17 f22 f23 f25 f27) := hD
            refine lv_aload_n hx hb d_M_join_127 rfl (lv_at hl 0 rfl) ?_
            refine g_calli (va_runV (As := []) (rest := []) ⟨hx, hb, hml, hown, hw⟩ (k_M_make l D T o a 0 z2 z3 sn z18 (f15 j) (f16 j) ((f17 i) ||| (f17 j)) z24 z26 f1 f4 f5 f6 f7 f8 f9 f10 f11 f12 f13 f15 f16 f17 f22 f23 f25 f27 H.size (by assumption)) (cwV 0 hw (bg_V ml_M_160 wi_M_make wv_M_make wz_M wc_M_make) rfl rfl rfl (by decide +kernel) ⟨Nat.le_of_ble_eq_true rfl, Nat.le_of_ble_eq_true rfl⟩) ⟨qP_b, va_recv hK hP (ci := 6) (q0 := 0) rfl rfl, qP_p hP hK hD⟩ rfl rfl hl.1 rfl (lv_room (Nat.le_of_ble_eq_true rfl)) d_M_join_128 ⟨Nat.le_of_ble_eq_true rfl, Nat.le_of_ble_eq_true rfl⟩) hD hS hA (fun r10 u9 H locs hr10 hP hD hS => ?_)
            obtain ⟨u11, u12, u13, u14⟩ := u9
            dsimp only at hr10 hP hD
            obtain ⟨q0, q1, q2, q3, q4⟩ := hr10
            replace q0 := q0.symm; subst q0; replace q1 := q1.symm; subst q1; replace q2 := q2.symm; subst q2; replace q3 := q3.symm; subst q3; replace q4 := q4.symm; subst q4
            have hP : va_P D gC (mX T o a 0 z2 z3 (nI (sn + 1)) z18 (f15 j) (f16 j) ((f17 i) ||| (f17 j)) z24 z26 f1 f4 f5 f6 f7 f8 f9 f10 f11 f12 f13 (upd f15 sn (f15 j)) (upd f16 sn (f16 j)) (upd f17 sn ((f17 i) ||| (f17 j))) f22 f23 f25 f27) H := hP
            have hD : va_D A (mX T o a 0 z2 z3 (nI (sn + 1)) z18 (f15 j) (f16 j) ((f17 i) ||| (f17 j)) z24 z26 f1 f4 f5 f6 f7 f8 f9 f10 f11 f12 f13 (upd f15 sn (f15 j)) (upd f16 sn (f16 j)) (upd f17 sn ((f17 i) ||| (f17 j))) f22 f23 f25 f27) := hD
            exact W.iret (v := nI sn) hx hb hr (fun t ht hW => ⟨⟨nI sn, (0, f15 j, f16 j, (f17 i) ||| (f17 j), upd f15 sn (f15 j), upd f16 sn (f16 j), upd f17 sn ((f17 i) ||| (f17 j)), nI (sn + 1)), rfl, (Or.inr ⟨by rw [hxi, hxj]; rfl, i, hi, rfl, j, hj, rfl, Or.inr ⟨hlt, rfl, rfl, (by simp only [c2, c6, if_pos c8, decide_eq_true c8, if_pos c9, decide_eq_true c9]), (by simp only [c2, c6, if_pos c8, decide_eq_true c8, if_pos c9, decide_eq_true c9]), rfl, rfl, rfl, rfl, rfl⟩⟩), by rw [ht]; exact hP, va_K.moved hW.alike hK, hD⟩, hS.F ht⟩) hS.2.2 d_M_join_131
          · refine lv_aload_n hx hb d_M_join_92 rfl (lv_at hl 0 rfl) ?_
            refine va_get (D := D) (ci := 6) (v := .ref (a 16)) (C := "TimeWordsModel") (T := F_M) (N := 28) hx hb hw in_M hown hK hP 0 rfl rfl 16 (by decide) (hw _ fl_M_47) (fun _ h9 => h9) rfl d_M_join_93 ?_
            refine lv_iload_n hx hb d_M_join_96 rfl (lv_at hl 1 rfl) ?_
            refine va_iald hx hb hK hP 13 0 rfl rfl (by first | assumption | exact vp_in_nI (by omega) (by omega)) d_M_join_97 ?_
            rw [show (nI i).toNatClampNeg = i from nI_clamp (by omega)]
            refine lv_goto (tgt := 107) hx hb d_M_join_98 (by decide) ?_
            refine va_put (D := D) (ci := 6) (v := .int (f16 i)) (ty := .int) (C := "TimeWordsModel") (T := F_M) (N := 28) hx hb hw in_M ty_M ty_M_ok n_M hown hK hP hD hS 0 rfl rfl 20 (by decide) (hw _ fl_M_135) (fun _ h9 => h9) rfl (by decide +kernel) rfl rfl (Nat.le_of_ble_eq_true rfl) d_M_join_107 (fun H locs hP hD hS => ?_)
            have hP : va_P D gC (mX T o a 0 z2 z3 (nI sn) z18 (f15 j) (f16 i) z21 z24 z26 f1 f4 f5 f6 f7 f8 f9 f10 f11 f12 f13 f15 f16 f17 f22 f23 f25 f27) H := hP
            have hD : va_D A (mX T o a 0 z2 z3 (nI sn) z18 (f15 j) (f16 i) z21 z24 z26 f1 f4 f5 f6 f7 f8 f9 f10 f11 f12 f13 f15 f16 f17 f22 f23 f25 f27) := hD
            refine lv_aload_n hx hb d_M_join_110 rfl (lv_at hl 0 rfl) ?_
            refine lv_aload_n hx hb d_M_join_111 rfl (lv_at hl 0 rfl) ?_
            refine va_get (D := D) (ci := 6) (v := .ref (a 17)) (C := "TimeWordsModel") (T := F_M) (N := 28) hx hb hw in_M hown hK hP 0 rfl rfl 17 (by decide) (hw _ fl_M_50) (fun _ h9 => h9) rfl d_M_join_112 ?_
            refine lv_iload_n hx hb d_M_join_115 rfl (lv_at hl 1 rfl) ?_
            refine va_iald hx hb hK hP 14 0 rfl rfl (by first | assumption | exact vp_in_nI (by omega) (by omega)) d_M_join_116 ?_
            rw [show (nI i).toNatClampNeg = i from nI_clamp (by omega)]
            refine lv_aload_n hx hb d_M_join_117 rfl (lv_at hl 0 rfl) ?_
            refine va_get (D := D) (ci := 6) (v := .ref (a 17)) (C := "TimeWordsModel") (T := F_M) (N := 28) hx hb hw in_M hown hK hP 0 rfl rfl 17 (by decide) (hw _ fl_M_50) (fun _ h9 => h9) rfl d_M_join_118 ?_
            refine lv_iload_n hx hb d_M_join_121 rfl (lv_at hl 2 rfl) ?_
            refine va_iald hx hb hK hP 14 0 rfl rfl (by first | assumption | exact vp_in_nI (by omega) (by omega)) d_M_join_122 ?_
            rw [show (nI j).toNatClampNeg = j from nI_clamp (by omega)]
            refine lv_ior hx hb d_M_join_123 ?_
            refine va_put (D := D) (ci := 6) (v := .int ((f17 i) ||| (f17 j))) (ty := .int) (C := "TimeWordsModel") (T := F_M) (N := 28) hx hb hw in_M ty_M ty_M_ok n_M hown hK hP hD hS 0 rfl rfl 21 (by decide) (hw _ fl_M_138) (fun _ h9 => h9) rfl (by decide +kernel) rfl rfl (Nat.le_of_ble_eq_true rfl) d_M_join_124 (fun H locs hP hD hS => ?_)
            have hP : va_P D gC (mX T o a 0 z2 z3 (nI sn) z18 (f15 j) (f16 i) ((f17 i) ||| (f17 j)) z24 z26 f1 f4 f5 f6 f7 f8 f9 f10 f11 f12 f13 f15 f16 f17 f22 f23 f25 f27) H := hP
            have hD : va_D A (mX T o a 0 z2 z3 (nI sn) z18 (f15 j) (f16 i) ((f17 i) ||| (f17 j)) z24 z26 f1 f4 f5 f6 f7 f8 f9 f10 f11 f12 f13 f15 f16 f17 f22 f23 f25 f27) := hD
            refine lv_aload_n hx hb d_M_join_127 rfl (lv_at hl 0 rfl) ?_
            refine g_calli (va_runV (As := []) (rest := []) ⟨hx, hb, hml, hown, hw⟩ (k_M_make l D T o a 0 z2 z3 sn z18 (f15 j) (f16 i) ((f17 i) ||| (f17 j)) z24 z26 f1 f4 f5 f6 f7 f8 f9 f10 f11 f12 f13 f15 f16 f17 f22 f23 f25 f27 H.size (by assumption)) (cwV 0 hw (bg_V ml_M_160 wi_M_make wv_M_make wz_M wc_M_make) rfl rfl rfl (by decide +kernel) ⟨Nat.le_of_ble_eq_true rfl, Nat.le_of_ble_eq_true rfl⟩) ⟨qP_b, va_recv hK hP (ci := 6) (q0 := 0) rfl rfl, qP_p hP hK hD⟩ rfl rfl hl.1 rfl (lv_room (Nat.le_of_ble_eq_true rfl)) d_M_join_128 ⟨Nat.le_of_ble_eq_true rfl, Nat.le_of_ble_eq_true rfl⟩) hD hS hA (fun r15 u9 H locs hr15 hP hD hS => ?_)
            obtain ⟨u16, u17, u18, u19⟩ := u9
            dsimp only at hr15 hP hD
            obtain ⟨q0, q1, q2, q3, q4⟩ := hr15
            replace q0 := q0.symm; subst q0; replace q1 := q1.symm; subst q1; replace q2 := q2.symm; subst q2; replace q3 := q3.symm; subst q3; replace q4 := q4.symm; subst q4
            have hP : va_P D gC (mX T o a 0 z2 z3 (nI (sn + 1)) z18 (f15 j) (f16 i) ((f17 i) ||| (f17 j)) z24 z26 f1 f4 f5 f6 f7 f8 f9 f10 f11 f12 f13 (upd f15 sn (f15 j)) (upd f16 sn (f16 i)) (upd f17 sn ((f17 i) ||| (f17 j))) f22 f23 f25 f27) H := hP
            have hD : va_D A (mX T o a 0 z2 z3 (nI (sn + 1)) z18 (f15 j) (f16 i) ((f17 i) ||| (f17 j)) z24 z26 f1 f4 f5 f6 f7 f8 f9 f10 f11 f12 f13 (upd f15 sn (f15 j)) (upd f16 sn (f16 i)) (upd f17 sn ((f17 i) ||| (f17 j))) f22 f23 f25 f27) := hD
            exact W.iret (v := nI sn) hx hb hr (fun t ht hW => ⟨⟨nI sn, (0, f15 j, f16 i, (f17 i) ||| (f17 j), upd f15 sn (f15 j), upd f16 sn (f16 i), upd f17 sn ((f17 i) ||| (f17 j)), nI (sn + 1)), rfl, (Or.inr ⟨by rw [hxi, hxj]; rfl, i, hi, rfl, j, hj, rfl, Or.inr ⟨hlt, rfl, rfl, (by simp only [c2, c6, if_pos c8, decide_eq_true c8, if_neg c9, decide_eq_false c9]), (by simp only [c2, c6, if_pos c8, decide_eq_true c8, if_neg c9, decide_eq_false c9]), rfl, rfl, rfl, rfl, rfl⟩⟩), by rw [ht]; exact hP, va_K.moved hW.alike hK, hD⟩, hS.F ht⟩) hS.2.2 d_M_join_131
        · refine lv_aload_n hx hb d_M_join_58 rfl (lv_at hl 0 rfl) ?_
          refine va_get (D := D) (ci := 6) (v := .ref (a 15)) (C := "TimeWordsModel") (T := F_M) (N := 28) hx hb hw in_M hown hK hP 0 rfl rfl 15 (by decide) (hw _ fl_M_44) (fun _ h9 => h9) rfl d_M_join_59 ?_
          refine lv_iload_n hx hb d_M_join_62 rfl (lv_at hl 1 rfl) ?_
          refine va_iald hx hb hK hP 12 0 rfl rfl (by first | assumption | exact vp_in_nI (by omega) (by omega)) d_M_join_63 ?_
          rw [show (nI i).toNatClampNeg = i from nI_clamp (by omega)]
          refine lv_goto (tgt := 73) hx hb d_M_join_64 (by decide) ?_
          refine va_put (D := D) (ci := 6) (v := .int (f15 i)) (ty := .int) (C := "TimeWordsModel") (T := F_M) (N := 28) hx hb hw in_M ty_M ty_M_ok n_M hown hK hP hD hS 0 rfl rfl 19 (by decide) (hw _ fl_M_132) (fun _ h9 => h9) rfl (by decide +kernel) rfl rfl (Nat.le_of_ble_eq_true rfl) d_M_join_73 (fun H locs hP hD hS => ?_)
          have hP : va_P D gC (mX T o a 0 z2 z3 (nI sn) z18 (f15 i) z20 z21 z24 z26 f1 f4 f5 f6 f7 f8 f9 f10 f11 f12 f13 f15 f16 f17 f22 f23 f25 f27) H := hP
          have hD : va_D A (mX T o a 0 z2 z3 (nI sn) z18 (f15 i) z20 z21 z24 z26 f1 f4 f5 f6 f7 f8 f9 f10 f11 f12 f13 f15 f16 f17 f22 f23 f25 f27) := hD
          refine lv_aload_n hx hb d_M_join_76 rfl (lv_at hl 0 rfl) ?_
          refine lv_aload_n hx hb d_M_join_77 rfl (lv_at hl 0 rfl) ?_
          refine va_get (D := D) (ci := 6) (v := .ref (a 16)) (C := "TimeWordsModel") (T := F_M) (N := 28) hx hb hw in_M hown hK hP 0 rfl rfl 16 (by decide) (hw _ fl_M_47) (fun _ h9 => h9) rfl d_M_join_78 ?_
          refine lv_iload_n hx hb d_M_join_81 rfl (lv_at hl 1 rfl) ?_
          refine va_iald hx hb hK hP 13 0 rfl rfl (by first | assumption | exact vp_in_nI (by omega) (by omega)) d_M_join_82 ?_
          rw [show (nI i).toNatClampNeg = i from nI_clamp (by omega)]
          refine lv_aload_n hx hb d_M_join_83 rfl (lv_at hl 0 rfl) ?_
          refine va_get (D := D) (ci := 6) (v := .ref (a 16)) (C := "TimeWordsModel") (T := F_M) (N := 28) hx hb hw in_M hown hK hP 0 rfl rfl 16 (by decide) (hw _ fl_M_47) (fun _ h9 => h9) rfl d_M_join_84 ?_
          refine lv_iload_n hx hb d_M_join_87 rfl (lv_at hl 2 rfl) ?_
          refine va_iald hx hb hK hP 13 0 rfl rfl (by first | assumption | exact vp_in_nI (by omega) (by omega)) d_M_join_88 ?_
          rw [show (nI j).toNatClampNeg = j from nI_clamp (by omega)]
          refine lv_icmp_le (tgt := 101) hx hb d_M_join_89 (by decide) (fun c20 => ?_) (fun c20 => ?_)
          · refine lv_aload_n hx hb d_M_join_101 rfl (lv_at hl 0 rfl) ?_
            refine va_get (D := D) (ci := 6) (v := .ref (a 16)) (C := "TimeWordsModel") (T := F_M) (N := 28) hx hb hw in_M hown hK hP 0 rfl rfl 16 (by decide) (hw _ fl_M_47) (fun _ h9 => h9) rfl d_M_join_102 ?_
            refine lv_iload_n hx hb d_M_join_105 rfl (lv_at hl 2 rfl) ?_
            refine va_iald hx hb hK hP 13 0 rfl rfl (by first | assumption | exact vp_in_nI (by omega) (by omega)) d_M_join_106 ?_
            rw [show (nI j).toNatClampNeg = j from nI_clamp (by omega)]
            refine va_put (D := D) (ci := 6) (v := .int (f16 j)) (ty := .int) (C := "TimeWordsModel") (T := F_M) (N := 28) hx hb hw in_M ty_M ty_M_ok n_M hown hK hP hD hS 0 rfl rfl 20 (by decide) (hw _ fl_M_135) (fun _ h9 => h9) rfl (by decide +kernel) rfl rfl (Nat.le_of_ble_eq_true rfl) d_M_join_107 (fun H locs hP hD hS => ?_)
            have hP : va_P D gC (mX T o a 0 z2 z3 (nI sn) z18 (f15 i) (f16 j) z21 z24 z26 f1 f4 f5 f6 f7 f8 f9 f10 f11 f12 f13 f15 f16 f17 f22 f23 f25 f27) H := hP
            have hD : va_D A (mX T o a 0 z2 z3 (nI sn) z18 (f15 i) (f16 j) z21 z24 z26 f1 f4 f5 f6 f7 f8 f9 f10 f11 f12 f13 f15 f16 f17 f22 f23 f25 f27) := hD
            refine lv_aload_n hx hb d_M_join_110 rfl (lv_at hl 0 rfl) ?_
            refine lv_aload_n hx hb d_M_join_111 rfl (lv_at hl 0 rfl) ?_
            refine va_get (D := D) (ci := 6) (v := .ref (a 17)) (C := "TimeWordsModel") (T := F_M) (N := 28) hx hb hw in_M hown hK hP 0 rfl rfl 17 (by decide) (hw _ fl_M_50) (fun _ h9 => h9) rfl d_M_join_112 ?_
            refine lv_iload_n hx hb d_M_join_115 rfl (lv_at hl 1 rfl) ?_
            refine va_iald hx hb hK hP 14 0 rfl rfl (by first | assumption | exact vp_in_nI (by omega) (by omega)) d_M_join_116 ?_
            rw [show (nI i).toNatClampNeg = i from nI_clamp (by omega)]
            refine lv_aload_n hx hb d_M_join_117 rfl (lv_at hl 0 rfl) ?_
            refine va_get (D := D) (ci := 6) (v := .ref (a 17)) (C := "TimeWordsModel") (T := F_M) (N := 28) hx hb hw in_M hown hK hP 0 rfl rfl 17 (by decide) (hw _ fl_M_50) (fun _ h9 => h9) rfl d_M_join_118 ?_
            refine lv_iload_n hx hb d_M_join_121 rfl (lv_at hl 2 rfl) ?_
            refine va_iald hx hb hK hP 14 0 rfl rfl (by first | assumption | exact vp_in_nI (by omega) (by omega)) d_M_join_122 ?_
            rw [show (nI j).toNatClampNeg = j from nI_clamp (by omega)]
            refine lv_ior hx hb d_M_join_123 ?_
            refine va_put (D := D) (ci := 6) (v := .int ((f17 i) ||| (f17 j))) (ty := .int) (C := "TimeWordsModel") (T := F_M) (N := 28) hx hb hw in_M ty_M ty_M_ok n_M hown hK hP hD hS 0 rfl rfl 21 (by decide) (hw _ fl_M_138) (fun _ h9 => h9) rfl (by decide +kernel) rfl rfl (Nat.le_of_ble_eq_true rfl) d_M_join_124 (fun H locs hP hD hS => ?_)
            have hP : va_P D gC (mX T o a 0 z2 z3 (nI sn) z18 (f15 i) (f16 j) ((f17 i) ||| (f17 j)) z24 z26 f1 f4 f5 f6 f7 f8 f9 f10 f11 f12 f13 f15 f16 f17 f22 f23 f25 f27) H := hP
            have hD : va_D A (mX T o a 0 z2 z3 (nI sn) z18 (f15 i) (f16 j) ((f17 i) ||| (f17 j)) z24 z26 f1 f4 f5 f6 f7 f8 f9 f10 f11 f12 f13 f15 f16 f17 f22 f23 f25 f27) := hD
            refine lv_aload_n hx hb d_M_join_127 rfl (lv_at hl 0 rfl) ?_
            refine g_calli (va_runV (As := []) (rest := []) ⟨hx, hb, hml, hown, hw⟩ (k_M_make l D T o a 0 z2 z3 sn z18 (f15 i) (f16 j) ((f17 i) ||| (f17 j)) z24 z26 f1 f4 f5 f6 f7 f8 f9 f10 f11 f12 f13 f15 f16 f17 f22 f23 f25 f27 H.size (by assumption)) (cwV 0 hw (bg_V ml_M_160 wi_M_make wv_M_make wz_M wc_M_make) rfl rfl rfl (by decide +kernel) ⟨Nat.le_of_ble_eq_true rfl, Nat.le_of_ble_eq_true rfl⟩) ⟨qP_b, va_recv hK hP (ci := 6) (q0 := 0) rfl rfl, qP_p hP hK hD⟩ rfl rfl hl.1 rfl (lv_room (Nat.le_of_ble_eq_true rfl)) d_M_join_128 ⟨Nat.le_of_ble_eq_true rfl, Nat.le_of_ble_eq_true rfl⟩) hD hS hA (fun r21 u9 H locs hr21 hP hD hS => ?_)
            obtain ⟨u22, u23, u24, u25⟩ := u9
            dsimp only at hr21 hP hD
            obtain ⟨q0, q1, q2, q3, q4⟩ := hr21
            replace q0 := q0.symm; subst q0; replace q1 := q1.symm; subst q1; replace q2 := q2.symm; subst q2; replace q3 := q3.symm; subst q3; replace q4 := q4.symm; subst q4
            have hP : va_P D gC (mX T o a 0 z2 z3 (nI (sn + 1)) z18 (f15 i) (f16 j) ((f17 i) ||| (f17 j)) z24 z26 f1 f4 f5 f6 f7 f8 f9 f10 f11 f12 f13 (upd f15 sn (f15 i)) (upd f16 sn (f16 j)) (upd f17 sn ((f17 i) ||| (f17 j))) f22 f23 f25 f27) H := hP
            have hD : va_D A (mX T o a 0 z2 z3 (nI (sn + 1)) z18 (f15 i) (f16 j) ((f17 i) ||| (f17 j)) z24 z26 f1 f4 f5 f6 f7 f8 f9 f10 f11 f12 f13 (upd f15 sn (f15 i)) (upd f16 sn (f16 j)) (upd f17 sn ((f17 i) ||| (f17 j))) f22 f23 f25 f27) := hD
            exact W.iret (v := nI sn) hx hb hr (fun t ht hW => ⟨⟨nI sn, (0, f15 i, f16 j, (f17 i) ||| (f17 j), upd f15 sn (f15 i), upd f16 sn (f16 j), upd f17 sn ((f17 i) ||| (f17 j)), nI (sn + 1)), rfl, (Or.inr ⟨by rw [hxi, hxj]; rfl, i, hi, rfl, j, hj, rfl, Or.inr ⟨hlt, rfl, rfl, (by simp only [c2, c6, if_neg c8, decide_eq_false c8, if_pos c20, decide_eq_true c20]), (by simp only [c2, c6, if_neg c8, decide_eq_false c8, if_pos c20, decide_eq_true c20]), rfl, rfl, rfl, rfl, rfl⟩⟩), by rw [ht]; exact hP, va_K.moved hW.alike hK, hD⟩, hS.F ht⟩) hS.2.2 d_M_join_131
          · refine lv_aload_n hx hb d_M_join_92 rfl (lv_at hl 0 rfl) ?_
            refine va_get (D := D) (ci := 6) (v := .ref (a 16)) (C := "TimeWordsModel") (T := F_M) (N := 28) hx hb hw in_M hown hK hP 0 rfl rfl 16 (by decide) (hw _ fl_M_47) (fun _ h9 => h9) rfl d_M_join_93 ?_
            refine lv_iload_n hx hb d_M_join_96 rfl (lv_at hl 1 rfl) ?_
            refine va_iald hx hb hK hP 13 0 rfl rfl (by first | assumption | exact vp_in_nI (by omega) (by omega)) d_M_join_97 ?_
            rw [show (nI i).toNatClampNeg = i from nI_clamp (by omega)]
            refine lv_goto (tgt := 107) hx hb d_M_join_98 (by decide) ?_
            refine va_put (D := D) (ci := 6) (v := .int (f16 i)) (ty := .int) (C := "TimeWordsModel") (T := F_M) (N := 28) hx hb hw in_M ty_M ty_M_ok n_M hown hK hP hD hS 0 rfl rfl 20 (by decide) (hw _ fl_M_135) (fun _ h9 => h9) rfl (by decide +kernel) rfl rfl (Nat.le_of_ble_eq_true rfl) d_M_join_107 (fun H locs hP hD hS => ?_)
            have hP : va_P D gC (mX T o a 0 z2 z3 (nI sn) z18 (f15 i) (f16 i) z21 z24 z26 f1 f4 f5 f6 f7 f8 f9 f10 f11 f12 f13 f15 f16 f17 f22 f23 f25 f27) H := hP
            have hD : va_D A (mX T o a 0 z2 z3 (nI sn) z18 (f15 i) (f16 i) z21 z24 z26 f1 f4 f5 f6 f7 f8 f9 f10 f11 f12 f13 f15 f16 f17 f22 f23 f25 f27) := hD
            refine lv_aload_n hx hb d_M_join_110 rfl (lv_at hl 0 rfl) ?_
            refine lv_aload_n hx hb d_M_join_111 rfl (lv_at hl 0 rfl) ?_
            refine va_get (D := D) (ci := 6) (v := .ref (a 17)) (C := "TimeWordsModel") (T := F_M) (N := 28) hx hb hw in_M hown hK hP 0 rfl rfl 17 (by decide) (hw _ fl_M_50) (fun _ h9 => h9) rfl d_M_join_112 ?_
            refine lv_iload_n hx hb d_M_join_115 rfl (lv_at hl 1 rfl) ?_
            refine va_iald hx hb hK hP 14 0 rfl rfl (by first | assumption | exact vp_in_nI (by omega) (by omega)) d_M_join_116 ?_
            rw [show (nI i).toNatClampNeg = i from nI_clamp (by omega)]
            refine lv_aload_n hx hb d_M_join_117 rfl (lv_at hl 0 rfl) ?_
            refine va_get (D := D) (ci := 6) (v := .ref (a 17)) (C := "TimeWordsModel") (T := F_M) (N := 28) hx hb hw in_M hown hK hP 0 rfl rfl 17 (by decide) (hw _ fl_M_50) (fun _ h9 => h9) rfl d_M_join_118 ?_
            refine lv_iload_n hx hb d_M_join_121 rfl (lv_at hl 2 rfl) ?_
            refine va_iald hx hb hK hP 14 0 rfl rfl (by first | assumption | exact vp_in_nI (by omega) (by omega)) d_M_join_122 ?_
            rw [show (nI j).toNatClampNeg = j from nI_clamp (by omega)]
            refine lv_ior hx hb d_M_join_123 ?_
            refine va_put (D := D) (ci := 6) (v := .int ((f17 i) ||| (f17 j))) (ty := .int) (C := "TimeWordsModel") (T := F_M) (N := 28) hx hb hw in_M ty_M ty_M_ok n_M hown hK hP hD hS 0 rfl rfl 21 (by decide) (hw _ fl_M_138) (fun _ h9 => h9) rfl (by decide +kernel) rfl rfl (Nat.le_of_ble_eq_true rfl) d_M_join_124 (fun H locs hP hD hS => ?_)
            have hP : va_P D gC (mX T o a 0 z2 z3 (nI sn) z18 (f15 i) (f16 i) ((f17 i) ||| (f17 j)) z24 z26 f1 f4 f5 f6 f7 f8 f9 f10 f11 f12 f13 f15 f16 f17 f22 f23 f25 f27) H := hP
            have hD : va_D A (mX T o a 0 z2 z3 (nI sn) z18 (f15 i) (f16 i) ((f17 i) ||| (f17 j)) z24 z26 f1 f4 f5 f6 f7 f8 f9 f10 f11 f12 f13 f15 f16 f17 f22 f23 f25 f27) := hD
            refine lv_aload_n hx hb d_M_join_127 rfl (lv_at hl 0 rfl) ?_
            refine g_calli (va_runV (As := []) (rest := []) ⟨hx, hb, hml, hown, hw⟩ (k_M_make l D T o a 0 z2 z3 sn z18 (f15 i) (f16 i) ((f17 i) ||| (f17 j)) z24 z26 f1 f4 f5 f6 f7 f8 f9 f10 f11 f12 f13 f15 f16 f17 f22 f23 f25 f27 H.size (by assumption)) (cwV 0 hw (bg_V ml_M_160 wi_M_make wv_M_make wz_M wc_M_make) rfl rfl rfl (by decide +kernel) ⟨Nat.le_of_ble_eq_true rfl, Nat.le_of_ble_eq_true rfl⟩) ⟨qP_b, va_recv hK hP (ci := 6) (q0 := 0) rfl rfl, qP_p hP hK hD⟩ rfl rfl hl.1 rfl (lv_room (Nat.le_of_ble_eq_true rfl)) d_M_join_128 ⟨Nat.le_of_ble_eq_true rfl, Nat.le_of_ble_eq_true rfl⟩) hD hS hA (fun r26 u9 H locs hr26 hP hD hS => ?_)
            obtain ⟨u27, u28, u29, u30⟩ := u9
            dsimp only at hr26 hP hD
            obtain ⟨q0, q1, q2, q3, q4⟩ := hr26
            replace q0 := q0.symm; subst q0; replace q1 := q1.symm; subst q1; replace q2 := q2.symm; subst q2; replace q3 := q3.symm; subst q3; replace q4 := q4.symm; subst q4
            have hP : va_P D gC (mX T o a 0 z2 z3 (nI (sn + 1)) z18 (f15 i) (f16 i) ((f17 i) ||| (f17 j)) z24 z26 f1 f4 f5 f6 f7 f8 f9 f10 f11 f12 f13 (upd f15 sn (f15 i)) (upd f16 sn (f16 i)) (upd f17 sn ((f17 i) ||| (f17 j))) f22 f23 f25 f27) H := hP
            have hD : va_D A (mX T o a 0 z2 z3 (nI (sn + 1)) z18 (f15 i) (f16 i) ((f17 i) ||| (f17 j)) z24 z26 f1 f4 f5 f6 f7 f8 f9 f10 f11 f12 f13 (upd f15 sn (f15 i)) (upd f16 sn (f16 i)) (upd f17 sn ((f17 i) ||| (f17 j))) f22 f23 f25 f27) := hD
            exact W.iret (v := nI sn) hx hb hr (fun t ht hW => ⟨⟨nI sn, (0, f15 i, f16 i, (f17 i) ||| (f17 j), upd f15 sn (f15 i), upd f16 sn (f16 i), upd f17 sn ((f17 i) ||| (f17 j)), nI (sn + 1)), rfl, (Or.inr ⟨by rw [hxi, hxj]; rfl, i, hi, rfl, j, hj, rfl, Or.inr ⟨hlt, rfl, rfl, (by simp only [c2, c6, if_neg c8, decide_eq_false c8, if_neg c20, decide_eq_false c20]), (by simp only [c2, c6, if_neg c8, decide_eq_false c8, if_neg c20, decide_eq_false c20]), rfl, rfl, rfl, rfl, rfl⟩⟩), by rw [ht]; exact hP, va_K.moved hW.alike hK, hD⟩, hS.F ht⟩) hS.2.2 d_M_join_131
      · have c7 := nc_eq (a := sn) (b := 60) c7 (by omega) (by omega)
        refine lv_aload_n hx hb d_M_join_31 rfl (lv_at hl 0 rfl) ?_
        refine lv_iconst (v := 2) hx hb d_M_join_32 (by decide) ?_
        refine g_calli (va_runV (As := [.int 2]) (rest := []) ⟨hx, hb, hml, hown, hw⟩ (k_M_fails l D T o a z0 z2 z3 (nI sn) z18 z19 z20 z21 z24 z26 f1 f4 f5 f6 f7 f8 f9 f10 f11 f12 f13 f15 f16 f17 f22 f23 f25 f27 s.heap.size 2) (cwV 1 hw (bg_V ml_M_89 wi_M_fails wv_M_fails wz_M wc_M_fails) rfl rfl rfl (by decide +kernel) ⟨Nat.le_of_ble_eq_true rfl, Nat.le_of_ble_eq_true rfl⟩) ⟨qP_b, va_recv hK hP (ci := 6) (q0 := 0) rfl rfl, qP_p hP hK hD⟩ rfl rfl hl.1 rfl (lv_room (Nat.le_of_ble_eq_true rfl)) d_M_join_33 ⟨Nat.le_of_ble_eq_true rfl, Nat.le_of_ble_eq_true rfl⟩) hD hS hA (fun r31 u32 H locs hr31 hP hD hS => ?_)
        obtain ⟨q0, q1⟩ := hr31
        replace q0 := q0.symm; subst q0; replace q1 := q1.symm; subst q1
        have hP : va_P D gC (mX T o a 2 z2 z3 (nI sn) z18 z19 z20 z21 z24 z26 f1 f4 f5 f6 f7 f8 f9 f10 f11 f12 f13 f15 f16 f17 f22 f23 f25 f27) H := hP
        have hD : va_D A (mX T o a 2 z2 z3 (nI sn) z18 z19 z20 z21 z24 z26 f1 f4 f5 f6 f7 f8 f9 f10 f11 f12 f13 f15 f16 f17 f22 f23 f25 f27) := hD
        exact W.iret (v := 0) hx hb hr (fun t ht hW => ⟨⟨0, (2, z19, z20, z21, f15, f16, f17, nI sn), rfl, (Or.inr ⟨by rw [hxi, hxj]; rfl, i, hi, rfl, j, hj, rfl, Or.inl ⟨c7, rfl, rfl, rfl, rfl, rfl, rfl, rfl, rfl, rfl⟩⟩), by rw [ht]; exact hP, va_K.moved hW.alike hK, hD⟩, hS.F ht⟩) hS.2.2 d_M_join_36
    · have c6 := b2i_f c6
      refine lv_aload_n hx hb d_M_join_16 rfl (lv_at hl 0 rfl) ?_
      refine lv_iconst (v := 1) hx hb d_M_join_17 (by decide) ?_
      refine g_calli (va_runV (As := [.int 1]) (rest := []) ⟨hx, hb, hml, hown, hw⟩ (k_M_fails l D T o a z0 z2 z3 (nI sn) z18 z19 z20 z21 z24 z26 f1 f4 f5 f6 f7 f8 f9 f10 f11 f12 f13 f15 f16 f17 f22 f23 f25 f27 s.heap.size 1) (cwV 1 hw (bg_V ml_M_89 wi_M_fails wv_M_fails wz_M wc_M_fails) rfl rfl rfl (by decide +kernel) ⟨Nat.le_of_ble_eq_true rfl, Nat.le_of_ble_eq_true rfl⟩) ⟨qP_b, va_recv hK hP (ci := 6) (q0 := 0) rfl rfl, qP_p hP hK hD⟩ rfl rfl hl.1 rfl (lv_room (Nat.le_of_ble_eq_true rfl)) d_M_join_18 ⟨Nat.le_of_ble_eq_true rfl, Nat.le_of_ble_eq_true rfl⟩) hD hS hA (fun r33 u34 H locs hr33 hP hD hS => ?_)
      obtain ⟨q0, q1⟩ := hr33
      replace q0 := q0.symm; subst q0; replace q1 := q1.symm; subst q1
      have hP : va_P D gC (mX T o a 1 z2 z3 (nI sn) z18 z19 z20 z21 z24 z26 f1 f4 f5 f6 f7 f8 f9 f10 f11 f12 f13 f15 f16 f17 f22 f23 f25 f27) H := hP
      have hD : va_D A (mX T o a 1 z2 z3 (nI sn) z18 z19 z20 z21 z24 z26 f1 f4 f5 f6 f7 f8 f9 f10 f11 f12 f13 f15 f16 f17 f22 f23 f25 f27) := hD
      exact W.iret (v := 0) hx hb hr (fun t ht hW => ⟨⟨0, (1, z19, z20, z21, f15, f16, f17, nI sn), rfl, (Or.inl ⟨by simp [*], rfl, rfl, rfl, rfl, rfl, rfl, rfl, rfl, rfl⟩), by rw [ht]; exact hP, va_K.moved hW.alike hK, hD⟩, hS.F ht⟩) hS.2.2 d_M_join_21

set_option maxHeartbeats 4000000 in
set_option maxRecDepth 100000 in
theorem k_M_regnal (l : Launch) (D : va_G) (T : gT) (o : Nat) (a : Nat → Nat) (z0 z2 : Int32) (nn : Nat) (z14 z18 z19 z20 z21 z24 z26 : Int32) (f1 f4 f5 f6 f7 f8 f9 f10 f11 f12 f13 f15 f16 f17 f22 f23 f25 f27 : Nat → Int32) (sz : Nat) (ni x : Int32) (hy0 : nn ≤ 24) : Met l y_M_regnal (Cond.code y_M_regnal b_M_regnal 3 (some .int) :: bg_W) ({ frames := 1, cells := 0, slots := 0, locals := 21 }) (qP D T (mX T o a z0 z2 (nI nn) z14 z18 z19 z20 z21 z24 z26 f1 f4 f5 f6 f7 f8 f9 f10 f11 f12 f13 f15 f16 f17 f22 f23 f25 f27) [.ref o, .int ni, .int x] sz) (va_Qi (fun (r : Int32) (w0 : Int32) => (j_ix ni (nI nn) = false ∧ r = 0 ∧ w0 = 1) ∨ (j_ix ni (nI nn) = true ∧ ∃ j, j < nn ∧ ni = nI j ∧ ((¬ 1 ≤ x ∧ r = 0 ∧ w0 = 2) ∨ (1 ≤ x ∧ (f6 j = 0 ∨ ¬ x - 1 ≤ f8 j - f7 j) ∧ r = 0 ∧ w0 = 3) ∨ (1 ≤ x ∧ ¬ f6 j = 0 ∧ x - 1 ≤ f8 j - f7 j ∧ r = f7 j + x - 1 ∧ w0 = 0)))) (qB D T (va_A (mX T o a z0 z2 (nI nn) z14 z18 z19 z20 z21 z24 z26 f1 f4 f5 f6 f7 f8 f9 f10 f11 f12 f13 f15 f16 f17 f22 f23 f25 f27) sz) (fun w0 : Int32 => mX T o a w0 z2 (nI nn) z14 z18 z19 z20 z21 z24 z26 f1 f4 f5 f6 f7 f8 f9 f10 f11 f12 f13 f15 f16 f17 f22 f23 f25 f27)) (va_A (mX T o a z0 z2 (nI nn) z14 z18 z19 z20 z21 z24 z26 f1 f4 f5 f6 f7 f8 f9 f10 f11 f12 f13 f15 f16 f17 f22 f23 f25 f27) sz)) 0 0 (va_A (mX T o a z0 z2 (nI nn) z14 z18 z19 z20 z21 z24 z26 f1 f4 f5 f6 f7 f8 f9 f10 f11 f12 f13 f15 f16 f17 f22 f23 f25 f27) sz) := by
  refine Met.ofW (cc := b_M_regnal) (maxL := 3) (ret := (some .int)) (by decide) rfl ?_
  intro p e s m args below meth c s₁ B hml hv
  obtain ⟨rfl, hsz, hP, hK, hD0⟩ := hv
  have hx := B.exec
  have hb := B.bytes
  have hr := B.returns
  have hw : ∀ w ∈ bg_W, w.before ([.ref o, .int ni, .int x] : List Value).toArray s = true := fun w h => atoms_spec (ws := (Cond.code y_M_regnal b_M_regnal 3 (some .int) :: bg_W)) B.pre w (List.mem_cons_of_mem _ h)
  have hown : s.vm.findClass "TimeWordsModel" = some m.cls := findClass_of_methodNamed B.named
  have hlocks := B.notSynchronized
  subst hsz
  have hD := hD0.self (sz := s.heap.size)
  generalize hAe : va_A (mX T o a z0 z2 (nI nn) z14 z18 z19 z20 z21 z24 z26 f1 f4 f5 f6 f7 f8 f9 f10 f11 f12 f13 f15 f16 f17 f22 f23 f25 f27) s.heap.size = A at hD ⊢
  have hA : ∀ q : Nat, s.heap.size ≤ q → A q := fun q h => by rw [← hAe]; exact Or.inr h
  have hS : va_S A s.heap s.heap [] := va_S.rf
  have hl := lv_entry ([.ref o, .int ni, .int x]) (n := 3) (Nat.le_of_ble_eq_true rfl)
  rw [lg_entry_eq]
  generalize (lg_sl ([.ref o, .int ni, .int x]) ++ List.replicate (3 - (lg_sl ([.ref o, .int ni, .int x])).length) Slot.unset).toArray = ls at hl ⊢
  have hl : lv_has ls 3 [(0, .ref o), (1, .int ni), (2, .int x)] := hl
  refine lv_aload_n hx hb d_M_regnal_0 rfl (lv_at hl 0 rfl) ?_
  refine lv_aload_n hx hb d_M_regnal_1 rfl (lv_at hl 0 rfl) ?_
  refine lv_iload_n hx hb d_M_regnal_2 rfl (lv_at hl 1 rfl) ?_
  refine vp_callSi (va_Run.run (va_runV (As := [.int ni]) (rest := [.ref o]) ⟨hx, hb, hml, hown, hw⟩ (k_M_isName l D T o a z0 z2 (nI nn) z14 z18 z19 z20 z21 z24 z26 f1 f4 f5 f6 f7 f8 f9 f10 f11 f12 f13 f15 f16 f17 f22 f23 f25 f27 ni) (cwV 1 hw (bg_V ml_M_99 wi_M_isName wv_M_isName wz_M wc_M_isName) rfl rfl rfl (by decide +kernel) ⟨Nat.le_of_ble_eq_true rfl, Nat.le_of_ble_eq_true rfl⟩) ⟨sP_b, va_recv hK hP (ci := 6) (q0 := 0) rfl rfl, sP_p hP hK⟩ rfl rfl hl.1 rfl (lv_room (Nat.le_of_ble_eq_true rfl)) d_M_regnal_3 ⟨Nat.le_of_ble_eq_true rfl, Nat.le_of_ble_eq_true rfl⟩)) (fun r1 hr1 => ?_)
  replace hr1 := hr1.symm; subst hr1
  refine lv_if_ne (tgt := 13) hx hb d_M_regnal_6 (by decide) (fun c2 => ?_) (fun c2 => ?_)
  · have c2 := b2i_t c2
    have hix := c2
    obtain ⟨j, hj, rfl⟩ := ix_of c2 (by omega)
    refine lv_iload_n hx hb d_M_regnal_13 rfl (lv_at hl 2 rfl) ?_
    refine lv_iconst (v := 1) hx hb d_M_regnal_14 (by decide) ?_
    refine lv_icmp_ge (tgt := 22) hx hb d_M_regnal_15 (by decide) (fun c3 => ?_) (fun c3 => ?_)
    · refine lv_aload_n hx hb d_M_regnal_22 rfl (lv_at hl 0 rfl) ?_
      refine va_get (D := D) (ci := 6) (v := .ref (a 6)) (C := "TimeWordsModel") (T := F_M) (N := 28) hx hb hw in_M hown hK hP 0 rfl rfl 6 (by decide) (hw _ fl_M_19) (fun _ h9 => h9) rfl d_M_regnal_23 ?_
      refine lv_iload_n hx hb d_M_regnal_26 rfl (lv_at hl 1 rfl) ?_
      refine va_zald hx hb hK hP 4 1 rfl rfl (by first | assumption | exact vp_in_nI (by omega) (by omega)) d_M_regnal_27 ?_
      rw [show (nI j).toNatClampNeg = j from nI_clamp (by omega)]
      refine lv_if_eq (tgt := 50) hx hb d_M_regnal_28 (by decide) (fun c4 => ?_) (fun c4 => ?_)
      · refine lv_iconst (v := 3) hx hb d_M_regnal_50 (by decide) ?_
        refine lv_goto (tgt := 55) hx hb d_M_regnal_51 (by decide) ?_
        refine va_put (D := D) (ci := 6) (v := .int 3) (ty := .int) (C := "TimeWordsModel") (T := F_M) (N := 28) hx hb hw in_M ty_M ty_M_ok n_M hown hK hP hD hS 0 rfl rfl 0 (by decide) (hw _ fl_M_69) (fun _ h9 => h9) rfl (by decide +kernel) rfl rfl (Nat.le_of_ble_eq_true rfl) d_M_regnal_55 (fun H locs hP hD hS => ?_)
        have hP : va_P D gC (mX T o a 3 z2 (nI nn) z14 z18 z19 z20 z21 z24 z26 f1 f4 f5 f6 f7 f8 f9 f10 f11 f12 f13 f15 f16 f17 f22 f23 f25 f27) H := hP
        have hD : va_D A (mX T o a 3 z2 (nI nn) z14 z18 z19 z20 z21 z24 z26 f1 f4 f5 f6 f7 f8 f9 f10 f11 f12 f13 f15 f16 f17 f22 f23 f25 f27) := hD
        refine lv_aload_n hx hb d_M_regnal_58 rfl (lv_at hl 0 rfl) ?_
        refine va_get (D := D) (ci := 6) (v := .int 3) (C := "TimeWordsModel") (T := F_M) (N := 28) hx hb hw in_M hown hK hP 0 rfl rfl 0 (by decide) (hw _ fl_M_69) (fun _ h9 => h9) rfl d_M_regnal_59 ?_
        refine lv_if_le (tgt := 69) hx hb d_M_regnal_62 (by decide) (fun c5 => absurd c5 (by decide)) (fun c5 => ?_)
        refine lv_iconst (v := 0) hx hb d_M_regnal_65 (by decide) ?_
        refine lv_goto (tgt := 79) hx hb d_M_regnal_66 (by decide) ?_
        exact W.iret (v := 0) hx hb hr (fun t ht hW => ⟨⟨0, 3, rfl, (Or.inr ⟨hix, j, hj, rfl, Or.inr (Or.inl ⟨by assumption, by simp [*], rfl, rfl⟩)⟩), by rw [ht]; exact hP, va_K.moved hW.alike hK, hD⟩, hS.F ht⟩) hS.2.2 d_M_regnal_79
      · refine lv_iload_n hx hb d_M_regnal_31 rfl (lv_at hl 2 rfl) ?_
        refine lv_iconst (v := 1) hx hb d_M_regnal_32 (by decide) ?_
        refine lv_isub hx hb d_M_regnal_33 ?_
        refine lv_aload_n hx hb d_M_regnal_34 rfl (lv_at hl 0 rfl) ?_
        refine va_get (D := D) (ci := 6) (v := .ref (a 8)) (C := "TimeWordsModel") (T := F_M) (N := 28) hx hb hw in_M hown hK hP 0 rfl rfl 8 (by decide) (hw _ fl_M_26) (fun _ h9 => h9) rfl d_M_regnal_35 ?_
        refine lv_iload_n hx hb d_M_regnal_38 rfl (lv_at hl 1 rfl) ?_
        refine va_iald hx hb hK hP 6 0 rfl rfl (by first | assumption | exact vp_in_nI (by omega) (by omega)) d_M_regnal_39 ?_
        rw [show (nI j).toNatClampNeg = j from nI_clamp (by omega)]
        refine lv_aload_n hx hb d_M_regnal_40 rfl (lv_at hl 0 rfl) ?_
        refine va_get (D := D) (ci := 6) (v := .ref (a 7)) (C := "TimeWordsModel") (T := F_M) (N := 28) hx hb hw in_M hown hK hP 0 rfl rfl 7 (by decide) (hw _ fl_M_23) (fun _ h9 => h9) rfl d_M_regnal_41 ?_
        refine lv_iload_n hx hb d_M_regnal_44 rfl (lv_at hl 1 rfl) ?_
        refine va_iald hx hb hK hP 5 0 rfl rfl (by first | assumption | exact vp_in_nI (by omega) (by omega)) d_M_regnal_45 ?_
        rw [show (nI j).toNatClampNeg = j from nI_clamp (by omega)]
        refine lv_isub hx hb d_M_regnal_46 ?_
        refine lv_icmp_le (tgt := 54) hx hb d_M_regnal_47 (by decide) (fun c6 => ?_) (fun c6 => ?_)
        · refine lv_iconst (v := 0) hx hb d_M_regnal_54 (by decide) ?_
          refine va_put (D := D) (ci := 6) (v := .int 0) (ty := .int) (C := "TimeWordsModel") (T := F_M) (N := 28) hx hb hw in_M ty_M ty_M_ok n_M hown hK hP hD hS 0 rfl rfl 0 (by decide) (hw _ fl_M_69) (fun _ h9 => h9) rfl (by decide +kernel) rfl rfl (Nat.le_of_ble_eq_true rfl) d_M_regnal_55 (fun H locs hP hD hS => ?_)
          have hP : va_P D gC (mX T o a 0 z2 (nI nn) z14 z18 z19 z20 z21 z24 z26 f1 f4 f5 f6 f7 f8 f9 f10 f11 f12 f13 f15 f16 f17 f22 f23 f25 f27) H := hP
          have hD : va_D A (mX T o a 0 z2 (nI nn) z14 z18 z19 z20 z21 z24 z26 f1 f4 f5 f6 f7 f8 f9 f10 f11 f12 f13 f15 f16 f17 f22 f23 f25 f27) := hD
          refine lv_aload_n hx hb d_M_regnal_58 rfl (lv_at hl 0 rfl) ?_
          refine va_get (D := D) (ci := 6) (v := .int 0) (C := "TimeWordsModel") (T := F_M) (N := 28) hx hb hw in_M hown hK hP 0 rfl rfl 0 (by decide) (hw _ fl_M_69) (fun _ h9 => h9) rfl d_M_regnal_59 ?_
          refine lv_if_le (tgt := 69) hx hb d_M_regnal_62 (by decide) (fun c7 => ?_) (fun c7 => absurd c7 (by decide))
          refine lv_aload_n hx hb d_M_regnal_69 rfl (lv_at hl 0 rfl) ?_
          refine va_get (D := D) (ci := 6) (v := .ref (a 7)) (C := "TimeWordsModel") (T := F_M) (N := 28) hx hb hw in_M hown hK hP 0 rfl rfl 7 (by decide) (hw _ fl_M_23) (fun _ h9 => h9) rfl d_M_regnal_70 ?_
          refine lv_iload_n hx hb d_M_regnal_73 rfl (lv_at hl 1 rfl) ?_
          refine va_iald hx hb hK hP 5 0 rfl rfl (by first | assumption | exact vp_in_nI (by omega) (by omega)) d_M_regnal_74 ?_
          rw [show (nI j).toNatClampNeg = j from nI_clamp (by omega)]
          refine lv_iload_n hx hb d_M_regnal_75 rfl (lv_at hl 2 rfl) ?_
          refine lv_iadd hx hb d_M_regnal_76 ?_
          refine lv_iconst (v := 1) hx hb d_M_regnal_77 (by decide) ?_
          refine lv_isub hx hb d_M_regnal_78 ?_
          exact W.iret (v := ((f7 j) + x) - 1) hx hb hr (fun t ht hW => ⟨⟨((f7 j) + x) - 1, 0, rfl, (Or.inr ⟨hix, j, hj, rfl, Or.inr (Or.inr ⟨by assumption, by assumption, by assumption, rfl, rfl⟩)⟩), by rw [ht]; exact hP, va_K.moved hW.alike hK, hD⟩, hS.F ht⟩) hS.2.2 d_M_regnal_79
        · refine lv_iconst (v := 3) hx hb d_M_regnal_50 (by decide) ?_
          refine lv_goto (tgt := 55) hx hb d_M_regnal_51 (by decide) ?_
          refine va_put (D := D) (ci := 6) (v := .int 3) (ty := .int) (C := "TimeWordsModel") (T := F_M) (N := 28) hx hb hw in_M ty_M ty_M_ok n_M hown hK hP hD hS 0 rfl rfl 0 (by decide) (hw _ fl_M_69) (fun _ h9 => h9) rfl (by decide +kernel) rfl rfl (Nat.le_of_ble_eq_true rfl) d_M_regnal_55 (fun H locs hP hD hS => ?_)
          have hP : va_P D gC (mX T o a 3 z2 (nI nn) z14 z18 z19 z20 z21 z24 z26 f1 f4 f5 f6 f7 f8 f9 f10 f11 f12 f13 f15 f16 f17 f22 f23 f25 f27) H := hP
          have hD : va_D A (mX T o a 3 z2 (nI nn) z14 z18 z19 z20 z21 z24 z26 f1 f4 f5 f6 f7 f8 f9 f10 f11 f12 f13 f15 f16 f17 f22 f23 f25 f27) := hD
          refine lv_aload_n hx hb d_M_regnal_58 rfl (lv_at hl 0 rfl) ?_
          refine va_get (D := D) (ci := 6) (v := .int 3) (C := "TimeWordsModel") (T := F_M) (N := 28) hx hb hw in_M hown hK hP 0 rfl rfl 0 (by decide) (hw _ fl_M_69) (fun _ h9 => h9) rfl d_M_regnal_59 ?_
          refine lv_if_le (tgt := 69) hx hb d_M_regnal_62 (by decide) (fun c8 => absurd c8 (by decide)) (fun c8 => ?_)
          refine lv_iconst (v := 0) hx hb d_M_regnal_65 (by decide) ?_
          refine lv_goto (tgt := 79) hx hb d_M_regnal_66 (by decide) ?_
          exact W.iret (v := 0) hx hb hr (fun t ht hW => ⟨⟨0, 3, rfl, (Or.inr ⟨hix, j, hj, rfl, Or.inr (Or.inl ⟨by assumption, by simp [*], rfl, rfl⟩)⟩), by rw [ht]; exact hP, va_K.moved hW.alike hK, hD⟩, hS.F ht⟩) hS.2.2 d_M_regnal_79
    · refine lv_iconst (v := 2) hx hb d_M_regnal_18 (by decide) ?_
      refine lv_goto (tgt := 55) hx hb d_M_regnal_19 (by decide) ?_
      refine va_put (D := D) (ci := 6) (v := .int 2) (ty := .int) (C := "TimeWordsModel") (T := F_M) (N := 28) hx hb hw in_M ty_M ty_M_ok n_M hown hK hP hD hS 0 rfl rfl 0 (by decide) (hw _ fl_M_69) (fun _ h9 => h9) rfl (by decide +kernel) rfl rfl (Nat.le_of_ble_eq_true rfl) d_M_regnal_55 (fun H locs hP hD hS => ?_)
      have hP : va_P D gC (mX T o a 2 z2 (nI nn) z14 z18 z19 z20 z21 z24 z26 f1 f4 f5 f6 f7 f8 f9 f10 f11 f12 f13 f15 f16 f17 f22 f23 f25 f27) H := hP
      have hD : va_D A (mX T o a 2 z2 (nI nn) z14 z18 z19 z20 z21 z24 z26 f1 f4 f5 f6 f7 f8 f9 f10 f11 f12 f13 f15 f16 f17 f22 f23 f25 f27) := hD
      refine lv_aload_n hx hb d_M_regnal_58 rfl (lv_at hl 0 rfl) ?_
      refine va_get (D := D) (ci := 6) (v := .int 2) (C := "TimeWordsModel") (T := F_M) (N := 28) hx hb hw in_M hown hK hP 0 rfl rfl 0 (by decide) (hw _ fl_M_69) (fun _ h9 => h9) rfl d_M_regnal_59 ?_
      refine lv_if_le (tgt := 69) hx hb d_M_regnal_62 (by decide) (fun c9 => absurd c9 (by decide)) (fun c9 => ?_)
      refine lv_iconst (v := 0) hx hb d_M_regnal_65 (by decide) ?_
      refine lv_goto (tgt := 79) hx hb d_M_regnal_66 (by decide) ?_
      exact W.iret (v := 0) hx hb hr (fun t ht hW => ⟨⟨0, 2, rfl, (Or.inr ⟨hix, j, hj, rfl, Or.inl ⟨by assumption, rfl, rfl⟩⟩), by rw [ht]; exact hP, va_K.moved hW.alike hK, hD⟩, hS.F ht⟩) hS.2.2 d_M_regnal_79
  · have c2 := b2i_f c2
    refine lv_iconst (v := 1) hx hb d_M_regnal_9 (by decide) ?_
    refine lv_goto (tgt := 55) hx hb d_M_regnal_10 (by decide) ?_
    refine va_put (D := D) (ci := 6) (v := .int 1) (ty := .int) (C := "TimeWordsModel") (T := F_M) (N := 28) hx hb hw in_M ty_M ty_M_ok n_M hown hK hP hD hS 0 rfl rfl 0 (by decide) (hw _ fl_M_69) (fun _ h9 => h9) rfl (by decide +kernel) rfl rfl (Nat.le_of_ble_eq_true rfl) d_M_regnal_55 (fun H locs hP hD hS => ?_)
    have hP : va_P D gC (mX T o a 1 z2 (nI nn) z14 z18 z19 z20 z21 z24 z26 f1 f4 f5 f6 f7 f8 f9 f10 f11 f12 f13 f15 f16 f17 f22 f23 f25 f27) H := hP
    have hD : va_D A (mX T o a 1 z2 (nI nn) z14 z18 z19 z20 z21 z24 z26 f1 f4 f5 f6 f7 f8 f9 f10 f11 f12 f13 f15 f16 f17 f22 f23 f25 f27) := hD
    refine lv_aload_n hx hb d_M_regnal_58 rfl (lv_at hl 0 rfl) ?_
    refine va_get (D := D) (ci := 6) (v := .int 1) (C := "TimeWordsModel") (T := F_M) (N := 28) hx hb hw in_M hown hK hP 0 rfl rfl 0 (by decide) (hw _ fl_M_69) (fun _ h9 => h9) rfl d_M_regnal_59 ?_
    refine lv_if_le (tgt := 69) hx hb d_M_regnal_62 (by decide) (fun c10 => absurd c10 (by decide)) (fun c10 => ?_)
    refine lv_iconst (v := 0) hx hb d_M_regnal_65 (by decide) ?_
    refine lv_goto (tgt := 79) hx hb d_M_regnal_66 (by decide) ?_
    exact W.iret (v := 0) hx hb hr (fun t ht hW => ⟨⟨0, 1, rfl, (Or.inl ⟨by assumption, rfl, rfl⟩), by rw [ht]; exact hP, va_K.moved hW.alike hK, hD⟩, hS.F ht⟩) hS.2.2 d_M_regnal_79

def j_rl4 (x y cv : Int32) : Int32 := if x ≤ cv then (if cv - 1 ≤ y then (if y = cv - 1 then 1 else 2) else 0) else 6
def j_rl3 (x y cv dv : Int32) : Int32 := if cv < x then j_rl4 x y cv else if y < dv then j_rl4 x y cv else 5
def j_rl2 (x y cv dv : Int32) : Int32 := if x < cv then j_rl3 x y cv dv else if dv < y then j_rl3 x y cv dv else 4
def j_rl (x y cv dv : Int32) : Int32 := if x = cv then (if y = dv then 3 else j_rl2 x y cv dv) else j_rl2 x y cv dv
set_option maxHeartbeats 4000000 in
set_option maxRecDepth 100000 in
theorem k_M_relation (l : Launch) (D : va_G) (T : gT) (o : Nat) (a : Nat → Nat) (z0 z2 z3 : Int32) (sn : Nat) (z18 z19 z20 z21 z24 z26 : Int32) (f1 f4 f5 f6 f7 f8 f9 f10 f11 f12 f13 f15 f16 f17 f22 f23 f25 f27 : Nat → Int32) (sz : Nat) (na nb : Int32) (hy0 : sn ≤ 60) : Met l y_M_relation (Cond.code y_M_relation b_M_relation 7 (some .int) :: bg_W) ({ frames := 1, cells := 0, slots := 0, locals := 21 }) (qP D T (mX T o a z0 z2 z3 (nI sn) z18 z19 z20 z21 z24 z26 f1 f4 f5 f6 f7 f8 f9 f10 f11 f12 f13 f15 f16 f17 f22 f23 f25 f27) [.ref o, .int na, .int nb] sz) (va_Qi (fun (r : Int32) (w0 : Int32) => ((j_ix na (nI sn) && j_ix nb (nI sn)) = false ∧ r = 0 ∧ w0 = 1) ∨ ((j_ix na (nI sn) && j_ix nb (nI sn)) = true ∧ ∃ i, i < sn ∧ na = nI i ∧ ∃ j, j < sn ∧ nb = nI j ∧ (((¬ f17 i = 0 ∨ ¬ f17 j = 0) ∧ r = 0 ∧ w0 = 2) ∨ (f17 i = 0 ∧ f17 j = 0 ∧ r = j_rl (f15 i) (f16 i) (f15 j) (f16 j) ∧ w0 = 0)))) (qB D T (va_A (mX T o a z0 z2 z3 (nI sn) z18 z19 z20 z21 z24 z26 f1 f4 f5 f6 f7 f8 f9 f10 f11 f12 f13 f15 f16 f17 f22 f23 f25 f27) sz) (fun w0 : Int32 => mX T o a w0 z2 z3 (nI sn) z18 z19 z20 z21 z24 z26 f1 f4 f5 f6 f7 f8 f9 f10 f11 f12 f13 f15 f16 f17 f22 f23 f25 f27)) (va_A (mX T o a z0 z2 z3 (nI sn) z18 z19 z20 z21 z24 z26 f1 f4 f5 f6 f7 f8 f9 f10 f11 f12 f13 f15 f16 f17 f22 f23 f25 f27) sz)) 0 0 (va_A (mX T o a z0 z2 z3 (nI sn) z18 z19 z20 z21 z24 z26 f1 f4 f5 f6 f7 f8 f9 f10 f11 f12 f13 f15 f16 f17 f22 f23 f25 f27) sz) := by
  refine Met.ofW (cc := b_M_relation) (maxL := 7) (ret := (some .int)) (by decide) rfl ?_
  intro p e s m args below meth c s₁ B hml hv
  obtain ⟨rfl, hsz, hP, hK, hD0⟩ := hv
  have hx := B.exec
  have hb := B.bytes
  have hr := B.returns
  have hw : ∀ w ∈ bg_W, w.before ([.ref o, .int na, .int nb] : List Value).toArray s = true := fun w h => atoms_spec (ws := (Cond.code y_M_relation b_M_relation 7 (some .int) :: bg_W)) B.pre w (List.mem_cons_of_mem _ h)
  have hown : s.vm.findClass "TimeWordsModel" = some m.cls := findClass_of_methodNamed B.named
  have hlocks := B.notSynchronized
  subst hsz
  have hD := hD0.self (sz := s.heap.size)
  generalize hAe : va_A (mX T o a z0 z2 z3 (nI sn) z18 z19 z20 z21 z24 z26 f1 f4 f5 f6 f7 f8 f9 f10 f11 f12 f13 f15 f16 f17 f22 f23 f25 f27) s.heap.size = A at hD ⊢
  have hA : ∀ q : Nat, s.heap.size ≤ q → A q := fun q h => by rw [← hAe]; exact Or.inr h
  have hS : va_S A s.heap s.heap [] := va_S.rf
  have hl := lv_entry ([.ref o, .int na, .int nb]) (n := 7) (Nat.le_of_ble_eq_true rfl)
  rw [lg_entry_eq]
  generalize (lg_sl ([.ref o, .int na, .int nb]) ++ List.replicate (7 - (lg_sl ([.ref o, .int na, .int nb])).length) Slot.unset).toArray = ls at hl ⊢
  have hl : lv_has ls 7 [(0, .ref o), (1, .int na), (2, .int nb)] := hl
  refine lv_aload_n hx hb d_M_relation_0 rfl (lv_at hl 0 rfl) ?_
  refine lv_aload_n hx hb d_M_relation_1 rfl (lv_at hl 0 rfl) ?_
  refine lv_iload_n hx hb d_M_relation_2 rfl (lv_at hl 1 rfl) ?_
  refine vp_callSi (va_Run.run (va_runV (As := [.int na]) (rest := [.ref o]) ⟨hx, hb, hml, hown, hw⟩ (k_M_isSpan l D T o a z0 z2 z3 (nI sn) z18 z19 z20 z21 z24 z26 f1 f4 f5 f6 f7 f8 f9 f10 f11 f12 f13 f15 f16 f17 f22 f23 f25 f27 na) (cwV 1 hw (bg_V ml_M_164 wi_M_isSpan wv_M_isSpan wz_M wc_M_isSpan) rfl rfl rfl (by decide +kernel) ⟨Nat.le_of_ble_eq_true rfl, Nat.le_of_ble_eq_true rfl⟩) ⟨sP_b, va_recv hK hP (ci := 6) (q0 := 0) rfl rfl, sP_p hP hK⟩ rfl rfl hl.1 rfl (lv_room (Nat.le_of_ble_eq_true rfl)) d_M_relation_3 ⟨Nat.le_of_ble_eq_true rfl, Nat.le_of_ble_eq_true rfl⟩)) (fun r1 hr1 => ?_)
  replace hr1 := hr1.symm; subst hr1
  refine lv_if_eq (tgt := 17) hx hb d_M_relation_6 (by decide) (fun c2 => ?_) (fun c2 => ?_)
  · have c2 := b2i_f c2
    refine lv_iconst (v := 1) hx hb d_M_relation_17 (by decide) ?_
    refine lv_goto (tgt := 44) hx hb d_M_relation_18 (by decide) ?_
    refine va_put (D := D) (ci := 6) (v := .int 1) (ty := .int) (C := "TimeWordsModel") (T := F_M) (N := 28) hx hb hw in_M ty_M ty_M_ok n_M hown hK hP hD hS 0 rfl rfl 0 (by decide) (hw _ fl_M_69) (fun _ h9 => h9) rfl (by decide +kernel) rfl rfl (Nat.le_of_ble_eq_true rfl) d_M_relation_44 (fun H locs hP hD hS => ?_)
    have hP : va_P D gC (mX T o a 1 z2 z3 (nI sn) z18 z19 z20 z21 z24 z26 f1 f4 f5 f6 f7 f8 f9 f10 f11 f12 f13 f15 f16 f17 f22 f23 f25 f27) H := hP
    have hD : va_D A (mX T o a 1 z2 z3 (nI sn) z18 z19 z20 z21 z24 z26 f1 f4 f5 f6 f7 f8 f9 f10 f11 f12 f13 f15 f16 f17 f22 f23 f25 f27) := hD
    refine lv_aload_n hx hb d_M_relation_47 rfl (lv_at hl 0 rfl) ?_
    refine va_get (D := D) (ci := 6) (v := .int 1) (C := "TimeWordsModel") (T := F_M) (N := 28) hx hb hw in_M hown hK hP 0 rfl rfl 0 (by decide) (hw _ fl_M_69) (fun _ h9 => h9) rfl d_M_relation_48 ?_
    refine lv_if_le (tgt := 56) hx hb d_M_relation_51 (by decide) (fun c3 => absurd c3 (by decide)) (fun c3 => ?_)
    refine lv_iconst (v := 0) hx hb d_M_relation_54 (by decide) ?_
    exact W.iret (v := 0) hx hb hr (fun t ht hW => ⟨⟨0, 1, rfl, (Or.inl ⟨by simp [*], rfl, rfl⟩), by rw [ht]; exact hP, va_K.moved hW.alike hK, hD⟩, hS.F ht⟩) hS.2.2 d_M_relation_55
  · have c2 := b2i_t c2
    have hxi := c2
    obtain ⟨i, hi, rfl⟩ := ix_of c2 (by omega)
    refine lv_aload_n hx hb d_M_relation_9 rfl (lv_at hl 0 rfl) ?_
    refine lv_iload_n hx hb d_M_relation_10 rfl (lv_at hl 2 rfl) ?_
    refine vp_callSi (va_Run.run (va_runV (As := [.int nb]) (rest := [.ref o]) ⟨hx, hb, hml, hown, hw⟩ (k_M_isSpan l D T o a z0 z2 z3 (nI sn) z18 z19 z20 z21 z24 z26 f1 f4 f5 f6 f7 f8 f9 f10 f11 f12 f13 f15 f16 f17 f22 f23 f25 f27 nb) (cwV 1 hw (bg_V ml_M_164 wi_M_isSpan wv_M_isSpan wz_M wc_M_isSpan) rfl rfl rfl (by decide +kernel) ⟨Nat.le_of_ble_eq_true rfl, Nat.le_of_ble_eq_true rfl⟩) ⟨sP_b, va_recv hK hP (ci := 6) (q0 := 0) rfl rfl, sP_p hP hK⟩ rfl rfl hl.1 rfl (lv_room (Nat.le_of_ble_eq_true rfl)) d_M_relation_11 ⟨Nat.le_of_ble_eq_true rfl, Nat.le_of_ble_eq_true rfl⟩)) (fun r4 hr4 => ?_)
    replace hr4 := hr4.symm; subst hr4
    refine lv_if_ne (tgt := 21) hx hb d_M_relation_14 (by decide) (fun c5 => ?_) (fun c5 => ?_)
    · have c5 := b2i_t c5
      have hxj := c5
      obtain ⟨j, hj, rfl⟩ := ix_of c5 (by omega)
      refine lv_aload_n hx hb d_M_relation_21 rfl (lv_at hl 0 rfl) ?_
      refine va_get (D := D) (ci := 6) (v := .ref (a 17)) (C := "TimeWordsModel") (T := F_M) (N := 28) hx hb hw in_M hown hK hP 0 rfl rfl 17 (by decide) (hw _ fl_M_50) (fun _ h9 => h9) rfl d_M_relation_22 ?_
      refine lv_iload_n hx hb d_M_relation_25 rfl (lv_at hl 1 rfl) ?_
      refine va_iald hx hb hK hP 14 0 rfl rfl (by first | assumption | exact vp_in_nI (by omega) (by omega)) d_M_relation_26 ?_
      rw [show (nI i).toNatClampNeg = i from nI_clamp (by omega)]
      refine lv_if_ne (tgt := 39) hx hb d_M_relation_27 (by decide) (fun c6 => ?_) (fun c6 => ?_)
      · refine lv_iconst (v := 2) hx hb d_M_relation_39 (by decide) ?_
        refine lv_goto (tgt := 44) hx hb d_M_relation_40 (by decide) ?_
        refine va_put (D := D) (ci := 6) (v := .int 2) (ty := .int) (C := "TimeWordsModel") (T := F_M) (N := 28) hx hb hw in_M ty_M ty_M_ok n_M hown hK hP hD hS 0 rfl rfl 0 (by decide) (hw _ fl_M_69) (fun _ h9 => h9) rfl (by decide +kernel) rfl rfl (Nat.le_of_ble_eq_true rfl) d_M_relation_44 (fun H locs hP hD hS => ?_)
        have hP : va_P D gC (mX T o a 2 z2 z3 (nI sn) z18 z19 z20 z21 z24 z26 f1 f4 f5 f6 f7 f8 f9 f10 f11 f12 f13 f15 f16 f17 f22 f23 f25 f27) H := hP
        have hD : va_D A (mX T o a 2 z2 z3 (nI sn) z18 z19 z20 z21 z24 z26 f1 f4 f5 f6 f7 f8 f9 f10 f11 f12 f13 f15 f16 f17 f22 f23 f25 f27) := hD
        refine lv_aload_n hx hb d_M_relation_47 rfl (lv_at hl 0 rfl) ?_
        refine va_get (D := D) (ci := 6) (v := .int 2) (C := "TimeWordsModel") (T := F_M) (N := 28) hx hb hw in_M hown hK hP 0 rfl rfl 0 (by decide) (hw _ fl_M_69) (fun _ h9 => h9) rfl d_M_relation_48 ?_
        refine lv_if_le (tgt := 56) hx hb d_M_relation_51 (by decide) (fun c7 => absurd c7 (by decide)) (fun c7 => ?_)
        refine lv_iconst (v := 0) hx hb d_M_relation_54 (by decide) ?_
        exact W.iret (v := 0) hx hb hr (fun t ht hW => ⟨⟨0, 2, rfl, (Or.inr ⟨by rw [hxi, hxj]; rfl, i, hi, rfl, j, hj, rfl, Or.inl ⟨by simp [*], rfl, rfl⟩⟩), by rw [ht]; exact hP, va_K.moved hW.alike hK, hD⟩, hS.F ht⟩) hS.2.2 d_M_relation_55
      · refine lv_aload_n hx hb d_M_relation_30 rfl (lv_at hl 0 rfl) ?_
        refine va_get (D := D) (ci := 6) (v := .ref (a 17)) (C := "TimeWordsModel") (T := F_M) (N := 28) hx hb hw in_M hown hK hP 0 rfl rfl 17 (by decide) (hw _ fl_M_50) (fun _ h9 => h9) rfl d_M_relation_31 ?_
        refine lv_iload_n hx hb d_M_relation_34 rfl (lv_at hl 2 rfl) ?_
        refine va_iald hx hb hK hP 14 0 rfl rfl (by first | assumption | exact vp_in_nI (by omega) (by omega)) d_M_relation_35 ?_
        rw [show (nI j).toNatClampNeg = j from nI_clamp (by omega)]
        refine lv_if_eq (tgt := 43) hx hb d_M_relation_36 (by decide) (fun c8 => ?_) (fun c8 => ?_)
        · have hi0 := c6
          have hj0 := c8
          refine lv_iconst (v := 0) hx hb d_M_relation_43 (by decide) ?_
          refine va_put (D := D) (ci := 6) (v := .int 0) (ty := .int) (C := "TimeWordsModel") (T := F_M) (N := 28) hx hb hw in_M ty_M ty_M_ok n_M hown hK hP hD hS 0 rfl rfl 0 (by decide) (hw _ fl_M_69) (fun _ h9 => h9) rfl (by decide +kernel) rfl rfl (Nat.le_of_ble_eq_true rfl) d_M_relation_44 (fun H locs hP hD hS => ?_)
          have hP : va_P D gC (mX T o a 0 z2 z3 (nI sn) z18 z19 z20 z21 z24 z26 f1 f4 f5 f6 f7 f8 f9 f10 f11 f12 f13 f15 f16 f17 f22 f23 f25 f27) H := hP
          have hD : va_D A (mX T o a 0 z2 z3 (nI sn) z18 z19 z20 z21 z24 z26 f1 f4 f5 f6 f7 f8 f9 f10 f11 f12 f13 f15 f16 f17 f22 f23 f25 f27) := hD
          refine lv_aload_n hx hb d_M_relation_47 rfl (lv_at hl 0 rfl) ?_
          refine va_get (D := D) (ci := 6) (v := .int 0) (C := "TimeWordsModel") (T := F_M) (N := 28) hx hb hw in_M hown hK hP 0 rfl rfl 0 (by decide) (hw _ fl_M_69) (fun _ h9 => h9) rfl d_M_relation_48 ?_
          refine lv_if_le (tgt := 56) hx hb d_M_relation_51 (by decide) (fun c9 => ?_) (fun c9 => absurd c9 (by decide))
          refine lv_aload_n hx hb d_M_relation_56 rfl (lv_at hl 0 rfl) ?_
          refine va_get (D := D) (ci := 6) (v := .ref (a 15)) (C := "TimeWordsModel") (T := F_M) (N := 28) hx hb hw in_M hown hK hP 0 rfl rfl 15 (by decide) (hw _ fl_M_44) (fun _ h9 => h9) rfl d_M_relation_57 ?_
          refine lv_iload_n hx hb d_M_relation_60 rfl (lv_at hl 1 rfl) ?_
          refine va_iald hx hb hK hP 12 0 rfl rfl (by first | assumption | exact vp_in_nI (by omega) (by omega)) d_M_relation_61 ?_
          rw [show (nI i).toNatClampNeg = i from nI_clamp (by omega)]
          refine lv_istore_n (lv' := [(3, .int (f15 i)), (0, .ref o), (1, .int (nI i)), (2, .int (nI j))]) hx hb d_M_relation_62 rfl hl (by decide) rfl (fun ls hl => ?_)
          refine lv_aload_n hx hb d_M_relation_63 rfl (lv_at hl 1 rfl) ?_
          refine va_get (D := D) (ci := 6) (v := .ref (a 16)) (C := "TimeWordsModel") (T := F_M) (N := 28) hx hb hw in_M hown hK hP 0 rfl rfl 16 (by decide) (hw _ fl_M_47) (fun _ h9 => h9) rfl d_M_relation_64 ?_
          refine lv_iload_n hx hb d_M_relation_67 rfl (lv_at hl 2 rfl) ?_
          refine va_iald hx hb hK hP 13 0 rfl rfl (by first | assumption | exact vp_in_nI (by omega) (by omega)) d_M_relation_68 ?_
          rw [show (nI i).toNatClampNeg = i from nI_clamp (by omega)]
          refine lv_istore (lv' := [(4, .int (f16 i)), (3, .int (f15 i)), (0, .ref o), (1, .int (nI i)), (2, .int (nI j))]) hx hb d_M_relation_69 hl (by decide) rfl (fun ls hl => ?_)
          refine lv_aload_n hx hb d_M_relation_71 rfl (lv_at hl 2 rfl) ?_
          refine va_get (D := D) (ci := 6) (v := .ref (a 15)) (C := "TimeWordsModel") (T := F_M) (N := 28) hx hb hw in_M hown hK hP 0 rfl rfl 15 (by decide) (hw _ fl_M_44) (fun _ h9 => h9) rfl d_M_relation_72 ?_
          refine lv_iload_n hx hb d_M_relation_75 rfl (lv_at hl 4 rfl) ?_
          refine va_iald hx hb hK hP 12 0 rfl rfl (by first | assumption | exact vp_in_nI (by omega) (by omega)) d_M_relation_76 ?_
          rw [show (nI j).toNatClampNeg = j from nI_clamp (by omega)]
          refine lv_istore (lv' := [(5, .int (f15 j)), (4, .int (f16 i)), (3, .int (f15 i)), (0, .ref o), (1, .int (nI i)), (2, .int (nI j))]) hx hb d_M_relation_77 hl (by decide) rfl (fun ls hl => ?_)
          refine lv_aload_n hx hb d_M_relation_79 rfl (lv_at hl 3 rfl) ?_
          refine va_get (D := D) (ci := 6) (v := .ref (a 16)) (C := "TimeWordsModel") (T := F_M) (N := 28) hx hb hw in_M hown hK hP 0 rfl rfl 16 (by decide) (hw _ fl_M_47) (fun _ h9 => h9) rfl d_M_relation_80 ?_
          refine lv_iload_n hx hb d_M_relation_83 rfl (lv_at hl 5 rfl) ?_
          refine va_iald hx hb hK hP 13 0 rfl rfl (by first | assumption | exact vp_in_nI (by omega) (by omega)) d_M_relation_84 ?_
          rw [show (nI j).toNatClampNeg = j from nI_clamp (by omega)]
          refine lv_istore (lv' := [(6, .int (f16 j)), (5, .int (f15 j)), (4, .int (f16 i)), (3, .int (f15 i)), (0, .ref o), (1, .int (nI i)), (2, .int (nI j))]) hx hb d_M_relation_85 hl (by decide) rfl (fun ls hl => ?_)
          refine lv_iload_n hx hb d_M_relation_87 rfl (lv_at hl 3 rfl) ?_
          refine lv_iload hx hb d_M_relation_88 (lv_at hl 1 rfl) ?_
          refine lv_icmp_ne (tgt := 102) hx hb d_M_relation_90 (by decide) (fun c10 => ?_) (fun c10 => ?_)
          · refine lv_iload_n hx hb d_M_relation_102 rfl (lv_at hl 3 rfl) ?_
            refine lv_iload hx hb d_M_relation_103 (lv_at hl 1 rfl) ?_
            refine lv_icmp_lt (tgt := 117) hx hb d_M_relation_105 (by decide) (fun c11 => ?_) (fun c11 => ?_)
            · refine lv_iload_n hx hb d_M_relation_117 rfl (lv_at hl 3 rfl) ?_
              refine lv_iload hx hb d_M_relation_118 (lv_at hl 1 rfl) ?_
              refine lv_icmp_gt (tgt := 132) hx hb d_M_relation_120 (by decide) (fun c12 => ?_) (fun c12 => ?_)
              · refine lv_iload_n hx hb d_M_relation_132 rfl (lv_at hl 3 rfl) ?_
                refine lv_iload hx hb d_M_relation_133 (lv_at hl 1 rfl) ?_
                refine lv_icmp_le (tgt := 143) hx hb d_M_relation_135 (by decide) (fun c13 => ?_) (fun c13 => ?_)
                · refine lv_iload hx hb d_M_relation_143 (lv_at hl 2 rfl) ?_
                  refine lv_iload hx hb d_M_relation_145 (lv_at hl 1 rfl) ?_
                  refine lv_iconst (v := 1) hx hb d_M_relation_147 (by decide) ?_
                  refine lv_isub hx hb d_M_relation_148 ?_
                  refine lv_icmp_ge (tgt := 156) hx hb d_M_relation_149 (by decide) (fun c14 => ?_) (fun c14 => ?_)
                  · refine lv_iload hx hb d_M_relation_156 (lv_at hl 2 rfl) ?_
                    refine lv_iload hx hb d_M_relation_158 (lv_at hl 1 rfl) ?_
                    refine lv_iconst (v := 1) hx hb d_M_relation_160 (by decide) ?_
                    refine lv_isub hx hb d_M_relation_161 ?_
                    refine lv_icmp_ne (tgt := 169) hx hb d_M_relation_162 (by decide) (fun c15 => ?_) (fun c15 => ?_)
                    · refine lv_iconst (v := 2) hx hb d_M_relation_169 (by decide) ?_
                      exact W.iret (v := 2) hx hb hr (fun t ht hW => ⟨⟨2, 0, rfl, (Or.inr ⟨by rw [hxi, hxj]; rfl, i, hi, rfl, j, hj, rfl, Or.inr ⟨hi0, hj0, (by simp only [j_rl, j_rl2, j_rl3, j_rl4, if_pos c8, decide_eq_true c8, if_neg c10, decide_eq_false c10, if_pos c11, decide_eq_true c11, if_pos c12, decide_eq_true c12, if_pos c13, decide_eq_true c13, if_pos c14, decide_eq_true c14, if_neg c15, decide_eq_false c15]), rfl⟩⟩), by rw [ht]; exact hP, va_K.moved hW.alike hK, hD⟩, hS.F ht⟩) hS.2.2 d_M_relation_170
                    · refine lv_iconst (v := 1) hx hb d_M_relation_165 (by decide) ?_
                      refine lv_goto (tgt := 170) hx hb d_M_relation_166 (by decide) ?_
                      exact W.iret (v := 1) hx hb hr (fun t ht hW => ⟨⟨1, 0, rfl, (Or.inr ⟨by rw [hxi, hxj]; rfl, i, hi, rfl, j, hj, rfl, Or.inr ⟨hi0, hj0, (by simp only [j_rl, j_rl2, j_rl3, j_rl4, if_pos c8, decide_eq_true c8, if_neg c10, decide_eq_false c10, if_pos c11, decide_eq_true c11, if_pos c12, decide_eq_true c12, if_pos c13, decide_eq_true c13, if_pos c14, decide_eq_true c14, if_pos c15, decide_eq_true c15]), rfl⟩⟩), by rw [ht]; exact hP, va_K.moved hW.alike hK, hD⟩, hS.F ht⟩) hS.2.2 d_M_relation_170
                  · refine lv_iconst (v := 0) hx hb d_M_relation_152 (by decide) ?_
                    refine lv_goto (tgt := 170) hx hb d_M_relation_153 (by decide) ?_
                    exact W.iret (v := 0) hx hb hr (fun t ht hW => ⟨⟨0, 0, rfl, (Or.inr ⟨by rw [hxi, hxj]; rfl, i, hi, rfl, j, hj, rfl, Or.inr ⟨hi0, hj0, (by simp only [j_rl, j_rl2, j_rl3, j_rl4, if_pos c8, decide_eq_true c8, if_neg c10, decide_eq_false c10, if_pos c11, decide_eq_true c11, if_pos c12, decide_eq_true c12, if_pos c13, decide_eq_true c13, if_neg c14, decide_eq_false c14]), rfl⟩⟩), by rw [ht]; exact hP, va_K.moved hW.alike hK, hD⟩, hS.F ht⟩) hS.2.2 d_M_relation_170
                · refine lv_bipush (v := 6) hx hb d_M_relation_138 (by decide) ?_
                  refine lv_goto (tgt := 170) hx hb d_M_relation_140 (by decide) ?_
                  exact W.iret (v := 6) hx hb hr (fun t ht hW => ⟨⟨6, 0, rfl, (Or.inr ⟨by rw [hxi, hxj]; rfl, i, hi, rfl, j, hj, rfl, Or.inr ⟨hi0, hj0, (by simp only [j_rl, j_rl2, j_rl3, j_rl4, if_pos c8, decide_eq_true c8, if_neg c10, decide_eq_false c10, if_pos c11, decide_eq_true c11, if_pos c12, decide_eq_true c12, if_neg c13, decide_eq_false c13]), rfl⟩⟩), by rw [ht]; exact hP, va_K.moved hW.alike hK, hD⟩, hS.F ht⟩) hS.2.2 d_M_relation_170
              · refine lv_iload hx hb d_M_relation_123 (lv_at hl 2 rfl) ?_
                refine lv_iload hx hb d_M_relation_125 (lv_at hl 0 rfl) ?_
                refine lv_icmp_lt (tgt := 132) hx hb d_M_relation_127 (by decide) (fun c16 => ?_) (fun c16 => ?_)
                · refine lv_iload_n hx hb d_M_relation_132 rfl (lv_at hl 3 rfl) ?_
                  refine lv_iload hx hb d_M_relation_133 (lv_at hl 1 rfl) ?_
                  refine lv_icmp_le (tgt := 143) hx hb d_M_relation_135 (by decide) (fun c17 => ?_) (fun c17 => ?_)
                  · refine lv_iload hx hb d_M_relation_143 (lv_at hl 2 rfl) ?_
                    refine lv_iload hx hb d_M_relation_145 (lv_at hl 1 rfl) ?_
                    refine lv_iconst (v := 1) hx hb d_M_relation_147 (by decide) ?_
                    refine lv_isub hx hb d_M_relation_148 ?_
                    refine lv_icmp_ge (tgt := 156) hx hb d_M_relation_149 (by decide) (fun c18 => ?_) (fun c18 => ?_)
                    · refine lv_iload hx hb d_M_relation_156 (lv_at hl 2 rfl) ?_
                      refine lv_iload hx hb d_M_relation_158 (lv_at hl 1 rfl) ?_
                      refine lv_iconst (v := 1) hx hb d_M_relation_160 (by decide) ?_
                      refine lv_isub hx hb d_M_relation_161 ?_
                      refine lv_icmp_ne (tgt := 169) hx hb d_M_relation_162 (by decide) (fun c19 => ?_) (fun c19 => ?_)
                      · refine lv_iconst (v := 2) hx hb d_M_relation_169 (by decide) ?_
                        exact W.iret (v := 2) hx hb hr (fun t ht hW => ⟨⟨2, 0, rfl, (Or.inr ⟨by rw [hxi, hxj]; rfl, i, hi, rfl, j, hj, rfl, Or.inr ⟨hi0, hj0, (by simp only [j_rl, j_rl2, j_rl3, j_rl4, if_pos c8, decide_eq_true c8, if_neg c10, decide_eq_false c10, if_pos c11, decide_eq_true c11, if_neg c12, decide_eq_false c12, if_pos c16, decide_eq_true c16, if_pos c17, decide_eq_true c17, if_pos c18, decide_eq_true c18, if_neg c19, decide_eq_false c19]), rfl⟩⟩), by rw [ht]; exact hP, va_K.moved hW.alike hK, hD⟩, hS.F ht⟩) hS.2.2 d_M_relation_170
                      · refine lv_iconst (v := 1) hx hb d_M_relation_165 (by decide) ?_
                        refine lv_goto (tgt := 170) hx hb d_M_relation_166 (by decide) ?_
                        exact W.iret (v := 1) hx hb hr (fun t ht hW => ⟨⟨1, 0, rfl, (Or.inr ⟨by rw [hxi, hxj]; rfl, i, hi, rfl, j, hj, rfl, Or.inr ⟨hi0, hj0, (by simp only [j_rl, j_rl2, j_rl3, j_rl4, if_pos c8, decide_eq_true c8, if_neg c10, decide_eq_false c10, if_pos c11, decide_eq_true c11, if_neg c12, decide_eq_false c12, if_pos c16, decide_eq_true c16, if_pos c17, decide_eq_true c17, if_pos c18, decide_eq_true c18, if_pos c19, decide_eq_true c19]), rfl⟩⟩), by rw [ht]; exact hP, va_K.moved hW.alike hK, hD⟩, hS.F ht⟩) hS.2.2 d_M_relation_170
                    · refine lv_iconst (v := 0) hx hb d_M_relation_152 (by decide) ?_
                      refine lv_goto (tgt := 170) hx hb d_M_relation_153 (by decide) ?_
                      exact W.iret (v := 0) hx hb hr (fun t ht hW => ⟨⟨0, 0, rfl, (Or.inr ⟨by rw [hxi, hxj]; rfl, i, hi, rfl, j, hj, rfl, Or.inr ⟨hi0, hj0, (by simp only [j_rl, j_rl2, j_rl3, j_rl4, if_pos c8, decide_eq_true c8, if_neg c10, decide_eq_false c10, if_pos c11, decide_eq_true c11, if_neg c12, decide_eq_false c12, if_pos c16, decide_eq_true c16, if_pos c17, decide_eq_true c17, if_neg c18, decide_eq_false c18]), rfl⟩⟩), by rw [ht]; exact hP, va_K.moved hW.alike hK, hD⟩, hS.F ht⟩) hS.2.2 d_M_relation_170
                  · refine lv_bipush (v := 6) hx hb d_M_relation_138 (by decide) ?_
                    refine lv_goto (tgt := 170) hx hb d_M_relation_140 (by decide) ?_
                    exact W.iret (v := 6) hx hb hr (fun t ht hW => ⟨⟨6, 0, rfl, (Or.inr ⟨by rw [hxi, hxj]; rfl, i, hi, rfl, j, hj, rfl, Or.inr ⟨hi0, hj0, (by simp only [j_rl, j_rl2, j_rl3, j_rl4, if_pos c8, decide_eq_true c8, if_neg c10, decide_eq_false c10, if_pos c11, decide_eq_true c11, if_neg c12, decide_eq_false c12, if_pos c16, decide_eq_true c16, if_neg c17, decide_eq_false c17]), rfl⟩⟩), by rw [ht]; exact hP, va_K.moved hW.alike hK, hD⟩, hS.F ht⟩) hS.2.2 d_M_relation_170
                · refine lv_iconst (v := 5) hx hb d_M_relation_130 (by decide) ?_
                  exact W.iret (v := 5) hx hb hr (fun t ht hW => ⟨⟨5, 0, rfl, (Or.inr ⟨by rw [hxi, hxj]; rfl, i, hi, rfl, j, hj, rfl, Or.inr ⟨hi0, hj0, (by simp only [j_rl, j_rl2, j_rl3, j_rl4, if_pos c8, decide_eq_true c8, if_neg c10, decide_eq_false c10, if_pos c11, decide_eq_true c11, if_neg c12, decide_eq_false c12, if_neg c16, decide_eq_false c16]), rfl⟩⟩), by rw [ht]; exact hP, va_K.moved hW.alike hK, hD⟩, hS.F ht⟩) hS.2.2 d_M_relation_131
            · refine lv_iload hx hb d_M_relation_108 (lv_at hl 2 rfl) ?_
              refine lv_iload hx hb d_M_relation_110 (lv_at hl 0 rfl) ?_
              refine lv_icmp_gt (tgt := 117) hx hb d_M_relation_112 (by decide) (fun c20 => ?_) (fun c20 => ?_)
              · refine lv_iload_n hx hb d_M_relation_117 rfl (lv_at hl 3 rfl) ?_
                refine lv_iload hx hb d_M_relation_118 (lv_at hl 1 rfl) ?_
                refine lv_icmp_gt (tgt := 132) hx hb d_M_relation_120 (by decide) (fun c21 => ?_) (fun c21 => ?_)
                · refine lv_iload_n hx hb d_M_relation_132 rfl (lv_at hl 3 rfl) ?_
                  refine lv_iload hx hb d_M_relation_133 (lv_at hl 1 rfl) ?_
                  refine lv_icmp_le (tgt := 143) hx hb d_M_relation_135 (by decide) (fun c22 => ?_) (fun c22 => ?_)
                  · refine lv_iload hx hb d_M_relation_143 (lv_at hl 2 rfl) ?_
                    refine lv_iload hx hb d_M_relation_145 (lv_at hl 1 rfl) ?_
                    refine lv_iconst (v := 1) hx hb d_M_relation_147 (by decide) ?_
                    refine lv_isub hx hb d_M_relation_148 ?_
                    refine lv_icmp_ge (tgt := 156) hx hb d_M_relation_149 (by decide) (fun c23 => ?_) (fun c23 => ?_)
                    · refine lv_iload hx hb d_M_relation_156 (lv_at hl 2 rfl) ?_
                      refine lv_iload hx hb d_M_relation_158 (lv_at hl 1 rfl) ?_
                      refine lv_iconst (v := 1) hx hb d_M_relation_160 (by decide) ?_
                      refine lv_isub hx hb d_M_relation_161 ?_
                      refine lv_icmp_ne (tgt := 169) hx hb d_M_relation_162 (by decide) (fun c24 => ?_) (fun c24 => ?_)
                      · refine lv_iconst (v := 2) hx hb d_M_relation_169 (by decide) ?_
                        exact W.iret (v := 2) hx hb hr (fun t ht hW => ⟨⟨2, 0, rfl, (Or.inr ⟨by rw [hxi, hxj]; rfl, i, hi, rfl, j, hj, rfl, Or.inr ⟨hi0, hj0, (by simp only [j_rl, j_rl2, j_rl3, j_rl4, if_pos c8, decide_eq_true c8, if_neg c10, decide_eq_false c10, if_neg c11, decide_eq_false c11, if_pos c20, decide_eq_true c20, if_pos c21, decide_eq_true c21, if_pos c22, decide_eq_true c22, if_pos c23, decide_eq_true c23, if_neg c24, decide_eq_false c24]), rfl⟩⟩), by rw [ht]; exact hP, va_K.moved hW.alike hK, hD⟩, hS.F ht⟩) hS.2.2 d_M_relation_170
                      · refine lv_iconst (v := 1) hx hb d_M_relation_165 (by decide) ?_
                        refine lv_goto (tgt := 170) hx hb d_M_relation_166 (by decide) ?_
                        exact W.iret (v := 1) hx hb hr (fun t ht hW => ⟨⟨1, 0, rfl, (Or.inr ⟨by rw [hxi, hxj]; rfl, i, hi, rfl, j, hj, rfl, Or.inr ⟨hi0, hj0, (by simp only [j_rl, j_rl2, j_rl3, j_rl4, if_pos c8, decide_eq_true c8, if_neg c10, decide_eq_false c10, if_neg c11, decide_eq_false c11, if_pos c20, decide_eq_true c20, if_pos c21, decide_eq_true c21, if_pos c22, decide_eq_true c22, if_pos c23, decide_eq_true c23, if_pos c24, decide_eq_true c24]), rfl⟩⟩), by rw [ht]; exact hP, va_K.moved hW.alike hK, hD⟩, hS.F ht⟩) hS.2.2 d_M_relation_170
                    · refine lv_iconst (v := 0) hx hb d_M_relation_152 (by decide) ?_
                      refine lv_goto (tgt := 170) hx hb d_M_relation_153 (by decide) ?_
                      exact W.iret (v := 0) hx hb hr (fun t ht hW => ⟨⟨0, 0, rfl, (Or.inr ⟨by rw [hxi, hxj]; rfl, i, hi, rfl, j, hj, rfl, Or.inr ⟨hi0, hj0, (by simp only [j_rl, j_rl2, j_rl3, j_rl4, if_pos c8, decide_eq_true c8, if_neg c10, decide_eq_false c10, if_neg c11, decide_eq_false c11, if_pos c20, decide_eq_true c20, if_pos c21, decide_eq_true c21, if_pos c22, decide_eq_true c22, if_neg c23, decide_eq_false c23]), rfl⟩⟩), by rw [ht]; exact hP, va_K.moved hW.alike hK, hD⟩, hS.F ht⟩) hS.2.2 d_M_relation_170
                  · refine lv_bipush (v := 6) hx hb d_M_relation_138 (by decide) ?_
                    refine lv_goto (tgt := 170) hx hb d_M_relation_140 (by decide) ?_
                    exact W.iret (v := 6) hx hb hr (fun t ht hW => ⟨⟨6, 0, rfl, (Or.inr ⟨by rw [hxi, hxj]; rfl, i, hi, rfl, j, hj, rfl, Or.inr ⟨hi0, hj0, (by simp only [j_rl, j_rl2, j_rl3, j_rl4, if_pos c8, decide_eq_true c8, if_neg c10, decide_eq_false c10, if_neg c11, decide_eq_false c11, if_pos c20, decide_eq_true c20, if_pos c21, decide_eq_true c21, if_neg c22, decide_eq_false c22]), rfl⟩⟩), by rw [ht]; exact hP, va_K.moved hW.alike hK, hD⟩, hS.F ht⟩) hS.2.2 d_M_relation_170
                · refine lv_iload hx hb d_M_relation_123 (lv_at hl 2 rfl) ?_
                  refine lv_iload hx hb d_M_relation_125 (lv_at hl 0 rfl) ?_
                  refine lv_icmp_lt (tgt := 132) hx hb d_M_relation_127 (by decide) (fun c25 => ?_) (fun c25 => ?_)
                  · refine lv_iload_n hx hb d_M_relation_132 rfl (lv_at hl 3 rfl) ?_
                    refine lv_iload hx hb d_M_relation_133 (lv_at hl 1 rfl) ?_
                    refine lv_icmp_le (tgt := 143) hx hb d_M_relation_135 (by decide) (fun c26 => ?_) (fun c26 => ?_)
                    · refine lv_iload hx hb d_M_relation_143 (lv_at hl 2 rfl) ?_
                      refine lv_iload hx hb d_M_relation_145 (lv_at hl 1 rfl) ?_
                      refine lv_iconst (v := 1) hx hb d_M_relation_147 (by decide) ?_
                      refine lv_isub hx hb d_M_relation_148 ?_
                      refine lv_icmp_ge (tgt := 156) hx hb d_M_relation_149 (by decide) (fun c27 => ?_) (fun c27 => ?_)
                      · refine lv_iload hx hb d_M_relation_156 (lv_at hl 2 rfl) ?_
                        refine lv_iload hx hb d_M_relation_158 (lv_at hl 1 rfl) ?_
                        refine lv_iconst (v := 1) hx hb d_M_relation_160 (by decide) ?_
                        refine lv_isub hx hb d_M_relation_161 ?_
                        refine lv_icmp_ne (tgt := 169) hx hb d_M_relation_162 (by decide) (fun c28 => ?_) (fun c28 => ?_)
                        · refine lv_iconst (v := 2) hx hb d_M_relation_169 (by decide) ?_
                          exact W.iret (v := 2) hx hb hr (fun t ht hW => ⟨⟨2, 0, rfl, (Or.inr ⟨by rw [hxi, hxj]; rfl, i, hi, rfl, j, hj, rfl, Or.inr ⟨hi0, hj0, (by simp only [j_rl, j_rl2, j_rl3, j_rl4, if_pos c8, decide_eq_true c8, if_neg c10, decide_eq_false c10, if_neg c11, decide_eq_false c11, if_pos c20, decide_eq_true c20, if_neg c21, decide_eq_false c21, if_pos c25, decide_eq_true c25, if_pos c26, decide_eq_true c26, if_pos c27, decide_eq_true c27, if_neg c28, decide_eq_false c28]), rfl⟩⟩), by rw [ht]; exact hP, va_K.moved hW.alike hK, hD⟩, hS.F ht⟩) hS.2.2 d_M_relation_170
                        · refine lv_iconst (v := 1) hx hb d_M_relation_165 (by decide) ?_
                          refine lv_goto (tgt := 170) hx hb d_M_relation_166 (by decide) ?_
                          exact W.iret (v := 1) hx hb hr (fun t ht hW => ⟨⟨1, 0, rfl, (Or.inr ⟨by rw [hxi, hxj]; rfl, i, hi, rfl, j, hj, rfl, Or.inr ⟨hi0, hj0, (by simp only [j_rl, j_rl2, j_rl3, j_rl4, if_pos c8, decide_eq_true c8, if_neg c10, decide_eq_false c10, if_neg c11, decide_eq_false c11, if_pos c20, decide_eq_true c20, if_neg c21, decide_eq_false c21, if_pos c25, decide_eq_true c25, if_pos c26, decide_eq_true c26, if_pos c27, decide_eq_true c27, if_pos c28, decide_eq_true c28]), rfl⟩⟩), by rw [ht]; exact hP, va_K.moved hW.alike hK, hD⟩, hS.F ht⟩) hS.2.2 d_M_relation_170
                      · refine lv_iconst (v := 0) hx hb d_M_relation_152 (by decide) ?_
                        refine lv_goto (tgt := 170) hx hb d_M_relation_153 (by decide) ?_
                        exact W.iret (v := 0) hx hb hr (fun t ht hW => ⟨⟨0, 0, rfl, (Or.inr ⟨by rw [hxi, hxj]; rfl, i, hi, rfl, j, hj, rfl, Or.inr ⟨hi0, hj0, (by simp only [j_rl, j_rl2, j_rl3, j_rl4, if_pos c8, decide_eq_true c8, if_neg c10, decide_eq_false c10, if_neg c11, decide_eq_false c11, if_pos c20, decide_eq_true c20, if_neg c21, decide_eq_false c21, if_pos c25, decide_eq_true c25, if_pos c26, decide_eq_true c26, if_neg c27, decide_eq_false c27]), rfl⟩⟩), by rw [ht]; exact hP, va_K.moved hW.alike hK, hD⟩, hS.F ht⟩) hS.2.2 d_M_relation_170
                    · refine lv_bipush (v := 6) hx hb d_M_relation_138 (by decide) ?_
                      refine lv_goto (tgt := 170) hx hb d_M_relation_140 (by decide) ?_
                      exact W.iret (v := 6) hx hb hr (fun t ht hW => ⟨⟨6, 0, rfl, (Or.inr ⟨by rw [hxi, hxj]; rfl, i, hi, rfl, j, hj, rfl, Or.inr ⟨hi0, hj0, (by simp only [j_rl, j_rl2, j_rl3, j_rl4, if_pos c8, decide_eq_true c8, if_neg c10, decide_eq_false c10, if_neg c11, decide_eq_false c11, if_pos c20, decide_eq_true c20, if_neg c21, decide_eq_false c21, if_pos c25, decide_eq_true c25, if_neg c26, decide_eq_false c26]), rfl⟩⟩), by rw [ht]; exact hP, va_K.moved hW.alike hK, hD⟩, hS.F ht⟩) hS.2.2 d_M_relation_170
                  · refine lv_iconst (v := 5) hx hb d_M_relation_130 (by decide) ?_
                    exact W.iret (v := 5) hx hb hr (fun t ht hW => ⟨⟨5, 0, rfl, (Or.inr ⟨by rw [hxi, hxj]; rfl, i, hi, rfl, j, hj, rfl, Or.inr ⟨hi0, hj0, (by simp only [j_rl, j_rl2, j_rl3, j_rl4, if_pos c8, decide_eq_true c8, if_neg c10, decide_eq_false c10, if_neg c11, decide_eq_false c11, if_pos c20, decide_eq_true c20, if_neg c21, decide_eq_false c21, if_neg c25, decide_eq_false c25]), rfl⟩⟩), by rw [ht]; exact hP, va_K.moved hW.alike hK, hD⟩, hS.F ht⟩) hS.2.2 d_M_relation_131
              · refine lv_iconst (v := 4) hx hb d_M_relation_115 (by decide) ?_
                exact W.iret (v := 4) hx hb hr (fun t ht hW => ⟨⟨4, 0, rfl, (Or.inr ⟨by rw [hxi, hxj]; rfl, i, hi, rfl, j, hj, rfl, Or.inr ⟨hi0, hj0, (by simp only [j_rl, j_rl2, j_rl3, j_rl4, if_pos c8, decide_eq_true c8, if_neg c10, decide_eq_false c10, if_neg c11, decide_eq_false c11, if_neg c20, decide_eq_false c20]), rfl⟩⟩), by rw [ht]; exact hP, va_K.moved hW.alike hK, hD⟩, hS.F ht⟩) hS.2.2 d_M_relation_116
          · refine lv_iload hx hb d_M_relation_93 (lv_at hl 2 rfl) ?_
            refine lv_iload hx hb d_M_relation_95 (lv_at hl 0 rfl) ?_
            refine lv_icmp_ne (tgt := 102) hx hb d_M_relation_97 (by decide) (fun c29 => ?_) (fun c29 => ?_)
            · refine lv_iload_n hx hb d_M_relation_102 rfl (lv_at hl 3 rfl) ?_
              refine lv_iload hx hb d_M_relation_103 (lv_at hl 1 rfl) ?_
              refine lv_icmp_lt (tgt := 117) hx hb d_M_relation_105 (by decide) (fun c30 => ?_) (fun c30 => ?_)
              · refine lv_iload_n hx hb d_M_relation_117 rfl (lv_at hl 3 rfl) ?_
                refine lv_iload hx hb d_M_relation_118 (lv_at hl 1 rfl) ?_
                refine lv_icmp_gt (tgt := 132) hx hb d_M_relation_120 (by decide) (fun c31 => ?_) (fun c31 => ?_)
                · refine lv_iload_n hx hb d_M_relation_132 rfl (lv_at hl 3 rfl) ?_
                  refine lv_iload hx hb d_M_relation_133 (lv_at hl 1 rfl) ?_
                  refine lv_icmp_le (tgt := 143) hx hb d_M_relation_135 (by decide) (fun c32 => ?_) (fun c32 => ?_)
                  · refine lv_iload hx hb d_M_relation_143 (lv_at hl 2 rfl) ?_
                    refine lv_iload hx hb d_M_relation_145 (lv_at hl 1 rfl) ?_
                    refine lv_iconst (v := 1) hx hb d_M_relation_147 (by decide) ?_
                    refine lv_isub hx hb d_M_relation_148 ?_
                    refine lv_icmp_ge (tgt := 156) hx hb d_M_relation_149 (by decide) (fun c33 => ?_) (fun c33 => ?_)
                    · refine lv_iload hx hb d_M_relation_156 (lv_at hl 2 rfl) ?_
                      refine lv_iload hx hb d_M_relation_158 (lv_at hl 1 rfl) ?_
                      refine lv_iconst (v := 1) hx hb d_M_relation_160 (by decide) ?_
                      refine lv_isub hx hb d_M_relation_161 ?_
                      refine lv_icmp_ne (tgt := 169) hx hb d_M_relation_162 (by decide) (fun c34 => ?_) (fun c34 => ?_)
                      · refine lv_iconst (v := 2) hx hb d_M_relation_169 (by decide) ?_
                        exact W.iret (v := 2) hx hb hr (fun t ht hW => ⟨⟨2, 0, rfl, (Or.inr ⟨by rw [hxi, hxj]; rfl, i, hi, rfl, j, hj, rfl, Or.inr ⟨hi0, hj0, (by simp only [j_rl, j_rl2, j_rl3, j_rl4, if_pos c8, decide_eq_true c8, if_pos c10, decide_eq_true c10, if_neg c29, decide_eq_false c29, if_pos c30, decide_eq_true c30, if_pos c31, decide_eq_true c31, if_pos c32, decide_eq_true c32, if_pos c33, decide_eq_true c33, if_neg c34, decide_eq_false c34]), rfl⟩⟩), by rw [ht]; exact hP, va_K.moved hW.alike hK, hD⟩, hS.F ht⟩) hS.2.2 d_M_relation_170
                      · refine lv_iconst (v := 1) hx hb d_M_relation_165 (by decide) ?_
                        refine lv_goto (tgt := 170) hx hb d_M_relation_166 (by decide) ?_
                        exact W.iret (v := 1) hx hb hr (fun t ht hW => ⟨⟨1, 0, rfl, (Or.inr ⟨by rw [hxi, hxj]; rfl, i, hi, rfl, j, hj, rfl, Or.inr ⟨hi0, hj0, (by simp only [j_rl, j_rl2, j_rl3, j_rl4, if_pos c8, decide_eq_true c8, if_pos c10, decide_eq_true c10, if_neg c29, decide_eq_false c29, if_pos c30, decide_eq_true c30, if_pos c31, decide_eq_true c31, if_pos c32, decide_eq_true c32, if_pos c33, decide_eq_true c33, if_pos c34, decide_eq_true c34]), rfl⟩⟩), by rw [ht]; exact hP, va_K.moved hW.alike hK, hD⟩, hS.F ht⟩) hS.2.2 d_M_relation_170
                    · refine lv_iconst (v := 0) hx hb d_M_relation_152 (by decide) ?_
                      refine lv_goto (tgt := 170) hx hb d_M_relation_153 (by decide) ?_
                      exact W.iret (v := 0) hx hb hr (fun t ht hW => ⟨⟨0, 0, rfl, (Or.inr ⟨by rw [hxi, hxj]; rfl, i, hi, rfl, j, hj, rfl, Or.inr ⟨hi0, hj0, (by simp only [j_rl, j_rl2, j_rl3, j_rl4, if_pos c8, decide_eq_true c8, if_pos c10, decide_eq_true c10, if_neg c29, decide_eq_false c29, if_pos c30, decide_eq_true c30, if_pos c31, decide_eq_true c31, if_pos c32, decide_eq_true c32, if_neg c33, decide_eq_false c33]), rfl⟩⟩), by rw [ht]; exact hP, va_K.moved hW.alike hK, hD⟩, hS.F ht⟩) hS.2.2 d_M_relation_170
                  · refine lv_bipush (v := 6) hx hb d_M_relation_138 (by decide) ?_
                    refine lv_goto (tgt := 170) hx hb d_M_relation_140 (by decide) ?_
                    exact W.iret (v := 6) hx hb hr (fun t ht hW => ⟨⟨6, 0, rfl, (Or.inr ⟨by rw [hxi, hxj]; rfl, i, hi, rfl, j, hj, rfl, Or.inr ⟨hi0, hj0, (by simp only [j_rl, j_rl2, j_rl3, j_rl4, if_pos c8, decide_eq_true c8, if_pos c10, decide_eq_true c10, if_neg c29, decide_eq_false c29, if_pos c30, decide_eq_true c30, if_pos c31, decide_eq_true c31, if_neg c32, decide_eq_false c32]), rfl⟩⟩), by rw [ht]; exact hP, va_K.moved hW.alike hK, hD⟩, hS.F ht⟩) hS.2.2 d_M_relation_170
                · refine lv_iload hx hb d_M_relation_123 (lv_at hl 2 rfl) ?_
                  refine lv_iload hx hb d_M_relation_125 (lv_at hl 0 rfl) ?_
                  refine lv_icmp_lt (tgt := 132) hx hb d_M_relation_127 (by decide) (fun c35 => ?_) (fun c35 => ?_)
                  · refine lv_iload_n hx hb d_M_relation_132 rfl (lv_at hl 3 rfl) ?_
                    refine lv_iload hx hb d_M_relation_133 (lv_at hl 1 rfl) ?_
                    refine lv_icmp_le (tgt := 143) hx hb d_M_relation_135 (by decide) (fun c36 => ?_) (fun c36 => ?_)
                    · refine lv_iload hx hb d_M_relation_143 (lv_at hl 2 rfl) ?_
                      refine lv_iload hx hb d_M_relation_145 (lv_at hl 1 rfl) ?_
                      refine lv_iconst (v := 1) hx hb d_M_relation_147 (by decide) ?_
                      refine lv_isub hx hb d_M_relation_148 ?_
                      refine lv_icmp_ge (tgt := 156) hx hb d_M_relation_149 (by decide) (fun c37 => ?_) (fun c37 => ?_)
                      · refine lv_iload hx hb d_M_relation_156 (lv_at hl 2 rfl) ?_
                        refine lv_iload hx hb d_M_relation_158 (lv_at hl 1 rfl) ?_
                        refine lv_iconst (v := 1) hx hb d_M_relation_160 (by decide) ?_
                        refine lv_isub hx hb d_M_relation_161 ?_
                        refine lv_icmp_ne (tgt := 169) hx hb d_M_relation_162 (by decide) (fun c38 => ?_) (fun c38 => ?_)
                        · refine lv_iconst (v := 2) hx hb d_M_relation_169 (by decide) ?_
                          exact W.iret (v := 2) hx hb hr (fun t ht hW => ⟨⟨2, 0, rfl, (Or.inr ⟨by rw [hxi, hxj]; rfl, i, hi, rfl, j, hj, rfl, Or.inr ⟨hi0, hj0, (by simp only [j_rl, j_rl2, j_rl3, j_rl4, if_pos c8, decide_eq_true c8, if_pos c10, decide_eq_true c10, if_neg c29, decide_eq_false c29, if_pos c30, decide_eq_true c30, if_neg c31, decide_eq_false c31, if_pos c35, decide_eq_true c35, if_pos c36, decide_eq_true c36, if_pos c37, decide_eq_true c37, if_neg c38, decide_eq_false c38]), rfl⟩⟩), by rw [ht]; exact hP, va_K.moved hW.alike hK, hD⟩, hS.F ht⟩) hS.2.2 d_M_relation_170
                        · refine lv_iconst (v := 1) hx hb d_M_relation_165 (by decide) ?_
                          refine lv_goto (tgt := 170) hx hb d_M_relation_166 (by decide) ?_
                          exact W.iret (v := 1) hx hb hr (fun t ht hW => ⟨⟨1, 0, rfl, (Or.inr ⟨by rw [hxi, hxj]; rfl, i, hi, rfl, j, hj, rfl, Or.inr ⟨hi0, hj0, (by simp only [j_rl, j_rl2, j_rl3, j_rl4, if_pos c8, decide_eq_true c8, if_pos c10, decide_eq_true c10, if_neg c29, decide_eq_false c29, if_pos c30, decide_eq_true c30, if_neg c31, decide_eq_false c31, if_pos c35, decide_eq_true c35, if_pos c36, decide_eq_true c36, if_pos c37, decide_eq_true c37, if_pos c38, decide_eq_true c38]), rfl⟩⟩), by rw [ht]; exact hP, va_K.moved hW.alike hK, hD⟩, hS.F ht⟩) hS.2.2 d_M_relation_170
                      · refine lv_iconst (v := 0) hx hb d_M_relation_152 (by decide) ?_
                        refine lv_goto (tgt := 170) hx hb d_M_relation_153 (by decide) ?_
                        exact W.iret (v := 0) hx hb hr (fun t ht hW => ⟨⟨0, 0, rfl, (Or.inr ⟨by rw [hxi, hxj]; rfl, i, hi, rfl, j, hj, rfl, Or.inr ⟨hi0, hj0, (by simp only [j_rl, j_rl2, j_rl3, j_rl4, if_pos c8, decide_eq_true c8, if_pos c10, decide_eq_true c10, if_neg c29, decide_eq_false c29, if_pos c30, decide_eq_true c30, if_neg c31, decide_eq_false c31, if_pos c35, decide_eq_true c35, if_pos c36, decide_eq_true c36, if_neg c37, decide_eq_false c37]), rfl⟩⟩), by rw [ht]; exact hP, va_K.moved hW.alike hK, hD⟩, hS.F ht⟩) hS.2.2 d_M_relation_170
                    · refine lv_bipush (v := 6) hx hb d_M_relation_138 (by decide) ?_
                      refine lv_goto (tgt := 170) hx hb d_M_relation_140 (by decide) ?_
                      exact W.iret (v := 6) hx hb hr (fun t ht hW => ⟨⟨6, 0, rfl, (Or.inr ⟨by rw [hxi, hxj]; rfl, i, hi, rfl, j, hj, rfl, Or.inr ⟨hi0, hj0, (by simp only [j_rl, j_rl2, j_rl3, j_rl4, if_pos c8, decide_eq_true c8, if_pos c10, decide_eq_true c10, if_neg c29, decide_eq_false c29, if_pos c30, decide_eq_true c30, if_neg c31, decide_eq_false c31, if_pos c35, decide_eq_true c35, if_neg c36, decide_eq_false c36]), rfl⟩⟩), by rw [ht]; exact hP, va_K.moved hW.alike hK, hD⟩, hS.F ht⟩) hS.2.2 d_M_relation_170
                  · refine lv_iconst (v := 5) hx hb d_M_relation_130 (by decide) ?_
                    exact W.iret (v := 5) hx hb hr (fun t ht hW => ⟨⟨5, 0, rfl, (Or.inr ⟨by rw [hxi, hxj]; rfl, i, hi, rfl, j, hj, rfl, Or.inr ⟨hi0, hj0, (by simp only [j_rl, j_rl2, j_rl3, j_rl4, if_pos c8, decide_eq_true c8, if_pos c10, decide_eq_true c10, if_neg c29, decide_eq_false c29, if_pos c30, decide_eq_true c30, if_neg c31, decide_eq_false c31, if_neg c35, decide_eq_false c35]), rfl⟩⟩), by rw [ht]; exact hP, va_K.moved hW.alike hK, hD⟩, hS.F ht⟩) hS.2.2 d_M_relation_131
              · refine lv_iload hx hb d_M_relation_108 (lv_at hl 2 rfl) ?_
                refine lv_iload hx hb d_M_relation_110 (lv_at hl 0 rfl) ?_
                refine lv_icmp_gt (tgt := 117) hx hb d_M_relation_112 (by decide) (fun c39 => ?_) (fun c39 => ?_)
                · refine lv_iload_n hx hb d_M_relation_117 rfl (lv_at hl 3 rfl) ?_
                  refine lv_iload hx hb d_M_relation_118 (lv_at hl 1 rfl) ?_
                  refine lv_icmp_gt (tgt := 132) hx hb d_M_relation_120 (by decide) (fun c40 => ?_) (fun c40 => ?_)
                  · refine lv_iload_n hx hb d_M_relation_132 rfl (lv_at hl 3 rfl) ?_
                    refine lv_iload hx hb d_M_relation_133 (lv_at hl 1 rfl) ?_
                    refine lv_icmp_le (tgt := 143) hx hb d_M_relation_135 (by decide) (fun c41 => ?_) (fun c41 => ?_)
                    · refine lv_iload hx hb d_M_relation_143 (lv_at hl 2 rfl) ?_
                      refine lv_iload hx hb d_M_relation_145 (lv_at hl 1 rfl) ?_
                      refine lv_iconst (v := 1) hx hb d_M_relation_147 (by decide) ?_
                      refine lv_isub hx hb d_M_relation_148 ?_
                      refine lv_icmp_ge (tgt := 156) hx hb d_M_relation_149 (by decide) (fun c42 => ?_) (fun c42 => ?_)
                      · refine lv_iload hx hb d_M_relation_156 (lv_at hl 2 rfl) ?_
                        refine lv_iload hx hb d_M_relation_158 (lv_at hl 1 rfl) ?_
                        refine lv_iconst (v := 1) hx hb d_M_relation_160 (by decide) ?_
                        refine lv_isub hx hb d_M_relation_161 ?_
                        refine lv_icmp_ne (tgt := 169) hx hb d_M_relation_162 (by decide) (fun c43 => ?_) (fun c43 => ?_)
                        · refine lv_iconst (v := 2) hx hb d_M_relation_169 (by decide) ?_
                          exact W.iret (v := 2) hx hb hr (fun t ht hW => ⟨⟨2, 0, rfl, (Or.inr ⟨by rw [hxi, hxj]; rfl, i, hi, rfl, j, hj, rfl, Or.inr ⟨hi0, hj0, (by simp only [j_rl, j_rl2, j_rl3, j_rl4, if_pos c8, decide_eq_true c8, if_pos c10, decide_eq_true c10, if_neg c29, decide_eq_false c29, if_neg c30, decide_eq_false c30, if_pos c39, decide_eq_true c39, if_pos c40, decide_eq_true c40, if_pos c41, decide_eq_true c41, if_pos c42, decide_eq_true c42, if_neg c43, decide_eq_false c43]), rfl⟩⟩), by rw [ht]; exact hP, va_K.moved hW.alike hK, hD⟩, hS.F ht⟩) hS.2.2 d_M_relation_170
                        · refine lv_iconst (v := 1) hx hb d_M_relation_165 (by decide) ?_
                          refine lv_goto (tgt := 170) hx hb d_M_relation_166 (by decide) ?_
                          exact W.iret (v := 1) hx hb hr (fun t ht hW => ⟨⟨1, 0, rfl, (Or.inr ⟨by rw [hxi, hxj]; rfl, i, hi, rfl, j, hj, rfl, Or.inr ⟨hi0, hj0, (by simp only [j_rl, j_rl2, j_rl3, j_rl4, if_pos c8, decide_eq_true c8, if_pos c10, decide_eq_true c10, if_neg c29, decide_eq_false c29, if_neg c30, decide_eq_false c30, if_pos c39, decide_eq_true c39, if_pos c40, decide_eq_true c40, if_pos c41, decide_eq_true c41, if_pos c42, decide_eq_true c42, if_pos c43, decide_eq_true c43]), rfl⟩⟩), by rw [ht]; exact hP, va_K.moved hW.alike hK, hD⟩, hS.F ht⟩) hS.2.2 d_M_relation_170
                      · refine lv_iconst (v := 0) hx hb d_M_relation_152 (by decide) ?_
                        refine lv_goto (tgt := 170) hx hb d_M_relation_153 (by decide) ?_
                        exact W.iret (v := 0) hx hb hr (fun t ht hW => ⟨⟨0, 0, rfl, (Or.inr ⟨by rw [hxi, hxj]; rfl, i, hi, rfl, j, hj, rfl, Or.inr ⟨hi0, hj0, (by simp only [j_rl, j_rl2, j_rl3, j_rl4, if_pos c8, decide_eq_true c8, if_pos c10, decide_eq_true c10, if_neg c29, decide_eq_false c29, if_neg c30, decide_eq_false c30, if_pos c39, decide_eq_true c39, if_pos c40, decide_eq_true c40, if_pos c41, decide_eq_true c41, if_neg c42, decide_eq_false c42]), rfl⟩⟩), by rw [ht]; exact hP, va_K.moved hW.alike hK, hD⟩, hS.F ht⟩) hS.2.2 d_M_relation_170
                    · refine lv_bipush (v := 6) hx hb d_M_relation_138 (by decide) ?_
                      refine lv_goto (tgt := 170) hx hb d_M_relation_140 (by decide) ?_
                      exact W.iret (v := 6) hx hb hr (fun t ht hW => ⟨⟨6, 0, rfl, (Or.inr ⟨by rw [hxi, hxj]; rfl, i, hi, rfl, j, hj, rfl, Or.inr ⟨hi0, hj0, (by simp only [j_rl, j_rl2, j_rl3, j_rl4, if_pos c8, decide_eq_true c8, if_pos c10, decide_eq_true c10, if_neg c29, decide_eq_false c29, if_neg c30, decide_eq_false c30, if_pos c39, decide_eq_true c39, if_pos c40, decide_eq_true c40, if_neg c41, decide_eq_false c41]), rfl⟩⟩), by rw [ht]; exact hP, va_K.moved hW.alike hK, hD⟩, hS.F ht⟩) hS.2.2 d_M_relation_170
                  · refine lv_iload hx hb d_M_relation_123 (lv_at hl 2 rfl) ?_
                    refine lv_iload hx hb d_M_relation_125 (lv_at hl 0 rfl) ?_
                    refine lv_icmp_lt (tgt := 132) hx hb d_M_relation_127 (by decide) (fun c44 => ?_) (fun c44 => ?_)
                    · refine lv_iload_n hx hb d_M_relation_132 rfl (lv_at hl 3 rfl) ?_
                      refine lv_iload hx hb d_M_relation_133 (lv_at hl 1 rfl) ?_
                      refine lv_icmp_le (tgt := 143) hx hb d_M_relation_135 (by decide) (fun c45 => ?_) (fun c45 => ?_)
                      · refine lv_iload hx hb d_M_relation_143 (lv_at hl 2 rfl) ?_
                        refine lv_iload hx hb d_M_relation_145 (lv_at hl 1 rfl) ?_
                        refine lv_iconst (v := 1) hx hb d_M_relation_147 (by decide) ?_
                        refine lv_isub hx hb d_M_relation_148 ?_
                        refine lv_icmp_ge (tgt := 156) hx hb d_M_relation_149 (by decide) (fun c46 => ?_) (fun c46 => ?_)
                        · refine lv_iload hx hb d_M_relation_156 (lv_at hl 2 rfl) ?_
                          refine lv_iload hx hb d_M_relation_158 (lv_at hl 1 rfl) ?_
                          refine lv_iconst (v := 1) hx hb d_M_relation_160 (by decide) ?_
                          refine lv_isub hx hb d_M_relation_161 ?_
                          refine lv_icmp_ne (tgt := 169) hx hb d_M_relation_162 (by decide) (fun c47 => ?_) (fun c47 => ?_)
                          · refine lv_iconst (v := 2) hx hb d_M_relation_169 (by decide) ?_
                            exact W.iret (v := 2) hx hb hr (fun t ht hW => ⟨⟨2, 0, rfl, (Or.inr ⟨by rw [hxi, hxj]; rfl, i, hi, rfl, j, hj, rfl, Or.inr ⟨hi0, hj0, (by simp only [j_rl, j_rl2, j_rl3, j_rl4, if_pos c8, decide_eq_true c8, if_pos c10, decide_eq_true c10, if_neg c29, decide_eq_false c29, if_neg c30, decide_eq_false c30, if_pos c39, decide_eq_true c39, if_neg c40, decide_eq_false c40, if_pos c44, decide_eq_true c44, if_pos c45, decide_eq_true c45, if_pos c46, decide_eq_true c46, if_neg c47, decide_eq_false c47]), rfl⟩⟩), by rw [ht]; exact hP, va_K.moved hW.alike hK, hD⟩, hS.F ht⟩) hS.2.2 d_M_relation_170
                          · refine lv_iconst (v := 1) hx hb d_M_relation_165 (by decide) ?_
                            refine lv_goto (tgt := 170) hx hb d_M_relation_166 (by decide) ?_
                            exact W.iret (v := 1) hx hb hr (fun t ht hW => ⟨⟨1, 0, rfl, (Or.inr ⟨by rw [hxi, hxj]; rfl, i, hi, rfl, j, hj, rfl, Or.inr ⟨hi0, hj0, (by simp only [j_rl, j_rl2, j_rl3, j_rl4, if_pos c8, decide_eq_true c8, if_pos c10, decide_eq_true c10, if_neg c29, decide_eq_false c29, if_neg c30, decide_eq_false c30, if_pos c39, decide_eq_true c39, if_neg c40, decide_eq_false c40, if_pos c44, decide_eq_true c44, if_pos c45, decide_eq_true c45, if_pos c46, decide_eq_true c46, if_pos c47, decide_eq_true c47]), rfl⟩⟩), by rw [ht]; exact hP, va_K.moved hW.alike hK, hD⟩, hS.F ht⟩) hS.2.2 d_M_relation_170
                        · refine lv_iconst (v := 0) hx hb d_M_relation_152 (by decide) ?_
                          refine lv_goto (tgt := 170) hx hb d_M_relation_153 (by decide) ?_
                          exact W.iret (v := 0) hx hb hr (fun t ht hW => ⟨⟨0, 0, rfl, (Or.inr ⟨by rw [hxi, hxj]; rfl, i, hi, rfl, j, hj, rfl, Or.inr ⟨hi0, hj0, (by simp only [j_rl, j_rl2, j_rl3, j_rl4, if_pos c8, decide_eq_true c8, if_pos c10, decide_eq_true c10, if_neg c29, decide_eq_false c29, if_neg c30, decide_eq_false c30, if_pos c39, decide_eq_true c39, if_neg c40, decide_eq_false c40, if_pos c44, decide_eq_true c44, if_pos c45, decide_eq_true c45, if_neg c46, decide_eq_false c46]), rfl⟩⟩), by rw [ht]; exact hP, va_K.moved hW.alike hK, hD⟩, hS.F ht⟩) hS.2.2 d_M_relation_170
                      · refine lv_bipush (v := 6) hx hb d_M_relation_138 (by decide) ?_
                        refine lv_goto (tgt := 170) hx hb d_M_relation_140 (by decide) ?_
                        exact W.iret (v := 6) hx hb hr (fun t ht hW => ⟨⟨6, 0, rfl, (Or.inr ⟨by rw [hxi, hxj]; rfl, i, hi, rfl, j, hj, rfl, Or.inr ⟨hi0, hj0, (by simp only [j_rl, j_rl2, j_rl3, j_rl4, if_pos c8, decide_eq_true c8, if_pos c10, decide_eq_true c10, if_neg c29, decide_eq_false c29, if_neg c30, decide_eq_false c30, if_pos c39, decide_eq_true c39, if_neg c40, decide_eq_false c40, if_pos c44, decide_eq_true c44, if_neg c45, decide_eq_false c45]), rfl⟩⟩), by rw [ht]; exact hP, va_K.moved hW.alike hK, hD⟩, hS.F ht⟩) hS.2.2 d_M_relation_170
                    · refine lv_iconst (v := 5) hx hb d_M_relation_130 (by decide) ?_
                      exact W.iret (v := 5) hx hb hr (fun t ht hW => ⟨⟨5, 0, rfl, (Or.inr ⟨by rw [hxi, hxj]; rfl, i, hi, rfl, j, hj, rfl, Or.inr ⟨hi0, hj0, (by simp only [j_rl, j_rl2, j_rl3, j_rl4, if_pos c8, decide_eq_true c8, if_pos c10, decide_eq_true c10, if_neg c29, decide_eq_false c29, if_neg c30, decide_eq_false c30, if_pos c39, decide_eq_true c39, if_neg c40, decide_eq_false c40, if_neg c44, decide_eq_false c44]), rfl⟩⟩), by rw [ht]; exact hP, va_K.moved hW.alike hK, hD⟩, hS.F ht⟩) hS.2.2 d_M_relation_131
                · refine lv_iconst (v := 4) hx hb d_M_relation_115 (by decide) ?_
                  exact W.iret (v := 4) hx hb hr (fun t ht hW => ⟨⟨4, 0, rfl, (Or.inr ⟨by rw [hxi, hxj]; rfl, i, hi, rfl, j, hj, rfl, Or.inr ⟨hi0, hj0, (by simp only [j_rl, j_rl2, j_rl3, j_rl4, if_pos c8, decide_eq_true c8, if_pos c10, decide_eq_true c10, if_neg c29, decide_eq_false c29, if_neg c30, decide_eq_false c30, if_neg c39, decide_eq_false c39]), rfl⟩⟩), by rw [ht]; exact hP, va_K.moved hW.alike hK, hD⟩, hS.F ht⟩) hS.2.2 d_M_relation_116
            · refine lv_iconst (v := 3) hx hb d_M_relation_100 (by decide) ?_
              exact W.iret (v := 3) hx hb hr (fun t ht hW => ⟨⟨3, 0, rfl, (Or.inr ⟨by rw [hxi, hxj]; rfl, i, hi, rfl, j, hj, rfl, Or.inr ⟨hi0, hj0, (by simp only [j_rl, j_rl2, j_rl3, j_rl4, if_pos c8, decide_eq_true c8, if_pos c10, decide_eq_true c10, if_pos c29, decide_eq_true c29]), rfl⟩⟩), by rw [ht]; exact hP, va_K.moved hW.alike hK, hD⟩, hS.F ht⟩) hS.2.2 d_M_relation_101
        · refine lv_iconst (v := 2) hx hb d_M_relation_39 (by decide) ?_
          refine lv_goto (tgt := 44) hx hb d_M_relation_40 (by decide) ?_
          refine va_put (D := D) (ci := 6) (v := .int 2) (ty := .int) (C := "TimeWordsModel") (T := F_M) (N := 28) hx hb hw in_M ty_M ty_M_ok n_M hown hK hP hD hS 0 rfl rfl 0 (by decide) (hw _ fl_M_69) (fun _ h9 => h9) rfl (by decide +kernel) rfl rfl (Nat.le_of_ble_eq_true rfl) d_M_relation_44 (fun H locs hP hD hS => ?_)
          have hP : va_P D gC (mX T o a 2 z2 z3 (nI sn) z18 z19 z20 z21 z24 z26 f1 f4 f5 f6 f7 f8 f9 f10 f11 f12 f13 f15 f16 f17 f22 f23 f25 f27) H := hP
          have hD : va_D A (mX T o a 2 z2 z3 (nI sn) z18 z19 z20 z21 z24 z26 f1 f4 f5 f6 f7 f8 f9 f10 f11 f12 f13 f15 f16 f17 f22 f23 f25 f27) := hD
          refine lv_aload_n hx hb d_M_relation_47 rfl (lv_at hl 0 rfl) ?_
          refine va_get (D := D) (ci := 6) (v := .int 2) (C := "TimeWordsModel") (T := F_M) (N := 28) hx hb hw in_M hown hK hP 0 rfl rfl 0 (by decide) (hw _ fl_M_69) (fun _ h9 => h9) rfl d_M_relation_48 ?_
          refine lv_if_le (tgt := 56) hx hb d_M_relation_51 (by decide) (fun c48 => absurd c48 (by decide)) (fun c48 => ?_)
          refine lv_iconst (v := 0) hx hb d_M_relation_54 (by decide) ?_
          exact W.iret (v := 0) hx hb hr (fun t ht hW => ⟨⟨0, 2, rfl, (Or.inr ⟨by rw [hxi, hxj]; rfl, i, hi, rfl, j, hj, rfl, Or.inl ⟨by simp [*], rfl, rfl⟩⟩), by rw [ht]; exact hP, va_K.moved hW.alike hK, hD⟩, hS.F ht⟩) hS.2.2 d_M_relation_55
    · have c5 := b2i_f c5
      refine lv_iconst (v := 1) hx hb d_M_relation_17 (by decide) ?_
      refine lv_goto (tgt := 44) hx hb d_M_relation_18 (by decide) ?_
      refine va_put (D := D) (ci := 6) (v := .int 1) (ty := .int) (C := "TimeWordsModel") (T := F_M) (N := 28) hx hb hw in_M ty_M ty_M_ok n_M hown hK hP hD hS 0 rfl rfl 0 (by decide) (hw _ fl_M_69) (fun _ h9 => h9) rfl (by decide +kernel) rfl rfl (Nat.le_of_ble_eq_true rfl) d_M_relation_44 (fun H locs hP hD hS => ?_)
      have hP : va_P D gC (mX T o a 1 z2 z3 (nI sn) z18 z19 z20 z21 z24 z26 f1 f4 f5 f6 f7 f8 f9 f10 f11 f12 f13 f15 f16 f17 f22 f23 f25 f27) H := hP
      have hD : va_D A (mX T o a 1 z2 z3 (nI sn) z18 z19 z20 z21 z24 z26 f1 f4 f5 f6 f7 f8 f9 f10 f11 f12 f13 f15 f16 f17 f22 f23 f25 f27) := hD
      refine lv_aload_n hx hb d_M_relation_47 rfl (lv_at hl 0 rfl) ?_
      refine va_get (D := D) (ci := 6) (v := .int 1) (C := "TimeWordsModel") (T := F_M) (N := 28) hx hb hw in_M hown hK hP 0 rfl rfl 0 (by decide) (hw _ fl_M_69) (fun _ h9 => h9) rfl d_M_relation_48 ?_
      refine lv_if_le (tgt := 56) hx hb d_M_relation_51 (by decide) (fun c49 => absurd c49 (by decide)) (fun c49 => ?_)
      refine lv_iconst (v := 0) hx hb d_M_relation_54 (by decide) ?_
      exact W.iret (v := 0) hx hb hr (fun t ht hW => ⟨⟨0, 1, rfl, (Or.inl ⟨by simp [*], rfl, rfl⟩), by rw [ht]; exact hP, va_K.moved hW.alike hK, hD⟩, hS.F ht⟩) hS.2.2 d_M_relation_55
