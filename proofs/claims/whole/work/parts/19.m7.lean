set_option maxHeartbeats 4000000 in
set_option maxRecDepth 100000 in
theorem k_M_isWord (l : Launch) (D : va_G) (T : gT) (o : Nat) (a : Nat → Nat) (z0 : Int32) (pn nn : Nat) (z14 z18 z19 z20 z21 z24 z26 : Int32) (f1 f4 f5 f6 f7 f8 f9 f10 f11 f12 f13 f15 f16 f17 f22 f23 f25 f27 : Nat → Int32) (sz : Nat) (pl dy : Int32) (ln ck : Nat → Nat) (co : Nat → Option jS) (hy0 : pn ≤ 24) (hy1 : nn ≤ 24) (hy2 : ∀ i, f5 i = nI (ln i)) (hy3 : ∀ i, ln i ≤ 8) (hy4 : ∀ i, f9 i = nI (ck i)) (hy5 : ∀ i, ck i ≤ 6) (hy6 : ∀ t9, j_ce f1 pn t9 = true → co t9 = if j_cv f1 pn t9 ≤ 0 then none else some (100 * (j_cv f1 pn t9 - 1) + 1, 100 * j_cv f1 pn t9, 0)) (hy7 : ∀ t9, j_ce f1 pn t9 = false → (∀ i, i < nn → ¬ j_mt f1 f4 ln pn t9 i) → co t9 = none) (hy8 : ∀ t9, j_ce f1 pn t9 = false → ∀ i, i < nn → j_mt f1 f4 ln pn t9 i → co t9 = j_nv f6 f7 f8 f10 f11 f12 f13 ck pl dy i) : Met l y_M_isWord (Cond.code y_M_isWord b_M_isWord 8 (some .boolean) :: bg_W) ({ frames := 3, cells := 0, slots := 0, locals := 73 }) (qP D T (mX T o a z0 (nI pn) (nI nn) z14 z18 z19 z20 z21 z24 z26 f1 f4 f5 f6 f7 f8 f9 f10 f11 f12 f13 f15 f16 f17 f22 f23 f25 f27) [.ref o, .int pl, .int dy] sz) (va_Qi (fun (r : Int32) (u : Int32 × Int32 × Int32 × (Nat → Int32)) => match u with | (w19, w20, w21, g22) => (r = 1 ∧ j_wd (j_fb f1 pn) co (j_ap z18) 5 0 = some (w19, w20, w21)) ∨ (r = 0 ∧ j_wd (j_fb f1 pn) co (j_ap z18) 5 0 = none)) (qB D T (va_A (mX T o a z0 (nI pn) (nI nn) z14 z18 z19 z20 z21 z24 z26 f1 f4 f5 f6 f7 f8 f9 f10 f11 f12 f13 f15 f16 f17 f22 f23 f25 f27) sz) (fun u : Int32 × Int32 × Int32 × (Nat → Int32) => match u with | (w19, w20, w21, g22) => mX T o a z0 (nI pn) (nI nn) z14 z18 w19 w20 w21 z24 z26 f1 f4 f5 f6 f7 f8 f9 f10 f11 f12 f13 f15 f16 f17 g22 f23 f25 f27)) (va_A (mX T o a z0 (nI pn) (nI nn) z14 z18 z19 z20 z21 z24 z26 f1 f4 f5 f6 f7 f8 f9 f10 f11 f12 f13 f15 f16 f17 f22 f23 f25 f27) sz)) 0 0 (va_A (mX T o a z0 (nI pn) (nI nn) z14 z18 z19 z20 z21 z24 z26 f1 f4 f5 f6 f7 f8 f9 f10 f11 f12 f13 f15 f16 f17 f22 f23 f25 f27) sz) := by
  refine Met.ofW (cc := b_M_isWord) (maxL := 8) (ret := (some .boolean)) (by decide) rfl ?_
  intro p e s m args below meth c s₁ B hml hv
  obtain ⟨rfl, hsz, hP, hK, hD0⟩ := hv
  have hx := B.exec
  have hb := B.bytes
  have hr := B.returns
  have hw : ∀ w ∈ bg_W, w.before ([.ref o, .int pl, .int dy] : List Value).toArray s = true := fun w h => atoms_spec (ws := (Cond.code y_M_isWord b_M_isWord 8 (some .boolean) :: bg_W)) B.pre w (List.mem_cons_of_mem _ h)
  have hown : s.vm.findClass "TimeWordsModel" = some m.cls := findClass_of_methodNamed B.named
  have hlocks := B.notSynchronized
  subst hsz
  have hD := hD0.self (sz := s.heap.size)
  generalize hAe : va_A (mX T o a z0 (nI pn) (nI nn) z14 z18 z19 z20 z21 z24 z26 f1 f4 f5 f6 f7 f8 f9 f10 f11 f12 f13 f15 f16 f17 f22 f23 f25 f27) s.heap.size = A at hD ⊢
  have hA : ∀ q : Nat, s.heap.size ≤ q → A q := fun q h => by rw [← hAe]; exact Or.inr h
  have hS : va_S A s.heap s.heap [] := va_S.rf
  have hl := lv_entry ([.ref o, .int pl, .int dy]) (n := 8) (Nat.le_of_ble_eq_true rfl)
  rw [lg_entry_eq]
  generalize (lg_sl ([.ref o, .int pl, .int dy]) ++ List.replicate (8 - (lg_sl ([.ref o, .int pl, .int dy])).length) Slot.unset).toArray = ls at hl ⊢
  have hl : lv_has ls 8 [(0, .ref o), (1, .int pl), (2, .int dy)] := hl
  obtain ⟨W9, hW9⟩ : ∃ q9, q9 = j_wd (j_fb f1 pn) co (j_ap z18) 5 0 := ⟨_, rfl⟩
  refine lv_iconst (v := 0) hx hb d_M_isWord_0 (by decide) ?_
  refine lv_istore_n (lv' := [(3, .int 0), (0, .ref o), (1, .int pl), (2, .int dy)]) hx hb d_M_isWord_1 rfl hl (by decide) rfl (fun ls hl => ?_)
  refine lv_iconst (v := 0) hx hb d_M_isWord_2 (by decide) ?_
  refine lv_istore (lv' := [(4, .int 0), (3, .int 0), (0, .ref o), (1, .int pl), (2, .int dy)]) hx hb d_M_isWord_3 hl (by decide) rfl (fun ls hl => ?_)
  refine lv_iconst (v := 1) hx hb d_M_isWord_5 (by decide) ?_
  refine lv_istore (lv' := [(5, .int 1), (4, .int 0), (3, .int 0), (0, .ref o), (1, .int pl), (2, .int dy)]) hx hb d_M_isWord_6 hl (by decide) rfl (fun ls hl => ?_)
  have loop : ∀ (n : Nat) (t n9 mq : Nat) (bs : Nat → Nat) (g22 : Nat → Int32), (t ≤ pn) → (∀ i, i < n9 → g22 i = nI (bs i) ∧ bs i < 6) → ((mq = 1 ∧ n9 ≤ 5 ∧ W9 = j_un (j_ap z18) bs n9 (j_wd (j_fb f1 pn) co (j_ap z18) (5 - n9) t)) ∨ (mq = 1 ∧ n9 = 6 ∧ W9 = none) ∨ (mq = 0 ∧ n9 ≤ 5 ∧ W9 = j_un (j_ap z18) bs n9 (co t))) → ∀ (H : Heap) (locs : List Loc), va_P D gC (mX T o a z0 (nI pn) (nI nn) z14 z18 z19 z20 z21 z24 z26 f1 f4 f5 f6 f7 f8 f9 f10 f11 f12 f13 f15 f16 f17 g22 f23 f25 f27) H → va_D A (mX T o a z0 (nI pn) (nI nn) z14 z18 z19 z20 z21 z24 z26 f1 f4 f5 f6 f7 f8 f9 f10 f11 f12 f13 f15 f16 f17 g22 f23 f25 f27) → va_S A s.heap H locs → ∀ (ls : Array Slot), lv_has ls 8 [(0, .ref o), (1, .int pl), (2, .int dy), (3, .int (nI t)), (4, .int (nI n9)), (5, .int (nI mq))] → 12 - 2 * n9 + mq < n → W p l e (headSpec (Cond.code y_M_isWord b_M_isWord 8 (some .boolean) :: bg_W) ({ frames := 3, cells := 0, slots := 0, locals := 73 })).room s m ([.ref o, .int pl, .int dy] : List Value).toArray below meth c H locs 0 0 (MQ below (va_Qi (fun (r : Int32) (u : Int32 × Int32 × Int32 × (Nat → Int32)) => match u with | (w19, w20, w21, g22) => (r = 1 ∧ j_wd (j_fb f1 pn) co (j_ap z18) 5 0 = some (w19, w20, w21)) ∨ (r = 0 ∧ j_wd (j_fb f1 pn) co (j_ap z18) 5 0 = none)) (qB D T A (fun u : Int32 × Int32 × Int32 × (Nat → Int32) => match u with | (w19, w20, w21, g22) => mX T o a z0 (nI pn) (nI nn) z14 z18 w19 w20 w21 z24 z26 f1 f4 f5 f6 f7 f8 f9 f10 f11 f12 f13 f15 f16 f17 g22 f23 f25 f27)) A) ([.ref o, .int pl, .int dy] : List Value).toArray s 0 0 A) (F0 m 8 ls []) := by
    intro n
    induction n with
    | zero => intro t n9 mq bs g22 ht9 hg hI H locs hP hD hS ls hl hm; exact absurd hm (Nat.not_lt_zero _)
    | succ n ih =>
      intro t n9 mq bs g22 ht9 hg hI H locs hP hD hS ls hl hm
      rcases hI with hJ | hJ | hJ
      · obtain ⟨rfl, hn5, hWD⟩ := hJ
        refine lv_iload hx hb d_M_isWord_8 (lv_at hl 5 rfl) ?_
        refine lv_if_eq (tgt := 83) hx hb d_M_isWord_10 (by decide) (fun c1 => absurd c1 (by decide)) (fun c1 => ?_)
        refine lv_iload hx hb d_M_isWord_13 (lv_at hl 4 rfl) ?_
        refine lv_bipush (v := 6) hx hb d_M_isWord_15 (by decide) ?_
        refine lv_icmp_ge (tgt := 83) hx hb d_M_isWord_17 (by decide) (fun c2 => absurd c2 (nI_ge (a := n9) (b := 6) (by omega) (by decide))) (fun c2 => ?_)
        refine lv_iconst (v := 0) hx hb d_M_isWord_20 (by decide) ?_
        refine lv_istore (lv' := [(5, .int 0), (0, .ref o), (1, .int pl), (2, .int dy), (3, .int (nI t)), (4, .int (nI n9))]) hx hb d_M_isWord_21 hl (by decide) rfl (fun ls hl => ?_)
        refine lv_iconst (v := 0) hx hb d_M_isWord_23 (by decide) ?_
        refine lv_istore (lv' := [(6, .int 0), (5, .int 0), (0, .ref o), (1, .int pl), (2, .int dy), (3, .int (nI t)), (4, .int (nI n9))]) hx hb d_M_isWord_24 hl (by decide) rfl (fun ls hl => ?_)
        have lopb : ∀ (nb : Nat) (b : Nat), (b ≤ 6) → (∀ i, i < b → ¬ j_bp f1 pn t i) → ∀ (H : Heap) (locs : List Loc), va_P D gC (mX T o a z0 (nI pn) (nI nn) z14 z18 z19 z20 z21 z24 z26 f1 f4 f5 f6 f7 f8 f9 f10 f11 f12 f13 f15 f16 f17 g22 f23 f25 f27) H → va_D A (mX T o a z0 (nI pn) (nI nn) z14 z18 z19 z20 z21 z24 z26 f1 f4 f5 f6 f7 f8 f9 f10 f11 f12 f13 f15 f16 f17 g22 f23 f25 f27) → va_S A s.heap H locs → ∀ (ls : Array Slot), lv_has ls 8 [(0, .ref o), (1, .int pl), (2, .int dy), (3, .int (nI t)), (4, .int (nI n9)), (5, .int 0), (6, .int (nI b))] → 6 - b < nb → W p l e (headSpec (Cond.code y_M_isWord b_M_isWord 8 (some .boolean) :: bg_W) ({ frames := 3, cells := 0, slots := 0, locals := 73 })).room s m ([.ref o, .int pl, .int dy] : List Value).toArray below meth c H locs 0 0 (MQ below (va_Qi (fun (r : Int32) (u : Int32 × Int32 × Int32 × (Nat → Int32)) => match u with | (w19, w20, w21, g22) => (r = 1 ∧ j_wd (j_fb f1 pn) co (j_ap z18) 5 0 = some (w19, w20, w21)) ∨ (r = 0 ∧ j_wd (j_fb f1 pn) co (j_ap z18) 5 0 = none)) (qB D T A (fun u : Int32 × Int32 × Int32 × (Nat → Int32) => match u with | (w19, w20, w21, g22) => mX T o a z0 (nI pn) (nI nn) z14 z18 w19 w20 w21 z24 z26 f1 f4 f5 f6 f7 f8 f9 f10 f11 f12 f13 f15 f16 f17 g22 f23 f25 f27)) A) ([.ref o, .int pl, .int dy] : List Value).toArray s 0 0 A) (F0 m 26 ls []) := by
          intro nb
          induction nb with
          | zero => intro b hb6 hnb H locs hP hD hS ls hl hm; exact absurd hm (Nat.not_lt_zero _)
          | succ nb ihb =>
            intro b hb6 hnb H locs hP hD hS ls hl hm
            refine lv_iload hx hb d_M_isWord_26 (lv_at hl 6 rfl) ?_
            refine lv_bipush (v := 6) hx hb d_M_isWord_28 (by decide) ?_
            refine lv_icmp_ge (tgt := 80) hx hb d_M_isWord_30 (by decide) (fun c3 => ?_) (fun c3 => ?_)
            · have c3 := nc_le (a := 6) (b := b) c3 (by omega) (by omega)
              refine lv_goto (tgt := 8) hx hb d_M_isWord_80 (by decide) ?_
              have hfb := j_fb_none (f1 := f1) (pn := pn) (at9 := t) (fun i hi => hnb i (by omega))
              exact ih t n9 0 bs g22 ht9 hg (Or.inr (Or.inr ⟨rfl, hn5, wd_end hWD hfb⟩)) _ _ hP hD hS ls (lv_sub hl [0, 1, 2, 3, 4, 5] rfl) (by omega)
            · have c3 := nc_nle (a := 6) (b := b) c3 (by omega) (by omega)
              refine lv_iload hx hb d_M_isWord_33 (lv_at hl 5 rfl) ?_
              refine lv_if_ne (tgt := 80) hx hb d_M_isWord_35 (by decide) (fun c4 => absurd c4 (by decide)) (fun c4 => ?_)
              refine lv_aload_n hx hb d_M_isWord_38 rfl (lv_at hl 0 rfl) ?_
              refine lv_iload_n hx hb d_M_isWord_39 rfl (lv_at hl 3 rfl) ?_
              refine lv_iload hx hb d_M_isWord_40 (lv_at hl 6 rfl) ?_
              refine vp_callSi (va_Run.run (va_runV (As := [.int (nI t), .int (nI b)]) (rest := []) ⟨hx, hb, hml, hown, hw⟩ (k_M_begins l D T o a z0 pn (nI nn) z14 z18 z19 z20 z21 z24 z26 f1 f4 f5 f6 f7 f8 f9 f10 f11 f12 f13 f15 f16 f17 g22 f23 f25 f27 t b hy0 (by omega) (by omega)) (cwV 2 hw (bg_V ml_M_148 wi_M_begins wv_M_begins wz_M wc_M_begins) rfl rfl rfl (by decide +kernel) ⟨Nat.le_of_ble_eq_true rfl, Nat.le_of_ble_eq_true rfl⟩) ⟨sP_b, va_recv hK hP (ci := 6) (q0 := 0) rfl rfl, sP_p hP hK⟩ rfl rfl hl.1 rfl (lv_room (Nat.le_of_ble_eq_true rfl)) d_M_isWord_42 ⟨Nat.le_of_ble_eq_true rfl, Nat.le_of_ble_eq_true rfl⟩)) (fun r5 hr5 => ?_)
              rcases hr5 with hb9 | hb9
              · obtain ⟨hr9, hbp⟩ := hb9
                subst hr9
                refine lv_if_eq (tgt := 74) hx hb d_M_isWord_45 (by decide) (fun c6 => absurd c6 (by decide)) (fun c6 => ?_)
                refine lv_iconst (v := 1) hx hb d_M_isWord_48 (by decide) ?_
                refine lv_istore (lv' := [(5, .int 1), (0, .ref o), (1, .int pl), (2, .int dy), (3, .int (nI t)), (4, .int (nI n9)), (6, .int (nI b))]) hx hb d_M_isWord_49 hl (by decide) rfl (fun ls hl => ?_)
                refine lv_aload_n hx hb d_M_isWord_51 rfl (lv_at hl 1 rfl) ?_
                refine va_get (D := D) (ci := 6) (v := .ref (a 22)) (C := "TimeWordsModel") (T := F_M) (N := 28) hx hb hw in_M hown hK hP 0 rfl rfl 22 (by decide) (hw _ fl_M_57) (fun _ h9 => h9) rfl d_M_isWord_52 ?_
                refine lv_iload hx hb d_M_isWord_55 (lv_at hl 5 rfl) ?_
                refine lv_iload hx hb d_M_isWord_57 (lv_at hl 6 rfl) ?_
                refine va_iast hx hb hK hP hD hS 15 0 rfl rfl (by first | assumption | exact vp_in_nI (by omega) (by omega)) d_M_isWord_59 (fun H locs hP hD hS => ?_)
                rw [show (nI n9).toNatClampNeg = n9 from nI_clamp (by omega)] at hP hD
                have hP : va_P D gC (mX T o a z0 (nI pn) (nI nn) z14 z18 z19 z20 z21 z24 z26 f1 f4 f5 f6 f7 f8 f9 f10 f11 f12 f13 f15 f16 f17 (upd g22 n9 (nI b)) f23 f25 f27) H := hP
                have hD : va_D A (mX T o a z0 (nI pn) (nI nn) z14 z18 z19 z20 z21 z24 z26 f1 f4 f5 f6 f7 f8 f9 f10 f11 f12 f13 f15 f16 f17 (upd g22 n9 (nI b)) f23 f25 f27) := hD
                refine lv_iinc (v := nI (n9 + 1)) (lv' := [(4, .int (nI (n9 + 1))), (5, .int 1), (0, .ref o), (1, .int pl), (2, .int dy), (3, .int (nI t)), (6, .int (nI b))]) hx hb d_M_isWord_60 hl (k := 5) rfl (nI_add n9 1) (by decide) rfl (fun ls hl => ?_)
                refine lv_iload_n hx hb d_M_isWord_63 rfl (lv_at hl 5 rfl) ?_
                refine lv_iload hx hb d_M_isWord_64 (lv_at hl 6 rfl) ?_
                refine vp_callSl (va_Run.run (va_runS (As := [.int (nI b)]) (rest := [.int (nI t)]) ⟨hx, hb, hml, hown, hw⟩ (k_M_beginning l b (by omega)) (va_cwS 1 hw (bg_S ml_M_124 wt_M_beginning wz_M wc_M_beginning) rfl rfl rfl (by decide +kernel) ⟨Nat.le_of_ble_eq_true rfl, Nat.le_of_ble_eq_true rfl⟩) ⟨nP_b, nP_p⟩ rfl rfl hl.1 rfl (lv_room (Nat.le_of_ble_eq_true rfl)) d_M_isWord_66 ⟨Nat.le_of_ble_eq_true rfl, Nat.le_of_ble_eq_true rfl⟩)) (fun r7 hr7 => ?_)
                replace hr7 := hr7.symm; subst hr7
                refine vp_callSi (va_Run.run (va_runS (As := [.long (jw b)]) (rest := [.int (nI t)]) ⟨hx, hb, hml, hown, hw⟩ (k_M_signs l b (by omega)) (va_cwS 1 hw (bg_S ml_M_106 wt_M_signs wz_M wc_M_signs) rfl rfl rfl (by decide +kernel) ⟨Nat.le_of_ble_eq_true rfl, Nat.le_of_ble_eq_true rfl⟩) ⟨nP_b, nP_p⟩ rfl rfl hl.1 rfl (lv_room (Nat.le_of_ble_eq_true rfl)) d_M_isWord_69 ⟨Nat.le_of_ble_eq_true rfl, Nat.le_of_ble_eq_true rfl⟩)) (fun r8 hr8 => ?_)
                replace hr8 := hr8.symm; subst hr8
                refine lv_iadd hx hb d_M_isWord_72 ?_
                rw [show (nI t) + (nI (jl b)) = nI (t + (jl b)) from nI_add t (jl b)]
                refine lv_istore_n (lv' := [(3, .int (nI (t + (jl b)))), (4, .int (nI (n9 + 1))), (5, .int 1), (0, .ref o), (1, .int pl), (2, .int dy), (6, .int (nI b))]) hx hb d_M_isWord_73 rfl hl (by decide) rfl (fun ls hl => ?_)
                refine lv_iinc (v := nI (b + 1)) (lv' := [(6, .int (nI (b + 1))), (3, .int (nI (t + (jl b)))), (4, .int (nI (n9 + 1))), (5, .int 1), (0, .ref o), (1, .int pl), (2, .int dy)]) hx hb d_M_isWord_74 hl (k := 6) rfl (nI_add b 1) (by decide) rfl (fun ls hl => ?_)
                refine lv_goto (tgt := 26) hx hb d_M_isWord_77 (by decide) ?_
                refine lv_iload hx hb d_M_isWord_26 (lv_at hl 0 rfl) ?_
                refine lv_bipush (v := 6) hx hb d_M_isWord_28 (by decide) ?_
                refine lv_icmp_ge (tgt := 80) hx hb d_M_isWord_30 (by decide) (fun c9 => ?_) (fun c9 => ?_)
                · have c9 := nc_le (a := 6) (b := b + 1) c9 (by omega) (by omega)
                  refine lv_goto (tgt := 8) hx hb d_M_isWord_80 (by decide) ?_
                  have hfb := j_fb_some (by omega) hnb hbp
                  rcases Nat.lt_or_ge n9 5 with hn9 | hn9
                  · exact ih (t + jl b) (n9 + 1) 1 (va_up bs n9 b) (upd g22 n9 (nI b)) hbp.1 (fun i hi => by
                        by_cases e9 : i = n9
                        · subst e9; rw [pk_us, va_up_self]; exact ⟨rfl, by omega⟩
                        · rw [pk_un e9, va_up_ne _ _ e9]; exact hg i (by omega)) (Or.inl ⟨rfl, by omega, wd_more hn9 hWD hfb⟩) _ _ hP hD hS ls (lv_sub hl [4, 5, 6, 1, 2, 3] rfl) (by omega)
                  · have e5 : n9 = 5 := by omega
                    subst e5
                    exact ih (t + jl b) (5 + 1) 1 (va_up bs 5 b) (upd g22 5 (nI b)) hbp.1 (fun i hi => by
                        by_cases e9 : i = 5
                        · subst e9; rw [pk_us, va_up_self]; exact ⟨rfl, by omega⟩
                        · rw [pk_un e9, va_up_ne _ _ e9]; exact hg i (by omega)) (Or.inr (Or.inl ⟨rfl, rfl, wd_much hWD hfb⟩)) _ _ hP hD hS ls (lv_sub hl [4, 5, 6, 1, 2, 3] rfl) (by omega)
                · have c9 := nc_nle (a := 6) (b := b + 1) c9 (by omega) (by omega)
                  refine lv_iload hx hb d_M_isWord_33 (lv_at hl 3 rfl) ?_
                  refine lv_if_ne (tgt := 80) hx hb d_M_isWord_35 (by decide) (fun c10 => ?_) (fun c10 => absurd c10 (by decide))
                  refine lv_goto (tgt := 8) hx hb d_M_isWord_80 (by decide) ?_
                  have hfb := j_fb_some (by omega) hnb hbp
                  rcases Nat.lt_or_ge n9 5 with hn9 | hn9
                  · exact ih (t + jl b) (n9 + 1) 1 (va_up bs n9 b) (upd g22 n9 (nI b)) hbp.1 (fun i hi => by
                        by_cases e9 : i = n9
                        · subst e9; rw [pk_us, va_up_self]; exact ⟨rfl, by omega⟩
                        · rw [pk_un e9, va_up_ne _ _ e9]; exact hg i (by omega)) (Or.inl ⟨rfl, by omega, wd_more hn9 hWD hfb⟩) _ _ hP hD hS ls (lv_sub hl [4, 5, 6, 1, 2, 3] rfl) (by omega)
                  · have e5 : n9 = 5 := by omega
                    subst e5
                    exact ih (t + jl b) (5 + 1) 1 (va_up bs 5 b) (upd g22 5 (nI b)) hbp.1 (fun i hi => by
                        by_cases e9 : i = 5
                        · subst e9; rw [pk_us, va_up_self]; exact ⟨rfl, by omega⟩
                        · rw [pk_un e9, va_up_ne _ _ e9]; exact hg i (by omega)) (Or.inr (Or.inl ⟨rfl, rfl, wd_much hWD hfb⟩)) _ _ hP hD hS ls (lv_sub hl [4, 5, 6, 1, 2, 3] rfl) (by omega)
              · obtain ⟨hr9, hbp⟩ := hb9
                subst hr9
                refine lv_if_eq (tgt := 74) hx hb d_M_isWord_45 (by decide) (fun c11 => ?_) (fun c11 => absurd c11 (by decide))
                refine lv_iinc (v := nI (b + 1)) (lv' := [(6, .int (nI (b + 1))), (0, .ref o), (1, .int pl), (2, .int dy), (3, .int (nI t)), (4, .int (nI n9)), (5, .int 0)]) hx hb d_M_isWord_74 hl (k := 6) rfl (nI_add b 1) (by decide) rfl (fun ls hl => ?_)
                refine lv_goto (tgt := 26) hx hb d_M_isWord_77 (by decide) ?_
                exact ihb (b + 1) (by omega) (lt_s hnb hbp) _ _ hP hD hS ls (lv_sub hl [1, 2, 3, 4, 5, 6, 0] rfl) (by omega)
        exact lopb ((6 - 0) + 1) 0 (Nat.zero_le _) lt_0 _ _ hP hD hS ls (lv_sub hl [2, 3, 4, 5, 6, 1, 0] rfl) (Nat.lt_succ_self _)
      · obtain ⟨rfl, rfl, hWD⟩ := hJ
        refine lv_iload hx hb d_M_isWord_8 (lv_at hl 5 rfl) ?_
        refine lv_if_eq (tgt := 83) hx hb d_M_isWord_10 (by decide) (fun c12 => absurd c12 (by decide)) (fun c12 => ?_)
        refine lv_iload hx hb d_M_isWord_13 (lv_at hl 4 rfl) ?_
        refine lv_bipush (v := 6) hx hb d_M_isWord_15 (by decide) ?_
        refine lv_icmp_ge (tgt := 83) hx hb d_M_isWord_17 (by decide) (fun c13 => ?_) (fun c13 => absurd c13 (by decide))
        refine lv_iload hx hb d_M_isWord_83 (lv_at hl 4 rfl) ?_
        refine lv_bipush (v := 6) hx hb d_M_isWord_85 (by decide) ?_
        refine lv_icmp_ge (tgt := 104) hx hb d_M_isWord_87 (by decide) (fun c14 => ?_) (fun c14 => absurd c14 (by decide))
        refine lv_iconst (v := 0) hx hb d_M_isWord_104 (by decide) ?_
        refine lv_istore (lv' := [(6, .int 0), (0, .ref o), (1, .int pl), (2, .int dy), (3, .int (nI t)), (4, .int (nI 6)), (5, .int (nI 1))]) hx hb d_M_isWord_105 hl (by decide) rfl (fun ls hl => ?_)
        refine lv_iload hx hb d_M_isWord_107 (lv_at hl 5 rfl) ?_
        refine lv_iconst (v := 1) hx hb d_M_isWord_109 (by decide) ?_
        refine lv_isub hx hb d_M_isWord_110 ?_
        refine lv_istore (lv' := [(7, .int ((nI 6) - 1)), (6, .int 0), (0, .ref o), (1, .int pl), (2, .int dy), (3, .int (nI t)), (4, .int (nI 6)), (5, .int (nI 1))]) hx hb d_M_isWord_111 hl (by decide) rfl (fun ls hl => ?_)
        have lopm : ∀ (nm : Nat) (m9 gd : Nat) (v7 y19 y20 y21 : Int32), (m9 ≤ 6) → (v7 = nI m9 - 1) → ((gd = 1 ∧ W9 = j_un (j_ap z18) bs m9 (some (y19, y20, y21))) ∨ (gd = 0 ∧ W9 = none)) → ∀ (H : Heap) (locs : List Loc), va_P D gC (mX T o a z0 (nI pn) (nI nn) z14 z18 y19 y20 y21 z24 z26 f1 f4 f5 f6 f7 f8 f9 f10 f11 f12 f13 f15 f16 f17 g22 f23 f25 f27) H → va_D A (mX T o a z0 (nI pn) (nI nn) z14 z18 y19 y20 y21 z24 z26 f1 f4 f5 f6 f7 f8 f9 f10 f11 f12 f13 f15 f16 f17 g22 f23 f25 f27) → va_S A s.heap H locs → ∀ (ls : Array Slot), lv_has ls 8 [(0, .ref o), (6, .int (nI gd)), (7, .int v7)] → m9 < nm → W p l e (headSpec (Cond.code y_M_isWord b_M_isWord 8 (some .boolean) :: bg_W) ({ frames := 3, cells := 0, slots := 0, locals := 73 })).room s m ([.ref o, .int pl, .int dy] : List Value).toArray below meth c H locs 0 0 (MQ below (va_Qi (fun (r : Int32) (u : Int32 × Int32 × Int32 × (Nat → Int32)) => match u with | (w19, w20, w21, g22) => (r = 1 ∧ j_wd (j_fb f1 pn) co (j_ap z18) 5 0 = some (w19, w20, w21)) ∨ (r = 0 ∧ j_wd (j_fb f1 pn) co (j_ap z18) 5 0 = none)) (qB D T A (fun u : Int32 × Int32 × Int32 × (Nat → Int32) => match u with | (w19, w20, w21, g22) => mX T o a z0 (nI pn) (nI nn) z14 z18 w19 w20 w21 z24 z26 f1 f4 f5 f6 f7 f8 f9 f10 f11 f12 f13 f15 f16 f17 g22 f23 f25 f27)) A) ([.ref o, .int pl, .int dy] : List Value).toArray s 0 0 A) (F0 m 113 ls []) := by
          intro nm
          induction nm with
          | zero => intro m9 gd v7 y19 y20 y21 hm9 h7 hI H locs hP hD hS ls hl hm; exact absurd hm (Nat.not_lt_zero _)
          | succ nm ihm =>
            intro m9 gd v7 y19 y20 y21 hm9 h7 hI H locs hP hD hS ls hl hm
            rcases hI with hJ | hJ
            · obtain ⟨rfl, hWS⟩ := hJ
              rcases m9 with _ | m9
              · have e7 : v7 = -1 := by rw [h7]; decide
                subst e7
                refine lv_iload hx hb d_M_isWord_113 (lv_at hl 2 rfl) ?_
                refine lv_if_lt (tgt := 142) hx hb d_M_isWord_115 (by decide) (fun c15 => ?_) (fun c15 => absurd c15 (by decide))
                refine lv_iload hx hb d_M_isWord_142 (lv_at hl 1 rfl) ?_
                exact W.zret (v := nI 1) hx hb hr rfl (fun t ht hW => ⟨⟨nI 1, (y19, y20, y21, g22), rfl, (Or.inl ⟨rfl, by rw [← hW9, hWS]; rfl⟩), by rw [ht]; exact hP, va_K.moved hW.alike hK, hD⟩, hS.F ht⟩) hS.2.2 d_M_isWord_144
              · have e7 : v7 = nI m9 := by rw [h7]; exact nI_pred m9
                subst e7
                obtain ⟨hgm, hbm⟩ := hg m9 (by omega)
                refine lv_iload hx hb d_M_isWord_113 (lv_at hl 2 rfl) ?_
                refine lv_if_lt (tgt := 142) hx hb d_M_isWord_115 (by decide) (fun c16 => absurd c16 (nI_pos (by omega))) (fun c16 => ?_)
                refine lv_iload hx hb d_M_isWord_118 (lv_at hl 1 rfl) ?_
                refine lv_if_eq (tgt := 142) hx hb d_M_isWord_120 (by decide) (fun c17 => absurd c17 (by decide)) (fun c17 => ?_)
                refine lv_aload_n hx hb d_M_isWord_123 rfl (lv_at hl 0 rfl) ?_
                refine lv_aload_n hx hb d_M_isWord_124 rfl (lv_at hl 0 rfl) ?_
                refine va_get (D := D) (ci := 6) (v := .ref (a 22)) (C := "TimeWordsModel") (T := F_M) (N := 28) hx hb hw in_M hown hK hP 0 rfl rfl 22 (by decide) (hw _ fl_M_57) (fun _ h9 => h9) rfl d_M_isWord_125 ?_
                refine lv_iload hx hb d_M_isWord_128 (lv_at hl 2 rfl) ?_
                refine va_iald hx hb hK hP 15 0 rfl rfl (by first | assumption | exact vp_in_nI (by omega) (by omega)) d_M_isWord_130 ?_
                rw [show (nI m9).toNatClampNeg = m9 from nI_clamp (by omega)]
                rw [hgm]
                refine g_calli (va_runV (As := [.int (nI (bs m9))]) (rest := []) ⟨hx, hb, hml, hown, hw⟩ (k_M_makes l D T o a z0 (nI pn) (nI nn) z14 z18 y19 y20 y21 z24 z26 f1 f4 f5 f6 f7 f8 f9 f10 f11 f12 f13 f15 f16 f17 g22 f23 f25 f27 H.size (nI (bs m9))) (cwV 1 hw (bg_V ml_M_154 wi_M_makes wv_M_makes wz_M wc_M_makes) rfl rfl rfl (by decide +kernel) ⟨Nat.le_of_ble_eq_true rfl, Nat.le_of_ble_eq_true rfl⟩) ⟨qP_b, va_recv hK hP (ci := 6) (q0 := 0) rfl rfl, qP_p hP hK hD⟩ rfl rfl hl.1 rfl (lv_room (Nat.le_of_ble_eq_true rfl)) d_M_isWord_131 ⟨Nat.le_of_ble_eq_true rfl, Nat.le_of_ble_eq_true rfl⟩) hD hS hA (fun r18 u9 H locs hr18 hP hD hS => ?_)
                obtain ⟨u19, u20, u21⟩ := u9
                dsimp only at hr18 hP hD
                have hP : va_P D gC (mX T o a z0 (nI pn) (nI nn) z14 z18 u19 u20 u21 z24 z26 f1 f4 f5 f6 f7 f8 f9 f10 f11 f12 f13 f15 f16 f17 g22 f23 f25 f27) H := hP
                have hD : va_D A (mX T o a z0 (nI pn) (nI nn) z14 z18 u19 u20 u21 z24 z26 f1 f4 f5 f6 f7 f8 f9 f10 f11 f12 f13 f15 f16 f17 g22 f23 f25 f27) := hD
                rcases hr18 with hM9 | hM9
                · obtain ⟨hne, hr9, -⟩ := hM9
                  subst hr9
                  refine lv_istore (lv' := [(6, .int 0), (0, .ref o), (7, .int (nI m9))]) hx hb d_M_isWord_134 hl (by decide) rfl (fun ls hl => ?_)
                  obtain ⟨x22, ex22⟩ : ∃ y : Int32, y = nI m9 + (-1) := ⟨_, rfl⟩
                  refine lv_iinc (v := x22) (lv' := [(7, .int x22), (6, .int 0), (0, .ref o)]) hx hb d_M_isWord_136 hl (k := 2) rfl (by rw [ex22]; rfl) (by decide) rfl (fun ls hl => ?_)
                  refine lv_goto (tgt := 113) hx hb d_M_isWord_139 (by decide) ?_
                  exact ihm m9 0 x22 u19 u20 u21 (by omega) (by rw [ex22, Int32.sub_eq_add_neg]) (Or.inr ⟨rfl, by rw [hWS]; show j_un (j_ap z18) bs m9 (j_ap z18 (bs m9) (y19, y20, y21)) = none; rw [j_ap, if_neg hne]; exact un_none m9⟩) _ _ hP hD hS ls (lv_sub hl [2, 1, 0] rfl) (by omega)
                · obtain ⟨hz9, hr9, hF9, hL9, hO9⟩ := hM9
                  rcases (by cases j_mR (nI (bs m9)) z18 y19 y20 <;> simp : j_mR (nI (bs m9)) z18 y19 y20 = true ∨ j_mR (nI (bs m9)) z18 y19 y20 = false) with hR9 | hR9
                  · rw [hR9] at hr9
                    have hr9 : r18 = 1 := hr9
                    subst hr9
                    refine lv_istore (lv' := [(6, .int 1), (0, .ref o), (7, .int (nI m9))]) hx hb d_M_isWord_134 hl (by decide) rfl (fun ls hl => ?_)
                    obtain ⟨x23, ex23⟩ : ∃ y : Int32, y = nI m9 + (-1) := ⟨_, rfl⟩
                    refine lv_iinc (v := x23) (lv' := [(7, .int x23), (6, .int 1), (0, .ref o)]) hx hb d_M_isWord_136 hl (k := 2) rfl (by rw [ex23]; rfl) (by decide) rfl (fun ls hl => ?_)
                    refine lv_goto (tgt := 113) hx hb d_M_isWord_139 (by decide) ?_
                    exact ihm m9 1 x23 u19 u20 u21 (by omega) (by rw [ex23, Int32.sub_eq_add_neg]) (Or.inl ⟨rfl, by rw [hWS]; show j_un (j_ap z18) bs m9 (j_ap z18 (bs m9) (y19, y20, y21)) = _; rw [j_ap, if_pos hz9, if_pos hR9, hF9, hL9, hO9]⟩) _ _ hP hD hS ls (lv_sub hl [2, 1, 0] rfl) (by omega)
                  · rw [hR9] at hr9
                    have hr9 : r18 = 0 := hr9
                    subst hr9
                    refine lv_istore (lv' := [(6, .int 0), (0, .ref o), (7, .int (nI m9))]) hx hb d_M_isWord_134 hl (by decide) rfl (fun ls hl => ?_)
                    obtain ⟨x24, ex24⟩ : ∃ y : Int32, y = nI m9 + (-1) := ⟨_, rfl⟩
                    refine lv_iinc (v := x24) (lv' := [(7, .int x24), (6, .int 0), (0, .ref o)]) hx hb d_M_isWord_136 hl (k := 2) rfl (by rw [ex24]; rfl) (by decide) rfl (fun ls hl => ?_)
                    refine lv_goto (tgt := 113) hx hb d_M_isWord_139 (by decide) ?_
                    exact ihm m9 0 x24 u19 u20 u21 (by omega) (by rw [ex24, Int32.sub_eq_add_neg]) (Or.inr ⟨rfl, by rw [hWS]; show j_un (j_ap z18) bs m9 (j_ap z18 (bs m9) (y19, y20, y21)) = none; rw [j_ap, if_pos hz9, if_neg (by rw [hR9]; exact Bool.false_ne_true)]; exact un_none m9⟩) _ _ hP hD hS ls (lv_sub hl [2, 1, 0] rfl) (by omega)
            · obtain ⟨rfl, hWN⟩ := hJ
              refine lv_iload hx hb d_M_isWord_113 (lv_at hl 2 rfl) ?_
              refine lv_if_lt (tgt := 142) hx hb d_M_isWord_115 (by decide) (fun c25 => ?_) (fun c25 => ?_)
              · refine lv_iload hx hb d_M_isWord_142 (lv_at hl 1 rfl) ?_
                exact W.zret (v := nI 0) hx hb hr rfl (fun t ht hW => ⟨⟨nI 0, (y19, y20, y21, g22), rfl, (Or.inr ⟨rfl, by rw [← hW9]; exact hWN⟩), by rw [ht]; exact hP, va_K.moved hW.alike hK, hD⟩, hS.F ht⟩) hS.2.2 d_M_isWord_144
              · refine lv_iload hx hb d_M_isWord_118 (lv_at hl 1 rfl) ?_
                refine lv_if_eq (tgt := 142) hx hb d_M_isWord_120 (by decide) (fun c26 => ?_) (fun c26 => absurd c26 (by decide))
                refine lv_iload hx hb d_M_isWord_142 (lv_at hl 1 rfl) ?_
                exact W.zret (v := nI 0) hx hb hr rfl (fun t ht hW => ⟨⟨nI 0, (y19, y20, y21, g22), rfl, (Or.inr ⟨rfl, by rw [← hW9]; exact hWN⟩), by rw [ht]; exact hP, va_K.moved hW.alike hK, hD⟩, hS.F ht⟩) hS.2.2 d_M_isWord_144
        exact lopm (6 + 1) 6 0 ((nI 6) - 1) z19 z20 z21 (Nat.le_refl _) rfl (Or.inr ⟨rfl, hWD⟩) _ _ hP hD hS ls (lv_sub hl [2, 1, 0] rfl) (Nat.lt_succ_self _)
      · obtain ⟨rfl, hn5, hWD⟩ := hJ
        refine lv_iload hx hb d_M_isWord_8 (lv_at hl 5 rfl) ?_
        refine lv_if_eq (tgt := 83) hx hb d_M_isWord_10 (by decide) (fun c27 => ?_) (fun c27 => absurd c27 (by decide))
        refine lv_iload hx hb d_M_isWord_83 (lv_at hl 4 rfl) ?_
        refine lv_bipush (v := 6) hx hb d_M_isWord_85 (by decide) ?_
        refine lv_icmp_ge (tgt := 104) hx hb d_M_isWord_87 (by decide) (fun c28 => absurd c28 (nI_ge (a := n9) (b := 6) (by omega) (by decide))) (fun c28 => ?_)
        refine lv_aload_n hx hb d_M_isWord_90 rfl (lv_at hl 0 rfl) ?_
        refine lv_iload_n hx hb d_M_isWord_91 rfl (lv_at hl 3 rfl) ?_
        refine lv_iload_n hx hb d_M_isWord_92 rfl (lv_at hl 1 rfl) ?_
        refine lv_iload_n hx hb d_M_isWord_93 rfl (lv_at hl 2 rfl) ?_
        refine g_calli (va_runV (As := [.int (nI t), .int pl, .int dy]) (rest := []) ⟨hx, hb, hml, hown, hw⟩ (k_M_core l D T o a z0 pn nn z14 z18 z19 z20 z21 z24 z26 f1 f4 f5 f6 f7 f8 f9 f10 f11 f12 f13 f15 f16 f17 g22 f23 f25 f27 H.size t pl dy ln ck hy0 ht9 hy1 hy2 hy3 hy4 hy5) (cwV 3 hw (bg_V ml_M_151 wi_M_core wv_M_core wz_M wc_M_core) rfl rfl rfl (by decide +kernel) ⟨Nat.le_of_ble_eq_true rfl, Nat.le_of_ble_eq_true rfl⟩) ⟨qP_b, va_recv hK hP (ci := 6) (q0 := 0) rfl rfl, qP_p hP hK hD⟩ rfl rfl hl.1 rfl (lv_room (Nat.le_of_ble_eq_true rfl)) d_M_isWord_94 ⟨Nat.le_of_ble_eq_true rfl, Nat.le_of_ble_eq_true rfl⟩) hD hS hA (fun r29 u9 H locs hr29 hP hD hS => ?_)
        obtain ⟨u30, u31, u32⟩ := u9
        dsimp only at hr29 hP hD
        have hP : va_P D gC (mX T o a z0 (nI pn) (nI nn) z14 z18 u30 u31 u32 z24 z26 f1 f4 f5 f6 f7 f8 f9 f10 f11 f12 f13 f15 f16 f17 g22 f23 f25 f27) H := hP
        have hD : va_D A (mX T o a z0 (nI pn) (nI nn) z14 z18 u30 u31 u32 z24 z26 f1 f4 f5 f6 f7 f8 f9 f10 f11 f12 f13 f15 f16 f17 g22 f23 f25 f27) := hD
        have hco : (r29 = 1 ∧ co t = some (u30, u31, u32)) ∨ (r29 = 0 ∧ co t = none) := by
          rcases hr29 with ⟨h1, h2, h3, h4, h5⟩ | ⟨h1, h2, h3, -⟩ | ⟨h1, i, hi, h2, ⟨h3, h4⟩ | ⟨h3, h4, -⟩⟩
          · have h6 := hy6 t h1
            by_cases hz : j_cv f1 pn t ≤ 0
            · rw [if_pos hz] at h6; rw [decide_eq_true hz] at h2; exact Or.inr ⟨h2, h6⟩
            · rw [if_neg hz] at h6; rw [decide_eq_false hz] at h2; exact Or.inl ⟨h2, by rw [h6, h3, h4, h5]⟩
          · exact Or.inr ⟨h3, hy7 t h1 h2⟩
          · exact Or.inl ⟨h3, by rw [hy8 t h1 i hi h2, h4]⟩
          · exact Or.inr ⟨h3, by rw [hy8 t h1 i hi h2, h4]⟩
        rcases hco with hco | hco
        · obtain ⟨hr9, hc9⟩ := hco
          subst hr9
          refine lv_if_eq (tgt := 104) hx hb d_M_isWord_97 (by decide) (fun c33 => absurd c33 (by decide)) (fun c33 => ?_)
          refine lv_iconst (v := 1) hx hb d_M_isWord_100 (by decide) ?_
          refine lv_goto (tgt := 105) hx hb d_M_isWord_101 (by decide) ?_
          refine lv_istore (lv' := [(6, .int 1), (0, .ref o), (1, .int pl), (2, .int dy), (3, .int (nI t)), (4, .int (nI n9)), (5, .int (nI 0))]) hx hb d_M_isWord_105 hl (by decide) rfl (fun ls hl => ?_)
          refine lv_iload hx hb d_M_isWord_107 (lv_at hl 5 rfl) ?_
          refine lv_iconst (v := 1) hx hb d_M_isWord_109 (by decide) ?_
          refine lv_isub hx hb d_M_isWord_110 ?_
          refine lv_istore (lv' := [(7, .int ((nI n9) - 1)), (6, .int 1), (0, .ref o), (1, .int pl), (2, .int dy), (3, .int (nI t)), (4, .int (nI n9)), (5, .int (nI 0))]) hx hb d_M_isWord_111 hl (by decide) rfl (fun ls hl => ?_)
          have lopm : ∀ (nm : Nat) (m9 gd : Nat) (v7 y19 y20 y21 : Int32), (m9 ≤ n9) → (v7 = nI m9 - 1) → ((gd = 1 ∧ W9 = j_un (j_ap z18) bs m9 (some (y19, y20, y21))) ∨ (gd = 0 ∧ W9 = none)) → ∀ (H : Heap) (locs : List Loc), va_P D gC (mX T o a z0 (nI pn) (nI nn) z14 z18 y19 y20 y21 z24 z26 f1 f4 f5 f6 f7 f8 f9 f10 f11 f12 f13 f15 f16 f17 g22 f23 f25 f27) H → va_D A (mX T o a z0 (nI pn) (nI nn) z14 z18 y19 y20 y21 z24 z26 f1 f4 f5 f6 f7 f8 f9 f10 f11 f12 f13 f15 f16 f17 g22 f23 f25 f27) → va_S A s.heap H locs → ∀ (ls : Array Slot), lv_has ls 8 [(0, .ref o), (6, .int (nI gd)), (7, .int v7)] → m9 < nm → W p l e (headSpec (Cond.code y_M_isWord b_M_isWord 8 (some .boolean) :: bg_W) ({ frames := 3, cells := 0, slots := 0, locals := 73 })).room s m ([.ref o, .int pl, .int dy] : List Value).toArray below meth c H locs 0 0 (MQ below (va_Qi (fun (r : Int32) (u : Int32 × Int32 × Int32 × (Nat → Int32)) => match u with | (w19, w20, w21, g22) => (r = 1 ∧ j_wd (j_fb f1 pn) co (j_ap z18) 5 0 = some (w19, w20, w21)) ∨ (r = 0 ∧ j_wd (j_fb f1 pn) co (j_ap z18) 5 0 = none)) (qB D T A (fun u : Int32 × Int32 × Int32 × (Nat → Int32) => match u with | (w19, w20, w21, g22) => mX T o a z0 (nI pn) (nI nn) z14 z18 w19 w20 w21 z24 z26 f1 f4 f5 f6 f7 f8 f9 f10 f11 f12 f13 f15 f16 f17 g22 f23 f25 f27)) A) ([.ref o, .int pl, .int dy] : List Value).toArray s 0 0 A) (F0 m 113 ls []) := by
            intro nm
            induction nm with
            | zero => intro m9 gd v7 y19 y20 y21 hm9 h7 hI H locs hP hD hS ls hl hm; exact absurd hm (Nat.not_lt_zero _)
            | succ nm ihm =>
              intro m9 gd v7 y19 y20 y21 hm9 h7 hI H locs hP hD hS ls hl hm
              rcases hI with hJ | hJ
              · obtain ⟨rfl, hWS⟩ := hJ
                rcases m9 with _ | m9
                · have e7 : v7 = -1 := by rw [h7]; decide
                  subst e7
                  refine lv_iload hx hb d_M_isWord_113 (lv_at hl 2 rfl) ?_
                  refine lv_if_lt (tgt := 142) hx hb d_M_isWord_115 (by decide) (fun c34 => ?_) (fun c34 => absurd c34 (by decide))
                  refine lv_iload hx hb d_M_isWord_142 (lv_at hl 1 rfl) ?_
                  exact W.zret (v := nI 1) hx hb hr rfl (fun t ht hW => ⟨⟨nI 1, (y19, y20, y21, g22), rfl, (Or.inl ⟨rfl, by rw [← hW9, hWS]; rfl⟩), by rw [ht]; exact hP, va_K.moved hW.alike hK, hD⟩, hS.F ht⟩) hS.2.2 d_M_isWord_144
                · have e7 : v7 = nI m9 := by rw [h7]; exact nI_pred m9
                  subst e7
                  obtain ⟨hgm, hbm⟩ := hg m9 (by omega)
                  refine lv_iload hx hb d_M_isWord_113 (lv_at hl 2 rfl) ?_
                  refine lv_if_lt (tgt := 142) hx hb d_M_isWord_115 (by decide) (fun c35 => absurd c35 (nI_pos (by omega))) (fun c35 => ?_)
                  refine lv_iload hx hb d_M_isWord_118 (lv_at hl 1 rfl) ?_
                  refine lv_if_eq (tgt := 142) hx hb d_M_isWord_120 (by decide) (fun c36 => absurd c36 (by decide)) (fun c36 => ?_)
                  refine lv_aload_n hx hb d_M_isWord_123 rfl (lv_at hl 0 rfl) ?_
                  refine lv_aload_n hx hb d_M_isWord_124 rfl (lv_at hl 0 rfl) ?_
                  refine va_get (D := D) (ci := 6) (v := .ref (a 22)) (C := "TimeWordsModel") (T := F_M) (N := 28) hx hb hw in_M hown hK hP 0 rfl rfl 22 (by decide) (hw _ fl_M_57) (fun _ h9 => h9) rfl d_M_isWord_125 ?_
                  refine lv_iload hx hb d_M_isWord_128 (lv_at hl 2 rfl) ?_
                  refine va_iald hx hb hK hP 15 0 rfl rfl (by first | assumption | exact vp_in_nI (by omega) (by omega)) d_M_isWord_130 ?_
                  rw [show (nI m9).toNatClampNeg = m9 from nI_clamp (by omega)]
                  rw [hgm]
                  refine g_calli (va_runV (As := [.int (nI (bs m9))]) (rest := []) ⟨hx, hb, hml, hown, hw⟩ (k_M_makes l D T o a z0 (nI pn) (nI nn) z14 z18 y19 y20 y21 z24 z26 f1 f4 f5 f6 f7 f8 f9 f10 f11 f12 f13 f15 f16 f17 g22 f23 f25 f27 H.size (nI (bs m9))) (cwV 1 hw (bg_V ml_M_154 wi_M_makes wv_M_makes wz_M wc_M_makes) rfl rfl rfl (by decide +kernel) ⟨Nat.le_of_ble_eq_true rfl, Nat.le_of_ble_eq_true rfl⟩) ⟨qP_b, va_recv hK hP (ci := 6) (q0 := 0) rfl rfl, qP_p hP hK hD⟩ rfl rfl hl.1 rfl (lv_room (Nat.le_of_ble_eq_true rfl)) d_M_isWord_131 ⟨Nat.le_of_ble_eq_true rfl, Nat.le_of_ble_eq_true rfl⟩) hD hS hA (fun r37 u9 H locs hr37 hP hD hS => ?_)
                  obtain ⟨u38, u39, u40⟩ := u9
                  dsimp only at hr37 hP hD
                  have hP : va_P D gC (mX T o a z0 (nI pn) (nI nn) z14 z18 u38 u39 u40 z24 z26 f1 f4 f5 f6 f7 f8 f9 f10 f11 f12 f13 f15 f16 f17 g22 f23 f25 f27) H := hP
                  have hD : va_D A (mX T o a z0 (nI pn) (nI nn) z14 z18 u38 u39 u40 z24 z26 f1 f4 f5 f6 f7 f8 f9 f10 f11 f12 f13 f15 f16 f17 g22 f23 f25 f27) := hD
                  rcases hr37 with hM9 | hM9
                  · obtain ⟨hne, hr9, -⟩ := hM9
                    subst hr9
                    refine lv_istore (lv' := [(6, .int 0), (0, .ref o), (7, .int (nI m9))]) hx hb d_M_isWord_134 hl (by decide) rfl (fun ls hl => ?_)
                    obtain ⟨x41, ex41⟩ : ∃ y : Int32, y = nI m9 + (-1) := ⟨_, rfl⟩
                    refine lv_iinc (v := x41) (lv' := [(7, .int x41), (6, .int 0), (0, .ref o)]) hx hb d_M_isWord_136 hl (k := 2) rfl (by rw [ex41]; rfl) (by decide) rfl (fun ls hl => ?_)
                    refine lv_goto (tgt := 113) hx hb d_M_isWord_139 (by decide) ?_
                    exact ihm m9 0 x41 u38 u39 u40 (by omega) (by rw [ex41, Int32.sub_eq_add_neg]) (Or.inr ⟨rfl, by rw [hWS]; show j_un (j_ap z18) bs m9 (j_ap z18 (bs m9) (y19, y20, y21)) = none; rw [j_ap, if_neg hne]; exact un_none m9⟩) _ _ hP hD hS ls (lv_sub hl [2, 1, 0] rfl) (by omega)
                  · obtain ⟨hz9, hr9, hF9, hL9, hO9⟩ := hM9
                    rcases (by cases j_mR (nI (bs m9)) z18 y19 y20 <;> simp : j_mR (nI (bs m9)) z18 y19 y20 = true ∨ j_mR (nI (bs m9)) z18 y19 y20 = false) with hR9 | hR9
                    · rw [hR9] at hr9
                      have hr9 : r37 = 1 := hr9
                      subst hr9
                      refine lv_istore (lv' := [(6, .int 1), (0, .ref o), (7, .int (nI m9))]) hx hb d_M_isWord_134 hl (by decide) rfl (fun ls hl => ?_)
                      obtain ⟨x42, ex42⟩ : ∃ y : Int32, y = nI m9 + (-1) := ⟨_, rfl⟩
                      refine lv_iinc (v := x42) (lv' := [(7, .int x42), (6, .int 1), (0, .ref o)]) hx hb d_M_isWord_136 hl (k := 2) rfl (by rw [ex42]; rfl) (by decide) rfl (fun ls hl => ?_)
                      refine lv_goto (tgt := 113) hx hb d_M_isWord_139 (by decide) ?_
                      exact ihm m9 1 x42 u38 u39 u40 (by omega) (by rw [ex42, Int32.sub_eq_add_neg]) (Or.inl ⟨rfl, by rw [hWS]; show j_un (j_ap z18) bs m9 (j_ap z18 (bs m9) (y19, y20, y21)) = _; rw [j_ap, if_pos hz9, if_pos hR9, hF9, hL9, hO9]⟩) _ _ hP hD hS ls (lv_sub hl [2, 1, 0] rfl) (by omega)
                    · rw [hR9] at hr9
                      have hr9 : r37 = 0 := hr9
                      subst hr9
                      refine lv_istore (lv' := [(6, .int 0), (0, .ref o), (7, .int (nI m9))]) hx hb d_M_isWord_134 hl (by decide) rfl (fun ls hl => ?_)
                      obtain ⟨x43, ex43⟩ : ∃ y : Int32, y = nI m9 + (-1) := ⟨_, rfl⟩
                      refine lv_iinc (v := x43) (lv' := [(7, .int x43), (6, .int 0), (0, .ref o)]) hx hb d_M_isWord_136 hl (k := 2) rfl (by rw [ex43]; rfl) (by decide) rfl (fun ls hl => ?_)
                      refine lv_goto (tgt := 113) hx hb d_M_isWord_139 (by decide) ?_
                      exact ihm m9 0 x43 u38 u39 u40 (by omega) (by rw [ex43, Int32.sub_eq_add_neg]) (Or.inr ⟨rfl, by rw [hWS]; show j_un (j_ap z18) bs m9 (j_ap z18 (bs m9) (y19, y20, y21)) = none; rw [j_ap, if_pos hz9, if_neg (by rw [hR9]; exact Bool.false_ne_true)]; exact un_none m9⟩) _ _ hP hD hS ls (lv_sub hl [2, 1, 0] rfl) (by omega)
              · obtain ⟨rfl, hWN⟩ := hJ
                refine lv_iload hx hb d_M_isWord_113 (lv_at hl 2 rfl) ?_
                refine lv_if_lt (tgt := 142) hx hb d_M_isWord_115 (by decide) (fun c44 => ?_) (fun c44 => ?_)
                · refine lv_iload hx hb d_M_isWord_142 (lv_at hl 1 rfl) ?_
                  exact W.zret (v := nI 0) hx hb hr rfl (fun t ht hW => ⟨⟨nI 0, (y19, y20, y21, g22), rfl, (Or.inr ⟨rfl, by rw [← hW9]; exact hWN⟩), by rw [ht]; exact hP, va_K.moved hW.alike hK, hD⟩, hS.F ht⟩) hS.2.2 d_M_isWord_144
                · refine lv_iload hx hb d_M_isWord_118 (lv_at hl 1 rfl) ?_
                  refine lv_if_eq (tgt := 142) hx hb d_M_isWord_120 (by decide) (fun c45 => ?_) (fun c45 => absurd c45 (by decide))
                  refine lv_iload hx hb d_M_isWord_142 (lv_at hl 1 rfl) ?_
                  exact W.zret (v := nI 0) hx hb hr rfl (fun t ht hW => ⟨⟨nI 0, (y19, y20, y21, g22), rfl, (Or.inr ⟨rfl, by rw [← hW9]; exact hWN⟩), by rw [ht]; exact hP, va_K.moved hW.alike hK, hD⟩, hS.F ht⟩) hS.2.2 d_M_isWord_144
          exact lopm (n9 + 1) n9 1 ((nI n9) - 1) u30 u31 u32 (Nat.le_refl _) rfl (Or.inl ⟨rfl, by rw [hWD, hc9]⟩) _ _ hP hD hS ls (lv_sub hl [2, 1, 0] rfl) (Nat.lt_succ_self _)
        · obtain ⟨hr9, hc9⟩ := hco
          subst hr9
          refine lv_if_eq (tgt := 104) hx hb d_M_isWord_97 (by decide) (fun c46 => ?_) (fun c46 => absurd c46 (by decide))
          refine lv_iconst (v := 0) hx hb d_M_isWord_104 (by decide) ?_
          refine lv_istore (lv' := [(6, .int 0), (0, .ref o), (1, .int pl), (2, .int dy), (3, .int (nI t)), (4, .int (nI n9)), (5, .int (nI 0))]) hx hb d_M_isWord_105 hl (by decide) rfl (fun ls hl => ?_)
          refine lv_iload hx hb d_M_isWord_107 (lv_at hl 5 rfl) ?_
          refine lv_iconst (v := 1) hx hb d_M_isWord_109 (by decide) ?_
          refine lv_isub hx hb d_M_isWord_110 ?_
          refine lv_istore (lv' := [(7, .int ((nI n9) - 1)), (6, .int 0), (0, .ref o), (1, .int pl), (2, .int dy), (3, .int (nI t)), (4, .int (nI n9)), (5, .int (nI 0))]) hx hb d_M_isWord_111 hl (by decide) rfl (fun ls hl => ?_)
          have lopm : ∀ (nm : Nat) (m9 gd : Nat) (v7 y19 y20 y21 : Int32), (m9 ≤ n9) → (v7 = nI m9 - 1) → ((gd = 1 ∧ W9 = j_un (j_ap z18) bs m9 (some (y19, y20, y21))) ∨ (gd = 0 ∧ W9 = none)) → ∀ (H : Heap) (locs : List Loc), va_P D gC (mX T o a z0 (nI pn) (nI nn) z14 z18 y19 y20 y21 z24 z26 f1 f4 f5 f6 f7 f8 f9 f10 f11 f12 f13 f15 f16 f17 g22 f23 f25 f27) H → va_D A (mX T o a z0 (nI pn) (nI nn) z14 z18 y19 y20 y21 z24 z26 f1 f4 f5 f6 f7 f8 f9 f10 f11 f12 f13 f15 f16 f17 g22 f23 f25 f27) → va_S A s.heap H locs → ∀ (ls : Array Slot), lv_has ls 8 [(0, .ref o), (6, .int (nI gd)), (7, .int v7)] → m9 < nm → W p l e (headSpec (Cond.code y_M_isWord b_M_isWord 8 (some .boolean) :: bg_W) ({ frames := 3, cells := 0, slots := 0, locals := 73 })).room s m ([.ref o, .int pl, .int dy] : List Value).toArray below meth c H locs 0 0 (MQ below (va_Qi (fun (r : Int32) (u : Int32 × Int32 × Int32 × (Nat → Int32)) => match u with | (w19, w20, w21, g22) => (r = 1 ∧ j_wd (j_fb f1 pn) co (j_ap z18) 5 0 = some (w19, w20, w21)) ∨ (r = 0 ∧ j_wd (j_fb f1 pn) co (j_ap z18) 5 0 = none)) (qB D T A (fun u : Int32 × Int32 × Int32 × (Nat → Int32) => match u with | (w19, w20, w21, g22) => mX T o a z0 (nI pn) (nI nn) z14 z18 w19 w20 w21 z24 z26 f1 f4 f5 f6 f7 f8 f9 f10 f11 f12 f13 f15 f16 f17 g22 f23 f25 f27)) A) ([.ref o, .int pl, .int dy] : List Value).toArray s 0 0 A) (F0 m 113 ls []) := by
            intro nm
            induction nm with
            | zero => intro m9 gd v7 y19 y20 y21 hm9 h7 hI H locs hP hD hS ls hl hm; exact absurd hm (Nat.not_lt_zero _)
            | succ nm ihm =>
              intro m9 gd v7 y19 y20 y21 hm9 h7 hI H locs hP hD hS ls hl hm
              rcases hI with hJ | hJ
              · obtain ⟨rfl, hWS⟩ := hJ
                rcases m9 with _ | m9
                · have e7 : v7 = -1 := by rw [h7]; decide
                  subst e7
                  refine lv_iload hx hb d_M_isWord_113 (lv_at hl 2 rfl) ?_
                  refine lv_if_lt (tgt := 142) hx hb d_M_isWord_115 (by decide) (fun c47 => ?_) (fun c47 => absurd c47 (by decide))
                  refine lv_iload hx hb d_M_isWord_142 (lv_at hl 1 rfl) ?_
                  exact W.zret (v := nI 1) hx hb hr rfl (fun t ht hW => ⟨⟨nI 1, (y19, y20, y21, g22), rfl, (Or.inl ⟨rfl, by rw [← hW9, hWS]; rfl⟩), by rw [ht]; exact hP, va_K.moved hW.alike hK, hD⟩, hS.F ht⟩) hS.2.2 d_M_isWord_144
                · have e7 : v7 = nI m9 := by rw [h7]; exact nI_pred m9
                  subst e7
                  obtain ⟨hgm, hbm⟩ := hg m9 (by omega)
                  refine lv_iload hx hb d_M_isWord_113 (lv_at hl 2 rfl) ?_
                  refine lv_if_lt (tgt := 142) hx hb d_M_isWord_115 (by decide) (fun c48 => absurd c48 (nI_pos (by omega))) (fun c48 => ?_)
                  refine lv_iload hx hb d_M_isWord_118 (lv_at hl 1 rfl) ?_
                  refine lv_if_eq (tgt := 142) hx hb d_M_isWord_120 (by decide) (fun c49 => absurd c49 (by decide)) (fun c49 => ?_)
                  refine lv_aload_n hx hb d_M_isWord_123 rfl (lv_at hl 0 rfl) ?_
                  refine lv_aload_n hx hb d_M_isWord_124 rfl (lv_at hl 0 rfl) ?_
                  refine va_get (D := D) (ci := 6) (v := .ref (a 22)) (C := "TimeWordsModel") (T := F_M) (N := 28) hx hb hw in_M hown hK hP 0 rfl rfl 22 (by decide) (hw _ fl_M_57) (fun _ h9 => h9) rfl d_M_isWord_125 ?_
                  refine lv_iload hx hb d_M_isWord_128 (lv_at hl 2 rfl) ?_
                  refine va_iald hx hb hK hP 15 0 rfl rfl (by first | assumption | exact vp_in_nI (by omega) (by omega)) d_M_isWord_130 ?_
                  rw [show (nI m9).toNatClampNeg = m9 from nI_clamp (by omega)]
                  rw [hgm]
                  refine g_calli (va_runV (As := [.int (nI (bs m9))]) (rest := []) ⟨hx, hb, hml, hown, hw⟩ (k_M_makes l D T o a z0 (nI pn) (nI nn) z14 z18 y19 y20 y21 z24 z26 f1 f4 f5 f6 f7 f8 f9 f10 f11 f12 f13 f15 f16 f17 g22 f23 f25 f27 H.size (nI (bs m9))) (cwV 1 hw (bg_V ml_M_154 wi_M_makes wv_M_makes wz_M wc_M_makes) rfl rfl rfl (by decide +kernel) ⟨Nat.le_of_ble_eq_true rfl, Nat.le_of_ble_eq_true rfl⟩) ⟨qP_b, va_recv hK hP (ci := 6) (q0 := 0) rfl rfl, qP_p hP hK hD⟩ rfl rfl hl.1 rfl (lv_room (Nat.le_of_ble_eq_true rfl)) d_M_isWord_131 ⟨Nat.le_of_ble_eq_true rfl, Nat.le_of_ble_eq_true rfl⟩) hD hS hA (fun r50 u9 H locs hr50 hP hD hS => ?_)
                  obtain ⟨u51, u52, u53⟩ := u9
                  dsimp only at hr50 hP hD
                  have hP : va_P D gC (mX T o a z0 (nI pn) (nI nn) z14 z18 u51 u52 u53 z24 z26 f1 f4 f5 f6 f7 f8 f9 f10 f11 f12 f13 f15 f16 f17 g22 f23 f25 f27) H := hP
                  have hD : va_D A (mX T o a z0 (nI pn) (nI nn) z14 z18 u51 u52 u53 z24 z26 f1 f4 f5 f6 f7 f8 f9 f10 f11 f12 f13 f15 f16 f17 g22 f23 f25 f27) := hD
                  rcases hr50 with hM9 | hM9
                  · obtain ⟨hne, hr9, -⟩ := hM9
                    subst hr9
                    refine lv_istore (lv' := [(6, .int 0), (0, .ref o), (7, .int (nI m9))]) hx hb d_M_isWord_134 hl (by decide) rfl (fun ls hl => ?_)
                    obtain ⟨x54, ex54⟩ : ∃ y : Int32, y = nI m9 + (-1) := ⟨_, rfl⟩
                    refine lv_iinc (v := x54) (lv' := [(7, .int x54), (6, .int 0), (0, .ref o)]) hx hb d_M_isWord_136 hl (k := 2) rfl (by rw [ex54]; rfl) (by decide) rfl (fun ls hl => ?_)
                    refine lv_goto (tgt := 113) hx hb d_M_isWord_139 (by decide) ?_
                    exact ihm m9 0 x54 u51 u52 u53 (by omega) (by rw [ex54, Int32.sub_eq_add_neg]) (Or.inr ⟨rfl, by rw [hWS]; show j_un (j_ap z18) bs m9 (j_ap z18 (bs m9) (y19, y20, y21)) = none; rw [j_ap, if_neg hne]; exact un_none m9⟩) _ _ hP hD hS ls (lv_sub hl [2, 1, 0] rfl) (by omega)
                  · obtain ⟨hz9, hr9, hF9, hL9, hO9⟩ := hM9
                    rcases (by cases j_mR (nI (bs m9)) z18 y19 y20 <;> simp : j_mR (nI (bs m9)) z18 y19 y20 = true ∨ j_mR (nI (bs m9)) z18 y19 y20 = false) with hR9 | hR9
                    · rw [hR9] at hr9
                      have hr9 : r50 = 1 := hr9
                      subst hr9
                      refine lv_istore (lv' := [(6, .int 1), (0, .ref o), (7, .int (nI m9))]) hx hb d_M_isWord_134 hl (by decide) rfl (fun ls hl => ?_)
                      obtain ⟨x55, ex55⟩ : ∃ y : Int32, y = nI m9 + (-1) := ⟨_, rfl⟩
                      refine lv_iinc (v := x55) (lv' := [(7, .int x55), (6, .int 1), (0, .ref o)]) hx hb d_M_isWord_136 hl (k := 2) rfl (by rw [ex55]; rfl) (by decide) rfl (fun ls hl => ?_)
                      refine lv_goto (tgt := 113) hx hb d_M_isWord_139 (by decide) ?_
                      exact ihm m9 1 x55 u51 u52 u53 (by omega) (by rw [ex55, Int32.sub_eq_add_neg]) (Or.inl ⟨rfl, by rw [hWS]; show j_un (j_ap z18) bs m9 (j_ap z18 (bs m9) (y19, y20, y21)) = _; rw [j_ap, if_pos hz9, if_pos hR9, hF9, hL9, hO9]⟩) _ _ hP hD hS ls (lv_sub hl [2, 1, 0] rfl) (by omega)
                    · rw [hR9] at hr9
                      have hr9 : r50 = 0 := hr9
                      subst hr9
                      refine lv_istore (lv' := [(6, .int 0), (0, .ref o), (7, .int (nI m9))]) hx hb d_M_isWord_134 hl (by decide) rfl (fun ls hl => ?_)
                      obtain ⟨x56, ex56⟩ : ∃ y : Int32, y = nI m9 + (-1) := ⟨_, rfl⟩
                      refine lv_iinc (v := x56) (lv' := [(7, .int x56), (6, .int 0), (0, .ref o)]) hx hb d_M_isWord_136 hl (k := 2) rfl (by rw [ex56]; rfl) (by decide) rfl (fun ls hl => ?_)
                      refine lv_goto (tgt := 113) hx hb d_M_isWord_139 (by decide) ?_
                      exact ihm m9 0 x56 u51 u52 u53 (by omega) (by rw [ex56, Int32.sub_eq_add_neg]) (Or.inr ⟨rfl, by rw [hWS]; show j_un (j_ap z18) bs m9 (j_ap z18 (bs m9) (y19, y20, y21)) = none; rw [j_ap, if_pos hz9, if_neg (by rw [hR9]; exact Bool.false_ne_true)]; exact un_none m9⟩) _ _ hP hD hS ls (lv_sub hl [2, 1, 0] rfl) (by omega)
              · obtain ⟨rfl, hWN⟩ := hJ
                refine lv_iload hx hb d_M_isWord_113 (lv_at hl 2 rfl) ?_
                refine lv_if_lt (tgt := 142) hx hb d_M_isWord_115 (by decide) (fun c57 => ?_) (fun c57 => ?_)
                · refine lv_iload hx hb d_M_isWord_142 (lv_at hl 1 rfl) ?_
                  exact W.zret (v := nI 0) hx hb hr rfl (fun t ht hW => ⟨⟨nI 0, (y19, y20, y21, g22), rfl, (Or.inr ⟨rfl, by rw [← hW9]; exact hWN⟩), by rw [ht]; exact hP, va_K.moved hW.alike hK, hD⟩, hS.F ht⟩) hS.2.2 d_M_isWord_144
                · refine lv_iload hx hb d_M_isWord_118 (lv_at hl 1 rfl) ?_
                  refine lv_if_eq (tgt := 142) hx hb d_M_isWord_120 (by decide) (fun c58 => ?_) (fun c58 => absurd c58 (by decide))
                  refine lv_iload hx hb d_M_isWord_142 (lv_at hl 1 rfl) ?_
                  exact W.zret (v := nI 0) hx hb hr rfl (fun t ht hW => ⟨⟨nI 0, (y19, y20, y21, g22), rfl, (Or.inr ⟨rfl, by rw [← hW9]; exact hWN⟩), by rw [ht]; exact hP, va_K.moved hW.alike hK, hD⟩, hS.F ht⟩) hS.2.2 d_M_isWord_144
          exact lopm (n9 + 1) n9 0 ((nI n9) - 1) u30 u31 u32 (Nat.le_refl _) rfl (Or.inr ⟨rfl, by rw [hWD, hc9]; exact un_none _⟩) _ _ hP hD hS ls (lv_sub hl [2, 1, 0] rfl) (Nat.lt_succ_self _)
  exact loop ((12 - 2 * 0 + 1) + 1) 0 0 1 (fun _ => 0) f22 (Nat.zero_le _) (fun i hi => absurd hi (Nat.not_lt_zero i)) (Or.inl ⟨rfl, by omega, hW9⟩) _ _ hP hD hS ls (lv_sub hl [3, 4, 5, 2, 1, 0] rfl) (Nat.lt_succ_self _)

set_option maxHeartbeats 4000000 in
set_option maxRecDepth 100000 in
theorem k_M_read (l : Launch) (D : va_G) (T : gT) (o : Nat) (a : Nat → Nat) (z0 : Int32) (pn nn sn : Nat) (z18 z19 z20 z21 z24 z26 : Int32) (f1 f4 f5 f6 f7 f8 f9 f10 f11 f12 f13 f15 f16 f17 f22 f23 f25 f27 : Nat → Int32) (sz : Nat) (pl dy : Int32) (ln ck : Nat → Nat) (co : Nat → Option jS) (hy0 : pn ≤ 24) (hy1 : nn ≤ 24) (hy2 : ∀ i, f5 i = nI (ln i)) (hy3 : ∀ i, ln i ≤ 8) (hy4 : ∀ i, f9 i = nI (ck i)) (hy5 : ∀ i, ck i ≤ 6) (hy6 : ∀ t9, j_ce f1 pn t9 = true → co t9 = if j_cv f1 pn t9 ≤ 0 then none else some (100 * (j_cv f1 pn t9 - 1) + 1, 100 * j_cv f1 pn t9, 0)) (hy7 : ∀ t9, j_ce f1 pn t9 = false → (∀ i, i < nn → ¬ j_mt f1 f4 ln pn t9 i) → co t9 = none) (hy8 : ∀ t9, j_ce f1 pn t9 = false → ∀ i, i < nn → j_mt f1 f4 ln pn t9 i → co t9 = j_nv f6 f7 f8 f10 f11 f12 f13 ck pl dy i) (hy9 : sn ≤ 60) : Met l y_M_read (Cond.code y_M_read b_M_read 4 (some .int) :: bg_W) ({ frames := 4, cells := 0, slots := 0, locals := 100 }) (qP D T (mX T o a z0 (nI pn) (nI nn) (nI sn) z18 z19 z20 z21 z24 z26 f1 f4 f5 f6 f7 f8 f9 f10 f11 f12 f13 f15 f16 f17 f22 f23 f25 f27) [.ref o, .int pl, .int dy] sz) (va_Qi (fun (r : Int32) (u : Int32 × Int32 × Int32 × Int32 × Int32 × (Nat → Int32) × (Nat → Int32) × (Nat → Int32) × (Nat → Int32) × Int32) => match u with | (w0, w2, w19, w20, w21, g22, g15, g16, g17, w14) => (j_in pl 0 7 = false ∧ r = 0 ∧ w0 = 1 ∧ w2 = nI pn ∧ g15 = f15 ∧ g16 = f16 ∧ g17 = f17 ∧ w14 = nI sn) ∨ (j_in pl 0 7 = true ∧ j_in dy 0 100000 = false ∧ r = 0 ∧ w0 = 2 ∧ w2 = nI pn ∧ g15 = f15 ∧ g16 = f16 ∧ g17 = f17 ∧ w14 = nI sn) ∨ (j_in pl 0 7 = true ∧ j_in dy 0 100000 = true ∧ sn = 60 ∧ r = 0 ∧ w0 = 3 ∧ w2 = nI pn ∧ g15 = f15 ∧ g16 = f16 ∧ g17 = f17 ∧ w14 = nI sn) ∨ (j_in pl 0 7 = true ∧ j_in dy 0 100000 = true ∧ sn < 60 ∧ w0 = 0 ∧ w2 = 0 ∧ ((j_wd (j_fb f1 pn) co (j_ap z18) 5 0 = some (w19, w20, w21) ∧ r = nI sn ∧ g15 = upd f15 sn w19 ∧ g16 = upd f16 sn w20 ∧ g17 = upd f17 sn w21 ∧ w14 = nI (sn + 1)) ∨ (j_wd (j_fb f1 pn) co (j_ap z18) 5 0 = none ∧ r = -1 ∧ g15 = f15 ∧ g16 = f16 ∧ g17 = f17 ∧ w14 = nI sn)))) (qB D T (va_A (mX T o a z0 (nI pn) (nI nn) (nI sn) z18 z19 z20 z21 z24 z26 f1 f4 f5 f6 f7 f8 f9 f10 f11 f12 f13 f15 f16 f17 f22 f23 f25 f27) sz) (fun u : Int32 × Int32 × Int32 × Int32 × Int32 × (Nat → Int32) × (Nat → Int32) × (Nat → Int32) × (Nat → Int32) × Int32 => match u with | (w0, w2, w19, w20, w21, g22, g15, g16, g17, w14) => mX T o a w0 w2 (nI nn) w14 z18 w19 w20 w21 z24 z26 f1 f4 f5 f6 f7 f8 f9 f10 f11 f12 f13 g15 g16 g17 g22 f23 f25 f27)) (va_A (mX T o a z0 (nI pn) (nI nn) (nI sn) z18 z19 z20 z21 z24 z26 f1 f4 f5 f6 f7 f8 f9 f10 f11 f12 f13 f15 f16 f17 f22 f23 f25 f27) sz)) 0 0 (va_A (mX T o a z0 (nI pn) (nI nn) (nI sn) z18 z19 z20 z21 z24 z26 f1 f4 f5 f6 f7 f8 f9 f10 f11 f12 f13 f15 f16 f17 f22 f23 f25 f27) sz) := by
  refine Met.ofW (cc := b_M_read) (maxL := 4) (ret := (some .int)) (by decide) rfl ?_
  intro p e s m args below meth c s₁ B hml hv
  obtain ⟨rfl, hsz, hP, hK, hD0⟩ := hv
  have hx := B.exec
  have hb := B.bytes
  have hr := B.returns
  have hw : ∀ w ∈ bg_W, w.before ([.ref o, .int pl, .int dy] : List Value).toArray s = true := fun w h => atoms_spec (ws := (Cond.code y_M_read b_M_read 4 (some .int) :: bg_W)) B.pre w (List.mem_cons_of_mem _ h)
  have hown : s.vm.findClass "TimeWordsModel" = some m.cls := findClass_of_methodNamed B.named
  have hlocks := B.notSynchronized
  subst hsz
  have hD := hD0.self (sz := s.heap.size)
  generalize hAe : va_A (mX T o a z0 (nI pn) (nI nn) (nI sn) z18 z19 z20 z21 z24 z26 f1 f4 f5 f6 f7 f8 f9 f10 f11 f12 f13 f15 f16 f17 f22 f23 f25 f27) s.heap.size = A at hD ⊢
  have hA : ∀ q : Nat, s.heap.size ≤ q → A q := fun q h => by rw [← hAe]; exact Or.inr h
  have hS : va_S A s.heap s.heap [] := va_S.rf
  have hl := lv_entry ([.ref o, .int pl, .int dy]) (n := 4) (Nat.le_of_ble_eq_true rfl)
  rw [lg_entry_eq]
  generalize (lg_sl ([.ref o, .int pl, .int dy]) ++ List.replicate (4 - (lg_sl ([.ref o, .int pl, .int dy])).length) Slot.unset).toArray = ls at hl ⊢
  have hl : lv_has ls 4 [(0, .ref o), (1, .int pl), (2, .int dy)] := hl
  refine lv_aload_n hx hb d_M_read_0 rfl (lv_at hl 0 rfl) ?_
  refine lv_iload_n hx hb d_M_read_1 rfl (lv_at hl 1 rfl) ?_
  refine lv_iconst (v := 0) hx hb d_M_read_2 (by decide) ?_
  refine lv_bipush (v := 7) hx hb d_M_read_3 (by decide) ?_
  refine vp_callSi (va_Run.run (va_runS (As := [.int pl, .int 0, .int 7]) (rest := [.ref o]) ⟨hx, hb, hml, hown, hw⟩ (k_M_in l pl 0 7) (va_cwS 3 hw (bg_S ml_M_72 wt_M_in wz_M wc_M_in) rfl rfl rfl (by decide +kernel) ⟨Nat.le_of_ble_eq_true rfl, Nat.le_of_ble_eq_true rfl⟩) ⟨nP_b, nP_p⟩ rfl rfl hl.1 rfl (lv_room (Nat.le_of_ble_eq_true rfl)) d_M_read_5 ⟨Nat.le_of_ble_eq_true rfl, Nat.le_of_ble_eq_true rfl⟩)) (fun r1 hr1 => ?_)
  replace hr1 := hr1.symm; subst hr1
  refine lv_if_ne (tgt := 15) hx hb d_M_read_8 (by decide) (fun c2 => ?_) (fun c2 => ?_)
  · have c2 := b2i_t c2
    refine lv_iload_n hx hb d_M_read_15 rfl (lv_at hl 2 rfl) ?_
    refine lv_iconst (v := 0) hx hb d_M_read_16 (by decide) ?_
    refine lv_ldc (v := 100000) hx hb hown (hw _ ci_M_105) d_M_read_17 ?_
    refine vp_callSi (va_Run.run (va_runS (As := [.int dy, .int 0, .int 100000]) (rest := [.ref o]) ⟨hx, hb, hml, hown, hw⟩ (k_M_in l dy 0 100000) (va_cwS 3 hw (bg_S ml_M_72 wt_M_in wz_M wc_M_in) rfl rfl rfl (by decide +kernel) ⟨Nat.le_of_ble_eq_true rfl, Nat.le_of_ble_eq_true rfl⟩) ⟨nP_b, nP_p⟩ rfl rfl hl.1 rfl (lv_room (Nat.le_of_ble_eq_true rfl)) d_M_read_19 ⟨Nat.le_of_ble_eq_true rfl, Nat.le_of_ble_eq_true rfl⟩)) (fun r3 hr3 => ?_)
    replace hr3 := hr3.symm; subst hr3
    refine lv_if_ne (tgt := 29) hx hb d_M_read_22 (by decide) (fun c4 => ?_) (fun c4 => ?_)
    · have c4 := b2i_t c4
      refine lv_aload_n hx hb d_M_read_29 rfl (lv_at hl 0 rfl) ?_
      refine va_get (D := D) (ci := 6) (v := .int (nI sn)) (C := "TimeWordsModel") (T := F_M) (N := 28) hx hb hw in_M hown hK hP 0 rfl rfl 14 (by decide) (hw _ fl_M_79) (fun _ h9 => h9) rfl d_M_read_30 ?_
      refine lv_bipush (v := 60) hx hb d_M_read_33 (by decide) ?_
      refine lv_icmp_ne (tgt := 42) hx hb d_M_read_35 (by decide) (fun c5 => ?_) (fun c5 => ?_)
      · have c5 := nc_ne (a := sn) (b := 60) c5 (by omega) (by omega)
        have hlt : sn < 60 := by omega
        refine lv_iconst (v := 0) hx hb d_M_read_42 (by decide) ?_
        refine va_put (D := D) (ci := 6) (v := .int 0) (ty := .int) (C := "TimeWordsModel") (T := F_M) (N := 28) hx hb hw in_M ty_M ty_M_ok n_M hown hK hP hD hS 0 rfl rfl 0 (by decide) (hw _ fl_M_69) (fun _ h9 => h9) rfl (by decide +kernel) rfl rfl (Nat.le_of_ble_eq_true rfl) d_M_read_43 (fun H locs hP hD hS => ?_)
        have hP : va_P D gC (mX T o a 0 (nI pn) (nI nn) (nI sn) z18 z19 z20 z21 z24 z26 f1 f4 f5 f6 f7 f8 f9 f10 f11 f12 f13 f15 f16 f17 f22 f23 f25 f27) H := hP
        have hD : va_D A (mX T o a 0 (nI pn) (nI nn) (nI sn) z18 z19 z20 z21 z24 z26 f1 f4 f5 f6 f7 f8 f9 f10 f11 f12 f13 f15 f16 f17 f22 f23 f25 f27) := hD
        refine lv_aload_n hx hb d_M_read_46 rfl (lv_at hl 0 rfl) ?_
        refine va_get (D := D) (ci := 6) (v := .int 0) (C := "TimeWordsModel") (T := F_M) (N := 28) hx hb hw in_M hown hK hP 0 rfl rfl 0 (by decide) (hw _ fl_M_69) (fun _ h9 => h9) rfl d_M_read_47 ?_
        refine lv_if_le (tgt := 55) hx hb d_M_read_50 (by decide) (fun c6 => ?_) (fun c6 => absurd c6 (by decide))
        refine lv_aload_n hx hb d_M_read_55 rfl (lv_at hl 0 rfl) ?_
        refine lv_iload_n hx hb d_M_read_56 rfl (lv_at hl 1 rfl) ?_
        refine lv_iload_n hx hb d_M_read_57 rfl (lv_at hl 2 rfl) ?_
        refine g_calli (va_runV (As := [.int pl, .int dy]) (rest := []) ⟨hx, hb, hml, hown, hw⟩ (k_M_isWord l D T o a 0 pn nn (nI sn) z18 z19 z20 z21 z24 z26 f1 f4 f5 f6 f7 f8 f9 f10 f11 f12 f13 f15 f16 f17 f22 f23 f25 f27 H.size pl dy ln ck co hy0 hy1 hy2 hy3 hy4 hy5 hy6 hy7 hy8) (cwV 2 hw (bg_V ml_M_157 wi_M_isWord wv_M_isWord wz_M wc_M_isWord) rfl rfl rfl (by decide +kernel) ⟨Nat.le_of_ble_eq_true rfl, Nat.le_of_ble_eq_true rfl⟩) ⟨qP_b, va_recv hK hP (ci := 6) (q0 := 0) rfl rfl, qP_p hP hK hD⟩ rfl rfl hl.1 rfl (lv_room (Nat.le_of_ble_eq_true rfl)) d_M_read_58 ⟨Nat.le_of_ble_eq_true rfl, Nat.le_of_ble_eq_true rfl⟩) hD hS hA (fun r7 u9 H locs hr7 hP hD hS => ?_)
        obtain ⟨u8, u9, u10, u11⟩ := u9
        dsimp only at hr7 hP hD
        have hP : va_P D gC (mX T o a 0 (nI pn) (nI nn) (nI sn) z18 u8 u9 u10 z24 z26 f1 f4 f5 f6 f7 f8 f9 f10 f11 f12 f13 f15 f16 f17 u11 f23 f25 f27) H := hP
        have hD : va_D A (mX T o a 0 (nI pn) (nI nn) (nI sn) z18 u8 u9 u10 z24 z26 f1 f4 f5 f6 f7 f8 f9 f10 f11 f12 f13 f15 f16 f17 u11 f23 f25 f27) := hD
        rcases hr7 with hw9 | hw9
        · obtain ⟨hr9, hc9⟩ := hw9
          subst hr9
          refine lv_istore_n (lv' := [(3, .int 1), (0, .ref o), (1, .int pl), (2, .int dy)]) hx hb d_M_read_61 rfl hl (by decide) rfl (fun ls hl => ?_)
          refine lv_aload_n hx hb d_M_read_62 rfl (lv_at hl 1 rfl) ?_
          refine lv_iconst (v := 0) hx hb d_M_read_63 (by decide) ?_
          refine va_put (D := D) (ci := 6) (v := .int 0) (ty := .int) (C := "TimeWordsModel") (T := F_M) (N := 28) hx hb hw in_M ty_M ty_M_ok n_M hown hK hP hD hS 0 rfl rfl 2 (by decide) (hw _ fl_M_93) (fun _ h9 => h9) rfl (by decide +kernel) rfl rfl (Nat.le_of_ble_eq_true rfl) d_M_read_64 (fun H locs hP hD hS => ?_)
          have hP : va_P D gC (mX T o a 0 0 (nI nn) (nI sn) z18 u8 u9 u10 z24 z26 f1 f4 f5 f6 f7 f8 f9 f10 f11 f12 f13 f15 f16 f17 u11 f23 f25 f27) H := hP
          have hD : va_D A (mX T o a 0 0 (nI nn) (nI sn) z18 u8 u9 u10 z24 z26 f1 f4 f5 f6 f7 f8 f9 f10 f11 f12 f13 f15 f16 f17 u11 f23 f25 f27) := hD
          refine lv_iload_n hx hb d_M_read_67 rfl (lv_at hl 0 rfl) ?_
          refine lv_if_eq (tgt := 78) hx hb d_M_read_68 (by decide) (fun c12 => absurd c12 (by decide)) (fun c12 => ?_)
          refine lv_aload_n hx hb d_M_read_71 rfl (lv_at hl 1 rfl) ?_
          refine g_calli (va_runV (As := []) (rest := []) ⟨hx, hb, hml, hown, hw⟩ (k_M_make l D T o a 0 0 (nI nn) sn z18 u8 u9 u10 z24 z26 f1 f4 f5 f6 f7 f8 f9 f10 f11 f12 f13 f15 f16 f17 u11 f23 f25 f27 H.size (by assumption)) (cwV 0 hw (bg_V ml_M_160 wi_M_make wv_M_make wz_M wc_M_make) rfl rfl rfl (by decide +kernel) ⟨Nat.le_of_ble_eq_true rfl, Nat.le_of_ble_eq_true rfl⟩) ⟨qP_b, va_recv hK hP (ci := 6) (q0 := 0) rfl rfl, qP_p hP hK hD⟩ rfl rfl hl.1 rfl (lv_room (Nat.le_of_ble_eq_true rfl)) d_M_read_72 ⟨Nat.le_of_ble_eq_true rfl, Nat.le_of_ble_eq_true rfl⟩) hD hS hA (fun r13 u9 H locs hr13 hP hD hS => ?_)
          obtain ⟨u14, u15, u16, u17⟩ := u9
          dsimp only at hr13 hP hD
          obtain ⟨q0, q1, q2, q3, q4⟩ := hr13
          replace q0 := q0.symm; subst q0; replace q1 := q1.symm; subst q1; replace q2 := q2.symm; subst q2; replace q3 := q3.symm; subst q3; replace q4 := q4.symm; subst q4
          have hP : va_P D gC (mX T o a 0 0 (nI nn) (nI (sn + 1)) z18 u8 u9 u10 z24 z26 f1 f4 f5 f6 f7 f8 f9 f10 f11 f12 f13 (upd f15 sn u8) (upd f16 sn u9) (upd f17 sn u10) u11 f23 f25 f27) H := hP
          have hD : va_D A (mX T o a 0 0 (nI nn) (nI (sn + 1)) z18 u8 u9 u10 z24 z26 f1 f4 f5 f6 f7 f8 f9 f10 f11 f12 f13 (upd f15 sn u8) (upd f16 sn u9) (upd f17 sn u10) u11 f23 f25 f27) := hD
          refine lv_goto (tgt := 79) hx hb d_M_read_75 (by decide) ?_
          exact W.iret (v := nI sn) hx hb hr (fun t ht hW => ⟨⟨nI sn, (0, 0, u8, u9, u10, u11, upd f15 sn u8, upd f16 sn u9, upd f17 sn u10, nI (sn + 1)), rfl, (Or.inr (Or.inr (Or.inr ⟨by assumption, by assumption, hlt, rfl, rfl, Or.inl ⟨hc9, rfl, rfl, rfl, rfl, rfl⟩⟩))), by rw [ht]; exact hP, va_K.moved hW.alike hK, hD⟩, hS.F ht⟩) hS.2.2 d_M_read_79
        · obtain ⟨hr9, hc9⟩ := hw9
          subst hr9
          refine lv_istore_n (lv' := [(3, .int 0), (0, .ref o), (1, .int pl), (2, .int dy)]) hx hb d_M_read_61 rfl hl (by decide) rfl (fun ls hl => ?_)
          refine lv_aload_n hx hb d_M_read_62 rfl (lv_at hl 1 rfl) ?_
          refine lv_iconst (v := 0) hx hb d_M_read_63 (by decide) ?_
          refine va_put (D := D) (ci := 6) (v := .int 0) (ty := .int) (C := "TimeWordsModel") (T := F_M) (N := 28) hx hb hw in_M ty_M ty_M_ok n_M hown hK hP hD hS 0 rfl rfl 2 (by decide) (hw _ fl_M_93) (fun _ h9 => h9) rfl (by decide +kernel) rfl rfl (Nat.le_of_ble_eq_true rfl) d_M_read_64 (fun H locs hP hD hS => ?_)
          have hP : va_P D gC (mX T o a 0 0 (nI nn) (nI sn) z18 u8 u9 u10 z24 z26 f1 f4 f5 f6 f7 f8 f9 f10 f11 f12 f13 f15 f16 f17 u11 f23 f25 f27) H := hP
          have hD : va_D A (mX T o a 0 0 (nI nn) (nI sn) z18 u8 u9 u10 z24 z26 f1 f4 f5 f6 f7 f8 f9 f10 f11 f12 f13 f15 f16 f17 u11 f23 f25 f27) := hD
          refine lv_iload_n hx hb d_M_read_67 rfl (lv_at hl 0 rfl) ?_
          refine lv_if_eq (tgt := 78) hx hb d_M_read_68 (by decide) (fun c18 => ?_) (fun c18 => absurd c18 (by decide))
          refine lv_iconst (v := (-1)) hx hb d_M_read_78 (by decide) ?_
          exact W.iret (v := (-1)) hx hb hr (fun t ht hW => ⟨⟨(-1), (0, 0, u8, u9, u10, u11, f15, f16, f17, nI sn), rfl, (Or.inr (Or.inr (Or.inr ⟨by assumption, by assumption, hlt, rfl, rfl, Or.inr ⟨hc9, rfl, rfl, rfl, rfl, rfl⟩⟩))), by rw [ht]; exact hP, va_K.moved hW.alike hK, hD⟩, hS.F ht⟩) hS.2.2 d_M_read_79
      · have c5 := nc_eq (a := sn) (b := 60) c5 (by omega) (by omega)
        refine lv_iconst (v := 3) hx hb d_M_read_38 (by decide) ?_
        refine lv_goto (tgt := 43) hx hb d_M_read_39 (by decide) ?_
        refine va_put (D := D) (ci := 6) (v := .int 3) (ty := .int) (C := "TimeWordsModel") (T := F_M) (N := 28) hx hb hw in_M ty_M ty_M_ok n_M hown hK hP hD hS 0 rfl rfl 0 (by decide) (hw _ fl_M_69) (fun _ h9 => h9) rfl (by decide +kernel) rfl rfl (Nat.le_of_ble_eq_true rfl) d_M_read_43 (fun H locs hP hD hS => ?_)
        have hP : va_P D gC (mX T o a 3 (nI pn) (nI nn) (nI sn) z18 z19 z20 z21 z24 z26 f1 f4 f5 f6 f7 f8 f9 f10 f11 f12 f13 f15 f16 f17 f22 f23 f25 f27) H := hP
        have hD : va_D A (mX T o a 3 (nI pn) (nI nn) (nI sn) z18 z19 z20 z21 z24 z26 f1 f4 f5 f6 f7 f8 f9 f10 f11 f12 f13 f15 f16 f17 f22 f23 f25 f27) := hD
        refine lv_aload_n hx hb d_M_read_46 rfl (lv_at hl 0 rfl) ?_
        refine va_get (D := D) (ci := 6) (v := .int 3) (C := "TimeWordsModel") (T := F_M) (N := 28) hx hb hw in_M hown hK hP 0 rfl rfl 0 (by decide) (hw _ fl_M_69) (fun _ h9 => h9) rfl d_M_read_47 ?_
        refine lv_if_le (tgt := 55) hx hb d_M_read_50 (by decide) (fun c19 => absurd c19 (by decide)) (fun c19 => ?_)
        refine lv_iconst (v := 0) hx hb d_M_read_53 (by decide) ?_
        exact W.iret (v := 0) hx hb hr (fun t ht hW => ⟨⟨0, (3, nI pn, z19, z20, z21, f22, f15, f16, f17, nI sn), rfl, (Or.inr (Or.inr (Or.inl ⟨by assumption, by assumption, c5, rfl, rfl, rfl, rfl, rfl, rfl, rfl⟩))), by rw [ht]; exact hP, va_K.moved hW.alike hK, hD⟩, hS.F ht⟩) hS.2.2 d_M_read_54
    · have c4 := b2i_f c4
      refine lv_iconst (v := 2) hx hb d_M_read_25 (by decide) ?_
      refine lv_goto (tgt := 43) hx hb d_M_read_26 (by decide) ?_
      refine va_put (D := D) (ci := 6) (v := .int 2) (ty := .int) (C := "TimeWordsModel") (T := F_M) (N := 28) hx hb hw in_M ty_M ty_M_ok n_M hown hK hP hD hS 0 rfl rfl 0 (by decide) (hw _ fl_M_69) (fun _ h9 => h9) rfl (by decide +kernel) rfl rfl (Nat.le_of_ble_eq_true rfl) d_M_read_43 (fun H locs hP hD hS => ?_)
      have hP : va_P D gC (mX T o a 2 (nI pn) (nI nn) (nI sn) z18 z19 z20 z21 z24 z26 f1 f4 f5 f6 f7 f8 f9 f10 f11 f12 f13 f15 f16 f17 f22 f23 f25 f27) H := hP
      have hD : va_D A (mX T o a 2 (nI pn) (nI nn) (nI sn) z18 z19 z20 z21 z24 z26 f1 f4 f5 f6 f7 f8 f9 f10 f11 f12 f13 f15 f16 f17 f22 f23 f25 f27) := hD
      refine lv_aload_n hx hb d_M_read_46 rfl (lv_at hl 0 rfl) ?_
      refine va_get (D := D) (ci := 6) (v := .int 2) (C := "TimeWordsModel") (T := F_M) (N := 28) hx hb hw in_M hown hK hP 0 rfl rfl 0 (by decide) (hw _ fl_M_69) (fun _ h9 => h9) rfl d_M_read_47 ?_
      refine lv_if_le (tgt := 55) hx hb d_M_read_50 (by decide) (fun c20 => absurd c20 (by decide)) (fun c20 => ?_)
      refine lv_iconst (v := 0) hx hb d_M_read_53 (by decide) ?_
      exact W.iret (v := 0) hx hb hr (fun t ht hW => ⟨⟨0, (2, nI pn, z19, z20, z21, f22, f15, f16, f17, nI sn), rfl, (Or.inr (Or.inl ⟨by assumption, by assumption, rfl, rfl, rfl, rfl, rfl, rfl, rfl⟩)), by rw [ht]; exact hP, va_K.moved hW.alike hK, hD⟩, hS.F ht⟩) hS.2.2 d_M_read_54
  · have c2 := b2i_f c2
    refine lv_iconst (v := 1) hx hb d_M_read_11 (by decide) ?_
    refine lv_goto (tgt := 43) hx hb d_M_read_12 (by decide) ?_
    refine va_put (D := D) (ci := 6) (v := .int 1) (ty := .int) (C := "TimeWordsModel") (T := F_M) (N := 28) hx hb hw in_M ty_M ty_M_ok n_M hown hK hP hD hS 0 rfl rfl 0 (by decide) (hw _ fl_M_69) (fun _ h9 => h9) rfl (by decide +kernel) rfl rfl (Nat.le_of_ble_eq_true rfl) d_M_read_43 (fun H locs hP hD hS => ?_)
    have hP : va_P D gC (mX T o a 1 (nI pn) (nI nn) (nI sn) z18 z19 z20 z21 z24 z26 f1 f4 f5 f6 f7 f8 f9 f10 f11 f12 f13 f15 f16 f17 f22 f23 f25 f27) H := hP
    have hD : va_D A (mX T o a 1 (nI pn) (nI nn) (nI sn) z18 z19 z20 z21 z24 z26 f1 f4 f5 f6 f7 f8 f9 f10 f11 f12 f13 f15 f16 f17 f22 f23 f25 f27) := hD
    refine lv_aload_n hx hb d_M_read_46 rfl (lv_at hl 0 rfl) ?_
    refine va_get (D := D) (ci := 6) (v := .int 1) (C := "TimeWordsModel") (T := F_M) (N := 28) hx hb hw in_M hown hK hP 0 rfl rfl 0 (by decide) (hw _ fl_M_69) (fun _ h9 => h9) rfl d_M_read_47 ?_
    refine lv_if_le (tgt := 55) hx hb d_M_read_50 (by decide) (fun c21 => absurd c21 (by decide)) (fun c21 => ?_)
    refine lv_iconst (v := 0) hx hb d_M_read_53 (by decide) ?_
    exact W.iret (v := 0) hx hb hr (fun t ht hW => ⟨⟨0, (1, nI pn, z19, z20, z21, f22, f15, f16, f17, nI sn), rfl, (Or.inl ⟨by assumption, rfl, rfl, rfl, rfl, rfl, rfl, rfl⟩), by rw [ht]; exact hP, va_K.moved hW.alike hK, hD⟩, hS.F ht⟩) hS.2.2 d_M_read_54
