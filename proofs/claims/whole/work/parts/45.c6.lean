set_option maxHeartbeats 4000000 in
set_option maxRecDepth 100000 in
theorem k_N_yearsAt (l : Launch) (D : va_G) (T : gT) (κ : gS) (A : Nat → Prop) (n : nmD) (x y : Int32) (hy0 : nmOk κ n) : Met l y_N_yearsAt (Cond.code y_N_yearsAt b_N_yearsAt 7 (some (.object "TimeWords$Years")) :: bg_W) ({ frames := 3, cells := 0, slots := 0, locals := 64 }) (sPf κ A D T ([] ++ nmW T n) [.ref (nA n), .int x, .int y]) (va_Sq (fun r : Option Nat => r = (ya x y n).1.map (fun r => r.1))) 0 0 (fun _ => False) := by
  refine Met.ofW (cc := b_N_yearsAt) (maxL := 7) (ret := (some (.object "TimeWords$Years"))) (by decide) rfl ?_
  intro p e s m args below meth c s₁ B hml hv
  obtain ⟨rfl, hP, hK, hF⟩ := hv
  have hx := B.exec
  have hb := B.bytes
  have hr := B.returns
  have hw : ∀ w ∈ bg_W, w.before ([.ref (nA n), .int x, .int y] : List Value).toArray s = true := fun w h => atoms_spec (ws := (Cond.code y_N_yearsAt b_N_yearsAt 7 (some (.object "TimeWords$Years")) :: bg_W)) B.pre w (List.mem_cons_of_mem _ h)
  have hown : s.vm.findClass "TimeWords$Name" = some m.cls := findClass_of_methodNamed B.named
  have hlocks := B.notSynchronized
  have hS : va_S A s.heap s.heap [] := va_S.rf
  have hl := lv_entry ([.ref (nA n), .int x, .int y]) (n := 7) (Nat.le_of_ble_eq_true rfl)
  rw [lg_entry_eq]
  generalize (lg_sl ([.ref (nA n), .int x, .int y]) ++ List.replicate (7 - (lg_sl ([.ref (nA n), .int x, .int y])).length) Slot.unset).toArray = ls at hl ⊢
  have hl : lv_has ls 7 [(0, .ref (nA n)), (1, .int x), (2, .int y)] := hl
  have hn6 : (nH n).length ≤ 6 := hy0.2.1
  have loop : ∀ (nf : Nat) (j : Nat), (j ≤ (nH n).length) → ∀ (ls : Array Slot), lv_has ls 7 [(0, .ref (nA n)), (1, .int x), (2, .int y), (3, va_rf (((yt x y n j).1).map (fun r => r.1))), (4, .int ((yt x y n j).2)), (5, .int (nI j))] → (nH n).length - j < nf → W p l e (headSpec (Cond.code y_N_yearsAt b_N_yearsAt 7 (some (.object "TimeWords$Years")) :: bg_W) ({ frames := 3, cells := 0, slots := 0, locals := 64 })).room s m ([.ref (nA n), .int x, .int y] : List Value).toArray below meth c s.heap [] 0 0 (MQ below (va_Sq (fun r : Option Nat => r = (ya x y n).1.map (fun r => r.1))) ([.ref (nA n), .int x, .int y] : List Value).toArray s 0 0 (fun _ => False)) (F0 m 11 ls []) := by
    intro nf
    induction nf with
    | zero => intro j hj ls hl hm; exact absurd hm (Nat.not_lt_zero _)
    | succ nf ih =>
      intro j hj ls hl hm
      refine lv_iload hx hb d_N_yearsAt_11 (lv_at hl 5 rfl) ?_
      refine lv_aload_n hx hb d_N_yearsAt_13 rfl (lv_at hl 0 rfl) ?_
      refine va_get (D := D) (ci := 4) (v := .ref ((nL n).1)) (C := "TimeWords$Name") (T := F_N) (N := 3) hx hb hw in_N hown hK (pc1 (hP.mem (List.mem_append_right _ nmm_o)) pc0) 0 rfl rfl 1 (by decide) (hw _ fl_N_27) (fun _ h9 => h9) rfl d_N_yearsAt_14 ?_
      have hPc : va_P D gC ([((nL n).1, .inr (0, [.ref ((nL n).2.1), .int (nI (nH n).length), .int ((nL n).2.2.1)]))]) s.heap := (pc1 (hP.mem (List.mem_append_right _ nmm_l)) pc0)
      refine vp_callSi (va_Run.run (va_runV (As := []) (rest := [.int (nI j)]) ⟨hx, hb, hml, hown, hw⟩ (k_A_size l D T ((nL n).1) ((nL n).2.1) ((nH n).length) ((nL n).2.2.1)) (cwV 0 hw (bg_V ml_N_35 wi_A_size wv_A_size wz_A wc_A_size) rfl rfl rfl (by decide +kernel) ⟨Nat.le_of_ble_eq_true rfl, Nat.le_of_ble_eq_true rfl⟩) ⟨sP_b, va_recv hK hPc (ci := 0) (q0 := 0) rfl rfl, sP_p hPc hK⟩ rfl rfl hl.1 rfl (lv_room (Nat.le_of_ble_eq_true rfl)) d_N_yearsAt_17 ⟨Nat.le_of_ble_eq_true rfl, Nat.le_of_ble_eq_true rfl⟩)) (fun r1 hr1 => ?_)
      replace hr1 := hr1.symm; subst hr1
      refine lv_icmp_ge (tgt := 84) hx hb d_N_yearsAt_20 (by decide) (fun c2 => ?_) (fun c2 => ?_)
      · have c2 := nc_le (a := (nH n).length) (b := j) c2 (by omega) (by omega)
        obtain ⟨o9, ho⟩ : ∃ o9, o9 = ((yt x y n j).1).map (fun r => r.1) := ⟨_, rfl⟩
        rw [← ho] at hl
        rcases o9 with _ | a9
        · refine lv_aload_nN hx hb d_N_yearsAt_84 rfl (lv_at hl 3 rfl) ?_
          exact W.aret (v := .null) hx hb hr (Or.inl ⟨_, rfl⟩) (Or.inl rfl) (fun t ht hW => ⟨none, rfl, (by rw [← yt_all (j := j) (by omega)]; exact ho), ht⟩) (fun _ h => nomatch h) d_N_yearsAt_85
        · refine lv_aload_n hx hb d_N_yearsAt_84 rfl (lv_at hl 3 rfl) ?_
          exact W.aret (v := .ref a9) hx hb hr (Or.inl ⟨_, rfl⟩) (Or.inr ⟨_, rfl⟩) (fun t ht hW => ⟨some a9, rfl, (by rw [← yt_all (j := j) (by omega)]; exact ho), ht⟩) (fun _ h => nomatch h) d_N_yearsAt_85
      · have c2 := nc_nle (a := (nH n).length) (b := j) c2 (by omega) (by omega)
        obtain ⟨q, hq1, hq2, hq3, hq4⟩ := ph_at hy0 (j := j) (by omega)
        refine lv_aload_n hx hb d_N_yearsAt_23 rfl (lv_at hl 0 rfl) ?_
        refine va_get (D := D) (ci := 4) (v := .ref ((nL n).1)) (C := "TimeWords$Name") (T := F_N) (N := 3) hx hb hw in_N hown hK (pc1 (hP.mem (List.mem_append_right _ nmm_o)) pc0) 0 rfl rfl 1 (by decide) (hw _ fl_N_27) (fun _ h9 => h9) rfl d_N_yearsAt_24 ?_
        refine lv_iload hx hb d_N_yearsAt_27 (lv_at hl 5 rfl) ?_
        have hPc : va_P D gC ([((nL n).1, .inr (0, [.ref ((nL n).2.1), .int (nI (nH n).length), .int ((nL n).2.2.1)])), ((nL n).2.1, .inl (T.2.2.2, ((nL n).2.2.2.1), .inr (.inr (.inr (.inr ((nL n).2.2.2.2))))))]) s.heap := (pc1 (hP.mem (List.mem_append_right _ nmm_l)) (pc1 (hP.mem (List.mem_append_right _ (nmm_a (by omega)))) pc0))
        refine va_csq (va_Run.run (va_runV (As := [.int (nI j)]) (rest := []) ⟨hx, hb, hml, hown, hw⟩ (k_A_get l D T ((nL n).1) ((nL n).2.1) ((nH n).length) ((nL n).2.2.1) ((nL n).2.2.2.1) ((nL n).2.2.2.2) j (by omega) hq3 (by omega)) (cwV 1 hw (bg_V ml_N_39 wi_A_get wv_A_get wz_A wc_A_get) rfl rfl rfl (by decide +kernel) ⟨Nat.le_of_ble_eq_true rfl, Nat.le_of_ble_eq_true rfl⟩) ⟨sP_b, va_recv hK hPc (ci := 0) (q0 := 0) rfl rfl, sP_p hPc hK⟩ rfl rfl hl.1 rfl (lv_room (Nat.le_of_ble_eq_true rfl)) d_N_yearsAt_29 ⟨Nat.le_of_ble_eq_true rfl, Nat.le_of_ble_eq_true rfl⟩)) (fun r3 hr3 => ?_)
        replace hr3 := hr3.symm; subst hr3
        rw [hq2]
        refine W.eq (g2 := F0 m 32 ls [.ref q.1]) rfl ?_
        refine va_castY (C := "TimeWords$Phase") hx hb hown (hw _ kl_N_43) (hF.2.2.2.1 _ (by simp [sC])) (va_recv hK (pc1 (hP.mem (List.mem_append_right _ (nmm_p (List.mem_of_getElem? hq1)))) pc0) (ci := 3) (q0 := 0) rfl rfl) d_N_yearsAt_32 ?_
        refine lv_astore (lv' := [(6, .ref q.1), (0, .ref (nA n)), (1, .int x), (2, .int y), (3, va_rf (((yt x y n j).1).map (fun r => r.1))), (4, .int ((yt x y n j).2)), (5, .int (nI j))]) hx hb d_N_yearsAt_35 hl (by decide) rfl (fun ls hl => ?_)
        refine lv_aload hx hb d_N_yearsAt_37 (lv_at hl 0 rfl) ?_
        refine va_get (D := D) (ci := 3) (v := .int q.2.1) (C := "TimeWords$Phase") (T := F_P) (N := 3) hx hb hw in_P hown hK (pc1 (hP.mem (List.mem_append_right _ (nmm_p (List.mem_of_getElem? hq1)))) pc0) 0 rfl rfl 0 (by decide) (hw _ fl_N_45) (fun _ h9 => h9) rfl d_N_yearsAt_39 ?_
        refine lv_iload_n hx hb d_N_yearsAt_42 rfl (lv_at hl 2 rfl) ?_
        refine lv_icmp_ne (tgt := 78) hx hb d_N_yearsAt_43 (by decide) (fun c4 => ?_) (fun c4 => ?_)
        · refine lv_iinc (v := nI (j + 1)) (lv' := [(5, .int (nI (j + 1))), (6, .ref q.1), (0, .ref (nA n)), (1, .int x), (2, .int y), (3, va_rf (((yt x y n j).1).map (fun r => r.1))), (4, .int ((yt x y n j).2))]) hx hb d_N_yearsAt_78 hl (k := 6) rfl (nI_add j 1) (by decide) rfl (fun ls hl => ?_)
          refine lv_goto (tgt := 11) hx hb d_N_yearsAt_81 (by decide) ?_
          have ey : yt x y n (j + 1) = yt x y n j := by rw [yt_s hq1, ya_s, if_neg (fun z => c4 z.1)]
          exact ih (j + 1) (by omega) ls (by rw [ey]; exact lv_sub hl [2, 3, 4, 5, 6, 0] rfl) (by omega)
        · refine lv_aload hx hb d_N_yearsAt_46 (lv_at hl 0 rfl) ?_
          refine va_get (D := D) (ci := 3) (v := .int q.2.2.1) (C := "TimeWords$Phase") (T := F_P) (N := 3) hx hb hw in_P hown hK (pc1 (hP.mem (List.mem_append_right _ (nmm_p (List.mem_of_getElem? hq1)))) pc0) 0 rfl rfl 1 (by decide) (hw _ fl_N_49) (fun _ h9 => h9) rfl d_N_yearsAt_48 ?_
          refine lv_iload_n hx hb d_N_yearsAt_51 rfl (lv_at hl 3 rfl) ?_
          refine lv_icmp_gt (tgt := 78) hx hb d_N_yearsAt_52 (by decide) (fun c5 => ?_) (fun c5 => ?_)
          · refine lv_iinc (v := nI (j + 1)) (lv' := [(5, .int (nI (j + 1))), (6, .ref q.1), (0, .ref (nA n)), (1, .int x), (2, .int y), (3, va_rf (((yt x y n j).1).map (fun r => r.1))), (4, .int ((yt x y n j).2))]) hx hb d_N_yearsAt_78 hl (k := 6) rfl (nI_add j 1) (by decide) rfl (fun ls hl => ?_)
            refine lv_goto (tgt := 11) hx hb d_N_yearsAt_81 (by decide) ?_
            have ey : yt x y n (j + 1) = yt x y n j := by rw [yt_s hq1, ya_s, if_neg (fun z => z.2.1 c5)]
            exact ih (j + 1) (by omega) ls (by rw [ey]; exact lv_sub hl [2, 3, 4, 5, 6, 0] rfl) (by omega)
          · refine lv_aload hx hb d_N_yearsAt_55 (lv_at hl 0 rfl) ?_
            refine va_get (D := D) (ci := 3) (v := .int q.2.2.1) (C := "TimeWords$Phase") (T := F_P) (N := 3) hx hb hw in_P hown hK (pc1 (hP.mem (List.mem_append_right _ (nmm_p (List.mem_of_getElem? hq1)))) pc0) 0 rfl rfl 1 (by decide) (hw _ fl_N_49) (fun _ h9 => h9) rfl d_N_yearsAt_57 ?_
            refine lv_iload hx hb d_N_yearsAt_60 (lv_at hl 5 rfl) ?_
            refine lv_icmp_lt (tgt := 78) hx hb d_N_yearsAt_62 (by decide) (fun c6 => ?_) (fun c6 => ?_)
            · refine lv_iinc (v := nI (j + 1)) (lv' := [(5, .int (nI (j + 1))), (6, .ref q.1), (0, .ref (nA n)), (1, .int x), (2, .int y), (3, va_rf (((yt x y n j).1).map (fun r => r.1))), (4, .int ((yt x y n j).2))]) hx hb d_N_yearsAt_78 hl (k := 6) rfl (nI_add j 1) (by decide) rfl (fun ls hl => ?_)
              refine lv_goto (tgt := 11) hx hb d_N_yearsAt_81 (by decide) ?_
              have ey : yt x y n (j + 1) = yt x y n j := by rw [yt_s hq1, ya_s, if_neg (fun z => z.2.2 c6)]
              exact ih (j + 1) (by omega) ls (by rw [ey]; exact lv_sub hl [2, 3, 4, 5, 6, 0] rfl) (by omega)
            · refine lv_aload hx hb d_N_yearsAt_65 (lv_at hl 0 rfl) ?_
              refine va_get (D := D) (ci := 3) (v := .ref q.2.2.2.1) (C := "TimeWords$Phase") (T := F_P) (N := 3) hx hb hw in_P hown hK (pc1 (hP.mem (List.mem_append_right _ (nmm_p (List.mem_of_getElem? hq1)))) pc0) 0 rfl rfl 2 (by decide) (hw _ fl_N_52) (fun _ h9 => h9) rfl d_N_yearsAt_67 ?_
              refine lv_astore_n (lv' := [(3, .ref q.2.2.2.1), (6, .ref q.1), (0, .ref (nA n)), (1, .int x), (2, .int y), (4, .int ((yt x y n j).2)), (5, .int (nI j))]) hx hb d_N_yearsAt_70 rfl hl (by decide) rfl (fun ls hl => ?_)
              refine lv_aload hx hb d_N_yearsAt_71 (lv_at hl 1 rfl) ?_
              refine va_get (D := D) (ci := 3) (v := .int q.2.2.1) (C := "TimeWords$Phase") (T := F_P) (N := 3) hx hb hw in_P hown hK (pc1 (hP.mem (List.mem_append_right _ (nmm_p (List.mem_of_getElem? hq1)))) pc0) 0 rfl rfl 1 (by decide) (hw _ fl_N_49) (fun _ h9 => h9) rfl d_N_yearsAt_73 ?_
              refine lv_istore (lv' := [(4, .int q.2.2.1), (3, .ref q.2.2.2.1), (6, .ref q.1), (0, .ref (nA n)), (1, .int x), (2, .int y), (5, .int (nI j))]) hx hb d_N_yearsAt_76 hl (by decide) rfl (fun ls hl => ?_)
              refine lv_iinc (v := nI (j + 1)) (lv' := [(5, .int (nI (j + 1))), (4, .int q.2.2.1), (3, .ref q.2.2.2.1), (6, .ref q.1), (0, .ref (nA n)), (1, .int x), (2, .int y)]) hx hb d_N_yearsAt_78 hl (k := 6) rfl (nI_add j 1) (by decide) rfl (fun ls hl => ?_)
              refine lv_goto (tgt := 11) hx hb d_N_yearsAt_81 (by decide) ?_
              have ey : yt x y n (j + 1) = (some (q.2.2.2.1, q.2.2.2.2.1, q.2.2.2.2.2), q.2.2.1) := by rw [yt_s hq1, ya_s, if_pos ⟨c4, c5, c6⟩]
              exact ih (j + 1) (by omega) ls (by rw [ey]; exact lv_sub hl [4, 5, 6, 2, 1, 0] rfl) (by omega)
  refine lv_aload_n hx hb d_N_yearsAt_0 rfl (lv_at hl 0 rfl) ?_
  refine va_get (D := D) (ci := 4) (v := va_rf ((nG n).map (fun r => r.1))) (C := "TimeWords$Name") (T := F_N) (N := 3) hx hb hw in_N hown hK (pc1 (hP.mem (List.mem_append_right _ nmm_o)) pc0) 0 rfl rfl 2 (by decide) (hw _ fl_N_31) (fun _ h9 => h9) rfl d_N_yearsAt_1 ?_
  rcases hg : nG n with _ | r9
  · refine W.eq (g2 := F0 m 4 ls [.null]) rfl ?_
    refine lv_astore_nN (lv' := [(3, .null), (0, .ref (nA n)), (1, .int x), (2, .int y)]) hx hb d_N_yearsAt_4 rfl hl (by decide) rfl (fun ls hl => ?_)
    refine lv_iconst (v := (-1)) hx hb d_N_yearsAt_5 (by decide) ?_
    refine lv_istore (lv' := [(4, .int (-1)), (3, .null), (0, .ref (nA n)), (1, .int x), (2, .int y)]) hx hb d_N_yearsAt_6 hl (by decide) rfl (fun ls hl => ?_)
    refine lv_iconst (v := 0) hx hb d_N_yearsAt_8 (by decide) ?_
    refine lv_istore (lv' := [(5, .int 0), (4, .int (-1)), (3, .null), (0, .ref (nA n)), (1, .int x), (2, .int y)]) hx hb d_N_yearsAt_9 hl (by decide) rfl (fun ls hl => ?_)
    exact loop (((nH n).length - 0) + 1) 0 (Nat.zero_le _) ls (by rw [yt_0, hg]; exact lv_sub hl [3, 4, 5, 2, 1, 0] rfl) (Nat.lt_succ_self _)
  · refine W.eq (g2 := F0 m 4 ls [.ref r9.1]) rfl ?_
    refine lv_astore_n (lv' := [(3, .ref r9.1), (0, .ref (nA n)), (1, .int x), (2, .int y)]) hx hb d_N_yearsAt_4 rfl hl (by decide) rfl (fun ls hl => ?_)
    refine lv_iconst (v := (-1)) hx hb d_N_yearsAt_5 (by decide) ?_
    refine lv_istore (lv' := [(4, .int (-1)), (3, .ref r9.1), (0, .ref (nA n)), (1, .int x), (2, .int y)]) hx hb d_N_yearsAt_6 hl (by decide) rfl (fun ls hl => ?_)
    refine lv_iconst (v := 0) hx hb d_N_yearsAt_8 (by decide) ?_
    refine lv_istore (lv' := [(5, .int 0), (4, .int (-1)), (3, .ref r9.1), (0, .ref (nA n)), (1, .int x), (2, .int y)]) hx hb d_N_yearsAt_9 hl (by decide) rfl (fun ls hl => ?_)
    exact loop (((nH n).length - 0) + 1) 0 (Nat.zero_le _) ls (by rw [yt_0, hg]; exact lv_sub hl [3, 4, 5, 2, 1, 0] rfl) (Nat.lt_succ_self _)
