def R_law : String := "TimeWordsLaw"
def lw_P (b : Addr) (xs : List Int32) (args : Array Value) (s : State) : Prop := args = #[.ref b] ∧ s.IntsAt b xs ∧ xs.length ≤ 3072 ∧ (Jvm.Cond.and given_1 narrow_1).before args s = true
def lw_Q (_ : Array Value) (s : State) (o : Outcome) (t : State) : Prop := o = .returned (some (.int 1)) ∧ Framed s o t [] 601024 7293034
def lw_Z (below : List Frame) (a : Array Value) (s : State) : State → Prop := fun t => ∃ o, t.status = .running ∧ Ended t below o ∧ lw_Q a s o t
/-- the law's own end, with 1 on the stack, nothing written that was there before, its room as the claim has it -/
theorem lw_ret {p : Program} {l : Launch} {e : Env} {s : State} {m : MethodId} {below : List Frame} {meth : Method} {c : Code} {b : Nat} (hx : p.tables.exec = Jvm.exec) (hb : c.code = code) (hr : meth.sig.returnType = ret) (hlocks : meth.locks = false) {pc : Nat} {H : Heap} {ls : Array Slot} (hdg : decode code pc = .ok (.ireturn, 1)) : W p l e room_1 s m #[Value.ref b] below meth c H [] 601024 7293034 (lw_Z below #[Value.ref b] s) (F0 m pc ls [.int 1]) := by
  intro T hT X
  obtain ⟨fs, hret, hrun, hended, hW, hframe⟩ := X.leave (v := some (.int 1)) (hlocks := hlocks) (fun h => by rw [hr] at h; cases h)
  have hmeth' : T.vm.method? m = some meth := X.method'
  refine ⟨T.setFrames fs, ?_, .returned (some (.int 1)), hrun, hended, rfl, ⟨_, rfl⟩, hW, hframe⟩
  jvm_step X.here [X.here.top, hx, hb, hdg, hmeth', hr, ret, narrow_b1]
  (try refine ⟨rfl, ?_⟩); (try refine ⟨rfl, ?_⟩)
  first | (intro acts; rw [hret _ acts rfl rfl rfl]) | rw [hret _ _ rfl rfl rfl]
  exact Steps.refl _
/-- what holds at the law's entry: the machine, the code, the tables' words (any of lw_tbl by 'hts w (by decide +kernel)'), the script of L ints xs at the cell b, what the Statement gives of the start (any of its parts by flat_of_before) -/
def lw_At (p : Program) (s : State) (m : MethodId) (meth : Method) (c : Code) (b L : Nat) (xs : Nat → Int32) : Prop :=
  p.tables.exec = Jvm.exec ∧ c.code = code ∧ meth.sig.returnType = ret ∧ c.maxLocals = 7 ∧ s.vm.findClass R_law = some m.cls ∧ (∀ w ∈ lw_tbl, w.before #[Value.ref b] s = true) ∧ va_X b L xs s s.heap ∧ b < s.heap.size ∧ meth.locks = false ∧ (Jvm.Cond.and given_1 narrow_1).before #[Value.ref b] s = true

theorem sw_18 (v : Int32) : (v.toInt < 0 ∨ 17 < v.toInt) ∨ v = 0 ∨ v = 1 ∨ v = 2 ∨ v = 3 ∨ v = 4 ∨ v = 5 ∨ v = 6 ∨ v = 7 ∨ v = 8 ∨ v = 9 ∨ v = 10 ∨ v = 11 ∨ v = 12 ∨ v = 13 ∨ v = 14 ∨ v = 15 ∨ v = 16 ∨ v = 17 := by
  by_cases h : v.toInt < 0 ∨ 17 < v.toInt
  · exact Or.inl h
  · right
    have hv : v = nI v.toInt.toNat := by rw [ii_eq, nI_toInt (by omega)]; omega
    have hb : v.toInt.toNat < 18 := by omega
    generalize v.toInt.toNat = k at hv hb
    subst hv
    rcases (show k = 0 ∨ k = 1 ∨ k = 2 ∨ k = 3 ∨ k = 4 ∨ k = 5 ∨ k = 6 ∨ k = 7 ∨ k = 8 ∨ k = 9 ∨ k = 10 ∨ k = 11 ∨ k = 12 ∨ k = 13 ∨ k = 14 ∨ k = 15 ∨ k = 16 ∨ k = 17 by omega) with rfl | rfl | rfl | rfl | rfl | rfl | rfl | rfl | rfl | rfl | rfl | rfl | rfl | rfl | rfl | rfl | rfl | rfl <;> decide
set_option maxHeartbeats 4000000 in
set_option maxRecDepth 100000 in
theorem law_loop {p : Program} {l : Launch} {e : Env} {s : State} {m : MethodId} {below : List Frame} {meth : Method} {c : Code} {b L : Nat} {xs : Nat → Int32} {D : va_G} {T : gT} {κ : gS} {aa : Nat → Nat} {ox o : Nat} {a : Nat → Nat} (hC : lawC p l s m c b L xs D T κ) (hr : meth.sig.returnType = ret) (hlocks : meth.locks = false) : ∀ (n t : Nat) (H : Heap) (locs : List Loc) (ls : Array Slot) (ov : Nat → Int64) (zw : Int32) (kp : Nat) (fp : Nat → Int32) (e0 e1 : Int32) (oF oT : Bool) (kt : Nat) (ft : Nat → Int32) (ks : Nat) (fs fc : Nat → Int32) (S : tS) (z0 : Int32) (pn nn sn : Nat) (z18 z19 z20 z21 z24 z26 : Int32) (f1 f4 f5 f6 f7 f8 f9 f10 f11 f12 f13 f15 f16 f17 f22 f23 f25 f27 : Nat → Int32) (ln ck : Nat → Nat), 6 * t ≤ 3072 → L + 6 - 6 * t < n → lawR κ zw kp fp S pn nn sn z18 f1 f4 f5 f6 f7 f8 f9 f10 f11 f12 f13 f15 f16 f17 ln ck → va_P D gC (mX T o a z0 (nI pn) (nI nn) (nI sn) z18 z19 z20 z21 z24 z26 f1 f4 f5 f6 f7 f8 f9 f10 f11 f12 f13 f15 f16 f17 f22 f23 f25 f27 ++ ([(ox, .inl (T.2.2.1, 1, .inr (.inl ov)))] ++ (cX T aa zw kp fp e0 e1 oF oT kt ft ks fs fc S ++ tl T S))) H → va_D (fun q : Nat => s.heap.size ≤ q) (mX T o a z0 (nI pn) (nI nn) (nI sn) z18 z19 z20 z21 z24 z26 f1 f4 f5 f6 f7 f8 f9 f10 f11 f12 f13 f15 f16 f17 f22 f23 f25 f27 ++ ([(ox, .inl (T.2.2.1, 1, .inr (.inl ov)))] ++ (cX T aa zw kp fp e0 e1 oF oT kt ft ks fs fc S ++ tl T S))) → va_S (fun q : Nat => s.heap.size ≤ q) s.heap H locs → lv_has ls 7 [(0, .ref b), (1, .ref (aa 0)), (2, .ref o), (3, .ref ox), (4, .int (nI (6 * t)))] → W p l e room_1 s m #[Value.ref b] below meth c H locs (40 + 8 * t) (1400 + 200 * t) (lw_Z below #[Value.ref b] s) (F0 m 23 ls []) := by
  intro n
  induction n with
  | zero => intro t H locs ls ov zw kp fp e0 e1 oF oT kt ft ks fs fc S z0 pn nn sn z18 z19 z20 z21 z24 z26 f1 f4 f5 f6 f7 f8 f9 f10 f11 f12 f13 f15 f16 f17 f22 f23 f25 f27 ln ck _ hn; exact absurd hn (Nat.not_lt_zero _)
  | succ n ih =>
    intro t H locs ls ov zw kp fp e0 e1 oF oT kt ft ks fs fc S z0 pn nn sn z18 z19 z20 z21 z24 z26 f1 f4 f5 f6 f7 f8 f9 f10 f11 f12 f13 f15 f16 f17 f22 f23 f25 f27 ln ck ht hn hR hP hD hS hl
    obtain ⟨hl9, hx, hb, hml, hown, hw, hX, hbl, hK, hF, hL⟩ := id hC
    have hbA : ¬ (fun q : Nat => s.heap.size ≤ q) b := Nat.not_le.mpr hbl
    have eL : (nI L - 6).toInt = (L : Int) - 6 := by
      have c6 : (6 : Int32).toInt = 6 := by decide
      rw [ii_sub (by rw [nI_toInt (by omega), c6]; omega) (by rw [nI_toInt (by omega), c6]; omega), nI_toInt (by omega), c6]
    refine lv_iload hx hb d_L_law_23 (lv_at hl 4 rfl) ?_
    refine lv_aload_n hx hb d_L_law_25 rfl (lv_at hl 0 rfl) ?_
    refine va_slen hx hb hX hbl hbA hS d_L_law_26 ?_
    refine W.eq (g2 := F0 m 27 ls [.int (nI L), .int (nI (6 * t))]) rfl ?_
    refine lv_bipush (v := 6) hx hb d_L_law_27 (by decide) ?_
    refine lv_isub hx hb d_L_law_29 ?_
    refine lv_icmp_gt (tgt := 1274) hx hb d_L_law_30 (by decide) (fun c1 => ?_) (fun c1 => ?_)
    · refine lv_iconst (v := 1) hx hb d_L_law_1274 (by decide) ?_
      refine W.widen (k := 601024) (n := 7293034) (by omega) (by omega) ?_
      exact W.forget (locs := []) (L := locs) hS.2.2 (lw_ret hx hb hr hlocks d_L_law_1275)
    · have hgo : 6 * t + 6 ≤ L := by
        rw [ii_lt, eL, nI_toInt (by omega)] at c1
        omega
      have kk : lawK p l e s m below meth c b D T κ aa ox o a t (lw_Z below #[Value.ref b] s) := by
        intro H locs ls ov zw kp fp e0 e1 oF oT kt ft ks fs fc S z0 pn nn sn z18 z19 z20 z21 z24 z26 f1 f4 f5 f6 f7 f8 f9 f10 f11 f12 f13 f15 f16 f17 f22 f23 f25 f27 ln ck hR hP hD hS hl
        refine lv_iinc (v := nI (6 * (t + 1))) (lv' := [(4, .int (nI (6 * (t + 1)))), (0, .ref b), (1, .ref (aa 0)), (2, .ref o), (3, .ref ox)]) hx hb d_L_law_1268 hl (k := 4) rfl (nI_add (6 * t) 6) (by decide) rfl (fun ls hl => ?_)
        refine lv_goto (tgt := 23) hx hb d_L_law_1271 (by decide) ?_
        exact ih (t + 1) H locs ls ov zw kp fp e0 e1 oF oT kt ft ks fs fc S z0 pn nn sn z18 z19 z20 z21 z24 z26 f1 f4 f5 f6 f7 f8 f9 f10 f11 f12 f13 f15 f16 f17 f22 f23 f25 f27 ln ck (by omega) (by omega) hR hP hD hS (lv_sub hl [1, 2, 3, 4, 0] rfl)
      refine lv_aload_n hx hb d_L_law_33 rfl (lv_at hl 0 rfl) ?_
      refine lv_iload hx hb d_L_law_34 (lv_at hl 4 rfl) ?_
      refine va_sld hx hb hX hbl hbA hS (vp_in_nI (n := 6 * t) (by omega) (by omega)) d_L_law_36 ?_
      refine lv_bipush (v := 31) hx hb d_L_law_37 (by decide) ?_
      refine lv_iand hx hb d_L_law_39 ?_
      generalize xs (nI (6 * t)).toNatClampNeg &&& 31 = v
      rcases sw_18 v with hv | rfl | rfl | rfl | rfl | rfl | rfl | rfl | rfl | rfl | rfl | rfl | rfl | rfl | rfl | rfl | rfl | rfl | rfl
      · refine lv_tableOut (tgt := 1268) hx hb d_L_law_40 hv (by decide) ?_
        refine W.widen (k := 40 + 8 * (t + 1)) (n := 1400 + 200 * (t + 1)) (by omega) (by omega) ?_
        exact kk H locs ls ov zw kp fp e0 e1 oF oT kt ft ks fs fc S z0 pn nn sn z18 z19 z20 z21 z24 z26 f1 f4 f5 f6 f7 f8 f9 f10 f11 f12 f13 f15 f16 f17 f22 f23 f25 f27 ln ck hR hP hD hS hl
      · refine lv_tableIn (tgt := 128) hx hb d_L_law_40 (by decide) (by decide) rfl (by decide) ?_
        exact law_unit hC (by omega) hR hP hD hS hl kk
      · refine lv_tableIn (tgt := 184) hx hb d_L_law_40 (by decide) (by decide) rfl (by decide) ?_
        exact law_clear hC (by omega) hR hP hD hS hl kk
      · refine lv_tableIn (tgt := 197) hx hb d_L_law_40 (by decide) (by decide) rfl (by decide) ?_
        exact law_name hC (by omega) hR hP hD hS hl kk
      · refine lv_tableIn (tgt := 241) hx hb d_L_law_40 (by decide) (by decide) rfl (by decide) ?_
        exact law_reign hC (by omega) hR hP hD hS hl kk
      · refine lv_tableIn (tgt := 328) hx hb d_L_law_40 (by decide) (by decide) rfl (by decide) ?_
        exact law_phase hC (by omega) hR hP hD hS hl kk
      · refine lv_tableIn (tgt := 432) hx hb d_L_law_40 (by decide) (by decide) rfl (by decide) ?_
        exact law_width hC (by omega) hR hP hD hS hl kk
      · refine lv_tableIn (tgt := 488) hx hb d_L_law_40 (by decide) (by decide) rfl (by decide) ?_
        exact law_read hC (by omega) hR hP hD hS hl kk
      · refine lv_tableIn (tgt := 556) hx hb d_L_law_40 (by decide) (by decide) rfl (by decide) ?_
        exact law_span hC (by omega) hR hP hD hS hl kk
      · refine lv_tableIn (tgt := 624) hx hb d_L_law_40 (by decide) (by decide) rfl (by decide) ?_
        exact law_end hC (by omega) hR hP hD hS hl kk
      · refine lv_tableIn (tgt := 692) hx hb d_L_law_40 (by decide) (by decide) rfl (by decide) ?_
        exact law_open hC (by omega) hR hP hD hS hl kk
      · refine lv_tableIn (tgt := 767) hx hb d_L_law_40 (by decide) (by decide) rfl (by decide) ?_
        exact law_join hC (by omega) hR hP hD hS hl kk
      · refine lv_tableIn (tgt := 835) hx hb d_L_law_40 (by decide) (by decide) rfl (by decide) ?_
        exact law_relations hC (by omega) hR hP hD hS hl kk
      · refine lv_tableIn (tgt := 903) hx hb d_L_law_40 (by decide) (by decide) rfl (by decide) ?_
        exact law_relation hC (by omega) hR hP hD hS hl kk
      · refine lv_tableIn (tgt := 971) hx hb d_L_law_40 (by decide) (by decide) rfl (by decide) ?_
        exact law_word hC (by omega) hR hP hD hS hl kk
      · refine lv_tableIn (tgt := 1039) hx hb d_L_law_40 (by decide) (by decide) rfl (by decide) ?_
        exact law_near hC (by omega) hR hP hD hS hl kk
      · refine lv_tableIn (tgt := 1052) hx hb d_L_law_40 (by decide) (by decide) rfl (by decide) ?_
        exact law_feast hC (by omega) hR hP hD hS hl kk
      · refine lv_tableIn (tgt := 1144) hx hb d_L_law_40 (by decide) (by decide) rfl (by decide) ?_
        exact law_regnal hC (by omega) hR hP hD hS hl kk
      · refine lv_tableIn (tgt := 1212) hx hb d_L_law_40 (by decide) (by decide) rfl (by decide) ?_
        exact law_count hC (by omega) hR hP hD hS hl kk
theorem R_start {κ : gS} {g3 g4 : Nat} : lawR κ 25 0 (fun _ => 0) ((g3, κ.2.2.1, 0, 0, fun _ => none), [], (g4, κ.2.2.1, 0, 0, fun _ => none), []) 0 0 0 25 (fun _ => 0) (fun _ => 0) (fun _ => 0) (fun _ => 0) (fun _ => 0) (fun _ => 0) (fun _ => 0) (fun _ => 0) (fun _ => 0) (fun _ => 0) (fun _ => 0) (fun _ => 0) (fun _ => 0) (fun _ => 0) (fun _ => 0) (fun _ => 0) := by
  refine ⟨⟨⟨⟨fun _ => rfl, fun h => absurd rfl h⟩, fun n hn => absurd hn List.not_mem_nil, ⟨fun _ => rfl, fun h => absurd rfl h⟩, Nat.zero_le _, Nat.zero_le _⟩, by decide, rfl, rfl, rfl, by decide, by decide⟩, ⟨rfl, fun n hn => absurd hn List.not_mem_nil, fun i j n n' hn => ?_, fun i n hn => ?_, fun i => rfl, fun i => Nat.zero_le _, fun i => rfl, fun i => Nat.zero_le _, fun i _ => ⟨rfl, rfl⟩⟩, rfl, fun j q hq => ?_⟩
  · cases hn
  · cases hn
  · cases hq
set_option maxHeartbeats 4000000 in
set_option maxRecDepth 100000 in
theorem whole_start {p : Program} {e : Env} {s : State} {m : MethodId} {below : List Frame} {meth : Method} {c : Code} (l : Launch) (hl9 : l.stackTraces = false) {b L : Nat} {xs : Nat → Int32} (hL : L ≤ 3072) (C0 : lw_At p s m meth c b L xs) : W p l e room_1 s m #[Value.ref b] below meth c s.heap [] 0 0 (lw_Z below #[Value.ref b] s) (entryFrame m ([Value.ref b] : List Value).toArray 7) := by
  obtain ⟨hx, hb, hr, hml, hown, hts, hX, hbl, hlocks, hgv⟩ := id C0
  have hw : ∀ w ∈ bg_W, w.before #[Value.ref b] s = true := fun w h => hts w (bg_L w h)
  obtain ⟨κ, hF⟩ := sF_start hgv hts
  obtain ⟨D, T, hK⟩ := gK_start hts
  have hC : lawC p l s m c b L xs D T κ := ⟨hl9, hx, hb, hml, hown, hw, hX, hbl, hK, hF, hL⟩
  have hA : ∀ q : Nat, s.heap.size ≤ q → (fun q : Nat => s.heap.size ≤ q) q := fun _ h => h
  have hS : va_S (fun q : Nat => s.heap.size ≤ q) s.heap s.heap [] := va_S.rf
  have hP : va_P D gC [] s.heap := fun k q h => by simp at h
  have hD : va_D (fun q : Nat => s.heap.size ≤ q) [] := ⟨fun i j p q h => by simp at h, fun k q h => by simp at h⟩
  have hl := lv_entry ([.ref b]) (n := 7) (Nat.le_of_ble_eq_true rfl)
  rw [lg_entry_eq]
  generalize (lg_sl ([.ref b]) ++ List.replicate (7 - (lg_sl ([.ref b])).length) Slot.unset).toArray = ls at hl ⊢
  have hl : lv_has ls 7 [(0, .ref b)] := hl
  refine va_new (ci := 5) (fs := [.null, .null, .null, .int 0, .null, .null, .null, .null]) (C := "TimeWords") (T := F_T) (N := 8) hx hb hw in_T ty_T ty_T_ok hown (hw _ kl_L_8) (hw _ wn_T) (hw _ wz_T) hK hP hD hS hA rfl (by decide +kernel) (Nat.le_of_ble_eq_true rfl) (Nat.le_of_ble_eq_true rfl) d_L_law_0 (fun to H hP hD hS => ?_)
  have hP : va_P D gC ([] ++ [(to, .inr (5, [.null, .null, .null, .int 0, .null, .null, .null, .null]))]) H := hP
  have hD : va_D (fun q : Nat => s.heap.size ≤ q) ([] ++ [(to, .inr (5, [.null, .null, .null, .int 0, .null, .null, .null, .null]))]) := hD
  refine lv_dup hx hb d_L_law_3 rfl ?_
  refine g_blkv (B := []) (C := [(to, .inr (5, [.null, .null, .null, .int 0, .null, .null, .null, .null]))]) (va_runI (As := []) (rest := [.ref to]) ⟨hx, hb, hml, hown, hw⟩ (k_T_init l D T κ to H.size) (cwI 0 hw (bg_c wc_T_init) rfl rfl rfl (hw _ wz_T) (hw _ ml_L_70) (hw _ wi_T_init) rfl (by decide +kernel) ⟨Nat.le_of_ble_eq_true rfl, Nat.le_of_ble_eq_true rfl⟩) ⟨qPf_b, qPf_p hP.rt hK hD.rt hF hS (g_free hD.rt hS hA)⟩ rfl rfl hl.1 rfl (lv_room (Nat.le_of_ble_eq_true rfl)) d_L_law_4 ⟨Nat.le_of_ble_eq_true rfl, Nat.le_of_ble_eq_true rfl⟩) hP hD hS hA (fun u9 H locs _ hP hD hS => ?_)
  obtain ⟨g1, g2, g3, g4, g5, g6, g7, g8, g9, g10⟩ := u9
  dsimp only at hP hD
  have hP : va_P D gC ([(to, .inr (5, [.ref g1, .ref g3, .ref g4, .int 25, .ref g5, .ref g6, .ref g8, .ref g10])), (g1, .inr (1, [.ref g2, .int 0])), (g2, .inl (T.1, 24, .inl (fun _ => 0))), (g3, .inr (0, [.ref κ.2.2.1, .int 0, .int 0])), (g4, .inr (0, [.ref κ.2.2.1, .int 0, .int 0])), (g5, .inr (2, [.int 0, .int 0, .int 0, .int 0])), (g6, .inr (1, [.ref g7, .int 0])), (g7, .inl (T.1, 24, .inl (fun _ => 0))), (g8, .inr (1, [.ref g9, .int 0])), (g9, .inl (T.1, 24, .inl (fun _ => 0))), (g10, .inl (T.1, 9, .inl (fun _ => 0)))]) H := hP
  have hD : va_D (fun q : Nat => s.heap.size ≤ q) ([(to, .inr (5, [.ref g1, .ref g3, .ref g4, .int 25, .ref g5, .ref g6, .ref g8, .ref g10])), (g1, .inr (1, [.ref g2, .int 0])), (g2, .inl (T.1, 24, .inl (fun _ => 0))), (g3, .inr (0, [.ref κ.2.2.1, .int 0, .int 0])), (g4, .inr (0, [.ref κ.2.2.1, .int 0, .int 0])), (g5, .inr (2, [.int 0, .int 0, .int 0, .int 0])), (g6, .inr (1, [.ref g7, .int 0])), (g7, .inl (T.1, 24, .inl (fun _ => 0))), (g8, .inr (1, [.ref g9, .int 0])), (g9, .inl (T.1, 24, .inl (fun _ => 0))), (g10, .inl (T.1, 9, .inl (fun _ => 0)))]) := hD
  refine lv_astore_n (lv' := [(1, .ref to), (0, .ref b)]) hx hb d_L_law_7 rfl hl (by decide) rfl (fun ls hl => ?_)
  refine va_new (ci := 6) (fs := [.int 0, .null, .int 0, .int 0, .null, .null, .null, .null, .null, .null, .null, .null, .null, .null, .int 0, .null, .null, .null, .int 0, .int 0, .int 0, .int 0, .null, .null, .int 0, .null, .int 0, .null]) (C := "TimeWordsModel") (T := F_M) (N := 28) hx hb hw in_M ty_M ty_M_ok hown (hw _ kl_L_71) (hw _ wn_M) (hw _ wz_M) hK hP hD hS hA rfl (by decide +kernel) (Nat.le_of_ble_eq_true rfl) (Nat.le_of_ble_eq_true rfl) d_L_law_8 (fun om H hP hD hS => ?_)
  have hP : va_P D gC ([(to, .inr (5, [.ref g1, .ref g3, .ref g4, .int 25, .ref g5, .ref g6, .ref g8, .ref g10])), (g1, .inr (1, [.ref g2, .int 0])), (g2, .inl (T.1, 24, .inl (fun _ => 0))), (g3, .inr (0, [.ref κ.2.2.1, .int 0, .int 0])), (g4, .inr (0, [.ref κ.2.2.1, .int 0, .int 0])), (g5, .inr (2, [.int 0, .int 0, .int 0, .int 0])), (g6, .inr (1, [.ref g7, .int 0])), (g7, .inl (T.1, 24, .inl (fun _ => 0))), (g8, .inr (1, [.ref g9, .int 0])), (g9, .inl (T.1, 24, .inl (fun _ => 0))), (g10, .inl (T.1, 9, .inl (fun _ => 0)))] ++ [(om, .inr (6, [.int 0, .null, .int 0, .int 0, .null, .null, .null, .null, .null, .null, .null, .null, .null, .null, .int 0, .null, .null, .null, .int 0, .int 0, .int 0, .int 0, .null, .null, .int 0, .null, .int 0, .null]))]) H := hP
  have hD : va_D (fun q : Nat => s.heap.size ≤ q) ([(to, .inr (5, [.ref g1, .ref g3, .ref g4, .int 25, .ref g5, .ref g6, .ref g8, .ref g10])), (g1, .inr (1, [.ref g2, .int 0])), (g2, .inl (T.1, 24, .inl (fun _ => 0))), (g3, .inr (0, [.ref κ.2.2.1, .int 0, .int 0])), (g4, .inr (0, [.ref κ.2.2.1, .int 0, .int 0])), (g5, .inr (2, [.int 0, .int 0, .int 0, .int 0])), (g6, .inr (1, [.ref g7, .int 0])), (g7, .inl (T.1, 24, .inl (fun _ => 0))), (g8, .inr (1, [.ref g9, .int 0])), (g9, .inl (T.1, 24, .inl (fun _ => 0))), (g10, .inl (T.1, 9, .inl (fun _ => 0)))] ++ [(om, .inr (6, [.int 0, .null, .int 0, .int 0, .null, .null, .null, .null, .null, .null, .null, .null, .null, .null, .int 0, .null, .null, .null, .int 0, .int 0, .int 0, .int 0, .null, .null, .int 0, .null, .int 0, .null]))]) := hD
  refine lv_dup hx hb d_L_law_11 rfl ?_
  refine g_blkv (B := [(to, .inr (5, [.ref g1, .ref g3, .ref g4, .int 25, .ref g5, .ref g6, .ref g8, .ref g10])), (g1, .inr (1, [.ref g2, .int 0])), (g2, .inl (T.1, 24, .inl (fun _ => 0))), (g3, .inr (0, [.ref κ.2.2.1, .int 0, .int 0])), (g4, .inr (0, [.ref κ.2.2.1, .int 0, .int 0])), (g5, .inr (2, [.int 0, .int 0, .int 0, .int 0])), (g6, .inr (1, [.ref g7, .int 0])), (g7, .inl (T.1, 24, .inl (fun _ => 0))), (g8, .inr (1, [.ref g9, .int 0])), (g9, .inl (T.1, 24, .inl (fun _ => 0))), (g10, .inl (T.1, 9, .inl (fun _ => 0)))]) (C := [(om, .inr (6, [.int 0, .null, .int 0, .int 0, .null, .null, .null, .null, .null, .null, .null, .null, .null, .null, .int 0, .null, .null, .null, .int 0, .int 0, .int 0, .int 0, .null, .null, .int 0, .null, .int 0, .null]))]) (va_runI (As := []) (rest := [.ref om]) ⟨hx, hb, hml, hown, hw⟩ (k_M_init l D T om H.size) (cwI 0 hw (bg_c wc_M_init) rfl rfl rfl (hw _ wz_M) (hw _ ml_L_73) (hw _ wi_M_init) rfl (by decide +kernel) ⟨Nat.le_of_ble_eq_true rfl, Nat.le_of_ble_eq_true rfl⟩) ⟨qP_b, qP_p hP.rt hK hD.rt⟩ rfl rfl hl.1 rfl (lv_room (Nat.le_of_ble_eq_true rfl)) d_L_law_12 ⟨Nat.le_of_ble_eq_true rfl, Nat.le_of_ble_eq_true rfl⟩) hP hD hS hA (fun a H locs _ hP hD hS => ?_)
  refine lv_astore_n (lv' := [(2, .ref om), (1, .ref to), (0, .ref b)]) hx hb d_L_law_15 rfl hl (by decide) rfl (fun ls hl => ?_)
  refine lv_iconst (v := 1) hx hb d_L_law_16 (by decide) ?_
  refine g_newl (N' := 1) hx hb (hw _ wa_long) hK hP hD hS hA (by decide) (by decide) (by decide) (Nat.le_of_ble_eq_true rfl) (Nat.le_of_ble_eq_true rfl) d_L_law_17 (fun qo H hP hD hS => ?_)
  refine lv_astore_n (lv' := [(3, .ref qo), (2, .ref om), (1, .ref to), (0, .ref b)]) hx hb d_L_law_19 rfl hl (by decide) rfl (fun ls hl => ?_)
  refine lv_iconst (v := 0) hx hb d_L_law_20 (by decide) ?_
  refine lv_istore (lv' := [(4, .int 0), (3, .ref qo), (2, .ref om), (1, .ref to), (0, .ref b)]) hx hb d_L_law_21 hl (by decide) rfl (fun ls hl => ?_)
  have hP : va_P D gC (mX T om a 0 (nI 0) (nI 0) (nI 0) 25 0 0 0 0 0 (fun _ => 0) (fun _ => 0) (fun _ => 0) (fun _ => 0) (fun _ => 0) (fun _ => 0) (fun _ => 0) (fun _ => 0) (fun _ => 0) (fun _ => 0) (fun _ => 0) (fun _ => 0) (fun _ => 0) (fun _ => 0) (fun _ => 0) (fun _ => 0) (fun _ => 0) (fun _ => 0) ++ ([(qo, .inl (T.2.2.1, 1, .inr (.inl (fun _ => 0))))] ++ (cX T (fun i => [to, g1, g2, g5, g6, g7, g8, g9, g10].getD i 0) 25 0 (fun _ => 0) 0 0 false false 0 (fun _ => 0) 0 (fun _ => 0) (fun _ => 0) ((g3, κ.2.2.1, 0, 0, fun _ => none), [], (g4, κ.2.2.1, 0, 0, fun _ => none), []) ++ tl T ((g3, κ.2.2.1, 0, 0, fun _ => none), [], (g4, κ.2.2.1, 0, 0, fun _ => none), [])))) H := hP.sub [11, 12, 13, 14, 15, 16, 17, 18, 19, 20, 21, 22, 23, 24, 25, 26, 27, 28, 29, 30, 0, 1, 2, 5, 6, 7, 8, 9, 10, 3, 4] rfl
  have hD : va_D (fun q : Nat => s.heap.size ≤ q) (mX T om a 0 (nI 0) (nI 0) (nI 0) 25 0 0 0 0 0 (fun _ => 0) (fun _ => 0) (fun _ => 0) (fun _ => 0) (fun _ => 0) (fun _ => 0) (fun _ => 0) (fun _ => 0) (fun _ => 0) (fun _ => 0) (fun _ => 0) (fun _ => 0) (fun _ => 0) (fun _ => 0) (fun _ => 0) (fun _ => 0) (fun _ => 0) (fun _ => 0) ++ ([(qo, .inl (T.2.2.1, 1, .inr (.inl (fun _ => 0))))] ++ (cX T (fun i => [to, g1, g2, g5, g6, g7, g8, g9, g10].getD i 0) 25 0 (fun _ => 0) 0 0 false false 0 (fun _ => 0) 0 (fun _ => 0) (fun _ => 0) ((g3, κ.2.2.1, 0, 0, fun _ => none), [], (g4, κ.2.2.1, 0, 0, fun _ => none), []) ++ tl T ((g3, κ.2.2.1, 0, 0, fun _ => none), [], (g4, κ.2.2.1, 0, 0, fun _ => none), [])))) := hD.sub [11, 12, 13, 14, 15, 16, 17, 18, 19, 20, 21, 22, 23, 24, 25, 26, 27, 28, 29, 30, 0, 1, 2, 5, 6, 7, 8, 9, 10, 3, 4] (by decide) rfl
  refine W.widen (k := 40 + 8 * 0) (n := 1400 + 200 * 0) (Nat.le_of_ble_eq_true rfl) (Nat.le_of_ble_eq_true rfl) ?_
  exact law_loop (aa := (fun i => [to, g1, g2, g5, g6, g7, g8, g9, g10].getD i 0)) hC hr hlocks (L + 7) 0 H locs ls (fun _ => 0) 25 0 (fun _ => 0) 0 0 false false 0 (fun _ => 0) 0 (fun _ => 0) (fun _ => 0) ((g3, κ.2.2.1, 0, 0, fun _ => none), [], (g4, κ.2.2.1, 0, 0, fun _ => none), []) 0 0 0 0 25 0 0 0 0 0 (fun _ => 0) (fun _ => 0) (fun _ => 0) (fun _ => 0) (fun _ => 0) (fun _ => 0) (fun _ => 0) (fun _ => 0) (fun _ => 0) (fun _ => 0) (fun _ => 0) (fun _ => 0) (fun _ => 0) (fun _ => 0) (fun _ => 0) (fun _ => 0) (fun _ => 0) (fun _ => 0) (fun _ => 0) (fun _ => 0) (by omega) (by omega) R_start hP hD hS (lv_sub hl [4, 3, 2, 1, 0] rfl)

set_option maxHeartbeats 4000000 in
theorem lw_walk (l : Launch) (hl9 : l.stackTraces = false) (b : Addr) (xs : List Int32) : MetFree l x (headSpec (Jvm.Cond.code x code maxLocals ret :: tables_1) room_1) (lw_P b xs) (fun _ _ _ _ _ => True) lw_Q := by
  refine MetFree.of_bodyS (code := code) (maxLocals := maxLocals) (ret := ret) (by decide) ?_ ?_
  · intro args s m h hn
    obtain ⟨meth, c, h1, h2, h3, h4, h5, h6, -, -⟩ := Cond.code_spec hn (atoms_spec (ws := Jvm.Cond.code x code maxLocals ret :: tables_1) h _ List.mem_cons_self)
    exact ⟨meth, c, h1, h2, h3, h4, h5, h6⟩
  · intro p e s m args below meth c s₁ B hml0 hP _
    obtain ⟨rfl, hx, hbd, hgv⟩ := hP
    obtain ⟨scr, harrAt, hlist, hof, hsmall⟩ := hx
    obtain ⟨hcb, hkn, -, -⟩ := State.arrayAt?_spec harrAt
    have hown : s.vm.findClass R_law = some m.cls := findClass_of_methodNamed B.named
    have hts0 : ∀ c ∈ (Jvm.Cond.code x code maxLocals ret :: tables_1), c.before #[Value.ref b] s = true := atoms_spec (ws := Jvm.Cond.code x code maxLocals ret :: tables_1) B.pre
    have hts : ∀ w ∈ lw_tbl, w.before #[Value.ref b] s = true := k2_hts_sels lw_privs (fun w hw => hts0 w (List.mem_cons_of_mem _ hw)) lw_privs_ok
    have hml : c.maxLocals = 7 := B.maxLocals_eq (hts0 _ List.mem_cons_self)
    have X₀ : Stand p l e room_1 s m #[Value.ref b] below meth c s₁ [] 0 0 := Stand.of_body B
    have hh0 : s₁.heap = s.heap := by rw [B.state]; rfl
    have hsz : scr.slots.size = xs.length := by rw [← Array.length_toList, hlist, List.length_map]
    have hval : ∀ j : Nat, j < xs.length → scr.slots[j]? = some (.int (xs.getD j 0)) := fun j hj => by
      rw [← Array.getElem?_toList, hlist]
      simp [hj]
    have hbl : b < s.heap.size := (Array.getElem?_eq_some_iff.mp hcb).1
    have hX : va_X b xs.length (fun j => xs.getD j 0) s s.heap := ⟨scr, hcb, hof, hkn, hsz, hval⟩
    have K : W p l e room_1 s m #[Value.ref b] below meth c s₁.heap [] 0 0 (lw_Z below #[Value.ref b] s) (entryFrame m ([Value.ref b] : List Value).toArray 7) := by
      rw [hh0]
      exact whole_start l hl9 hbd ⟨B.exec, B.bytes, B.returns, hml, hown, hts, hX, hbl, B.notSynchronized, hgv⟩
    obtain ⟨t, a1, o, b1, b2, b3⟩ := K s₁ rfl X₀
    exact ⟨t, o, a1, b1, b2, b3⟩
theorem lw_pre_spec {args : Array Value} {s : State} (h : (Jvm.Cond.and given_1 narrow_1).before args s = true) (hr : rest_1_c.before args s = true) : ∃ (b : Addr) (xs : List Int32), lw_P b xs args s := by
  have hs := flat_of_before _ h
  have hq := flat_of_before _ hr
  have hc : (Cond.count 1).before args s = true := hs _ (by decide +kernel)
  have harr : (Cond.arrayOf (.arg 0) .int).before args s = true := hs _ (by decide +kernel)
  have hle : (Cond.le (.length (.arg 0)) (.int 3072)).before args s = true := hs _ (by decide +kernel)
  have hlen : (Cond.isInt (.length (.arg 0))).before args s = true := hq _ (by decide +kernel)
  have hall : (Cond.all (.arg 0) (.isInt (.elem (.arg 0) (.index 0)))).before args s = true := hq _ (by decide +kernel)
  obtain ⟨b, xs, hb, hx⟩ := State.ints_of_pre rfl harr hlen hall
  have hsm : xs.length < 2 ^ 31 := hx.choose_spec.2.2.2
  have hev : (Term.length (.arg 0)).eval args s none [] s = some (.int xs.length.toInt32) := hx.length_eval hb
  have hv := Cond.le_ints hev (show (Term.int 3072).eval args s none [] s = some (.int 3072) from rfl)
  have hd : xs.length.toInt32 ≤ 3072 := by
    simpa [Cond.before, Cond.holds, hv] using hle
  have hN : xs.length ≤ 3072 := (Int32.ofNat_le_ofNat hsm (by decide)).mp (show Int32.ofNat xs.length ≤ Int32.ofNat 3072 from hd)
  exact ⟨b, xs, Cond.one_arg hc (show args[0]? = some (.ref b) from hb), hx, hN, h⟩
theorem lw_comes (l : Launch) (hl9 : l.stackTraces = false) : Comes l x (Jvm.Cond.code x code maxLocals ret :: tables_1) room_1 (fun tb e args s => Calls_1 tb e args s ∧ rest_1 tb e args s ∧ Pre_1 tb e args s)
    (fun _ _ args s o t => lw_Q args s o t) := by
  intro p e ha hc hk s m args below hf hfit hheap happ hpre
  obtain ⟨b, xs, hP⟩ := lw_pre_spec hpre.2.2 hpre.2.1
  obtain ⟨k, o, h1, h2, h3, hQ⟩ := lw_walk l hl9 b xs p e ha hc hk s m args below hf ((Spec.applies_iff_loose hf).mp happ).1 hP trivial
  exact ⟨k, o, h1, h2, h3, hQ⟩
theorem lw_frame {s t : State} {o : Outcome} {args : Array Value} (h : Framed s o t [] 601024 7293034) :
    Framed s o t (fieldLocs frame_1_writes args s ++ arrayLocs frame_1_arrays args s ++ staticLocs frame_1_statics s) 601024 7293034 := h
theorem lw_limb (L : Cond) (hL : ∀ (args : Array Value) (s t : State), L.after args s (.returned (some (.int 1))) t = true) :
    ArmFor flags0 classFile x code maxLocals ret World_1 tables_1 room_1 Calls_1 rest_1 Pre_1
      (fun tb e a s o t => postC L tb e a s o t ∧ Framed s o t (fieldLocs frame_1_writes a s ++ arrayLocs frame_1_arrays a s ++ staticLocs frame_1_statics s) 601024 7293034) := by
  intro l hfl _ _ p e ha hc hk s m args below hf hfit hheap happ hpre
  obtain ⟨k, o, h1, h2, h3, rfl, hF⟩ := lw_comes l (by rw [Launch.stackTraces, hfl]; decide) p e ha hc hk s m args below hf hfit hheap happ hpre
  exact ⟨k, _, h1, h2, h3, hL args s _, lw_frame hF⟩
theorem i_vc : Claimed_1_1 ∧ Claimed_1_2 := ⟨lw_limb limb_1_1 (fun args s t => by simp [limb_1_1, Cond.after, Cond.holds, Cond.value]), lw_limb limb_1_2 (fun args s t => Cond.after_iff.mpr (by
  first | (rw [show limb_1_2 = Cond.eq .result (.int 1) from rfl, Cond.eq_ints (x := 1) (y := 1) rfl rfl]; simp; done) | (simp [limb_1_2, Cond.value, Term.eval]; done)))⟩
