set_option maxHeartbeats 4000000 in
set_option maxRecDepth 100000 in
theorem k_Y_init (l : Launch) (D : va_G) (T : gT) (yo : Nat) (e0 e1 e2 e3 : Int32) (sz : Nat) (x y : Int32) : Met l y_Y_init (Cond.code y_Y_init b_Y_init 3 none :: bg_W) ({ frames := 1, cells := 0, slots := 0, locals := 12 }) (qP D T ([(yo, .inr (2, [.int e0, .int e1, .int e2, .int e3]))]) [.ref yo, .int x, .int y] sz) (va_Qv (fun u : Int32 × Int32 × Int32 × Int32 => match u with | (w0, w1, w2, w3) => w0 = x ∧ w1 = y ∧ w2 = 0 ∧ w3 = 0) (qB D T (va_A ([(yo, .inr (2, [.int e0, .int e1, .int e2, .int e3]))]) sz) (fun u : Int32 × Int32 × Int32 × Int32 => match u with | (w0, w1, w2, w3) => [(yo, .inr (2, [.int w0, .int w1, .int w2, .int w3]))])) (va_A ([(yo, .inr (2, [.int e0, .int e1, .int e2, .int e3]))]) sz)) 0 0 (va_A ([(yo, .inr (2, [.int e0, .int e1, .int e2, .int e3]))]) sz) := by
  refine Met.ofW (cc := b_Y_init) (maxL := 3) (ret := none) (by decide) rfl ?_
  intro p e s m args below meth c s₁ B hml hv
  obtain ⟨rfl, hsz, hP, hK, hD0⟩ := hv
  have hx := B.exec
  have hb := B.bytes
  have hr := B.returns
  have hw : ∀ w ∈ bg_W, w.before ([.ref yo, .int x, .int y] : List Value).toArray s = true := fun w h => atoms_spec (ws := (Cond.code y_Y_init b_Y_init 3 none :: bg_W)) B.pre w (List.mem_cons_of_mem _ h)
  have hown : s.vm.findClass "TimeWords$Years" = some m.cls := findClass_of_methodNamed B.named
  have hlocks := B.notSynchronized
  subst hsz
  have hD := hD0.self (sz := s.heap.size)
  generalize hAe : va_A ([(yo, .inr (2, [.int e0, .int e1, .int e2, .int e3]))]) s.heap.size = A at hD ⊢
  have hA : ∀ q : Nat, s.heap.size ≤ q → A q := fun q h => by rw [← hAe]; exact Or.inr h
  have hS : va_S A s.heap s.heap [] := va_S.rf
  have hl := lv_entry ([.ref yo, .int x, .int y]) (n := 3) (Nat.le_of_ble_eq_true rfl)
  rw [lg_entry_eq]
  generalize (lg_sl ([.ref yo, .int x, .int y]) ++ List.replicate (3 - (lg_sl ([.ref yo, .int x, .int y])).length) Slot.unset).toArray = ls at hl ⊢
  have hl : lv_has ls 3 [(0, .ref yo), (1, .int x), (2, .int y)] := hl
  have hin : meth.name = "<init>" := (name_of_methodNamed B.named B.method).1
  refine lv_aload_n hx hb d_Y_init_0 rfl (lv_at hl 0 rfl) ?_
  refine W.objInit hx hb hown (hw _ ml_Y_3) (hw _ wi_OB_init) (hw _ wc_OB_init) rfl (by rw [hml]; exact hl.1) rfl d_Y_init_1 (Nat.le_of_ble_eq_true rfl) (Nat.le_of_ble_eq_true rfl) ?_
  refine W.eq (g2 := F0 m 4 ls []) rfl ?_
  refine lv_aload_n hx hb d_Y_init_4 rfl (lv_at hl 0 rfl) ?_
  refine lv_iload_n hx hb d_Y_init_5 rfl (lv_at hl 1 rfl) ?_
  refine va_put (D := D) (ci := 2) (v := .int x) (ty := .int) (C := "TimeWords$Years") (T := F_Y) (N := 4) hx hb hw in_Y ty_Y ty_Y_ok n_Y hown hK hP hD hS 0 rfl rfl 0 (by decide) (hw _ fl_Y_9) (fun _ h9 => h9) rfl (by decide +kernel) rfl rfl (Nat.le_of_ble_eq_true rfl) d_Y_init_6 (fun H locs hP hD hS => ?_)
  have hP : va_P D gC ([(yo, .inr (2, [.int x, .int e1, .int e2, .int e3]))]) H := hP
  have hD : va_D A ([(yo, .inr (2, [.int x, .int e1, .int e2, .int e3]))]) := hD
  refine lv_aload_n hx hb d_Y_init_9 rfl (lv_at hl 0 rfl) ?_
  refine lv_iload_n hx hb d_Y_init_10 rfl (lv_at hl 2 rfl) ?_
  refine va_put (D := D) (ci := 2) (v := .int y) (ty := .int) (C := "TimeWords$Years") (T := F_Y) (N := 4) hx hb hw in_Y ty_Y ty_Y_ok n_Y hown hK hP hD hS 0 rfl rfl 1 (by decide) (hw _ fl_Y_15) (fun _ h9 => h9) rfl (by decide +kernel) rfl rfl (Nat.le_of_ble_eq_true rfl) d_Y_init_11 (fun H locs hP hD hS => ?_)
  have hP : va_P D gC ([(yo, .inr (2, [.int x, .int y, .int e2, .int e3]))]) H := hP
  have hD : va_D A ([(yo, .inr (2, [.int x, .int y, .int e2, .int e3]))]) := hD
  refine lv_aload_n hx hb d_Y_init_14 rfl (lv_at hl 0 rfl) ?_
  refine lv_iconst (v := 0) hx hb d_Y_init_15 (by decide) ?_
  refine va_put (D := D) (ci := 2) (v := .int 0) (ty := .boolean) (C := "TimeWords$Years") (T := F_Y) (N := 4) hx hb hw in_Y ty_Y ty_Y_ok n_Y hown hK hP hD hS 0 rfl rfl 2 (by decide) (hw _ fl_Y_18) (fun _ h9 => h9) rfl (by decide +kernel) rfl rfl (Nat.le_of_ble_eq_true rfl) d_Y_init_16 (fun H locs hP hD hS => ?_)
  have hP : va_P D gC ([(yo, .inr (2, [.int x, .int y, .int 0, .int e3]))]) H := hP
  have hD : va_D A ([(yo, .inr (2, [.int x, .int y, .int 0, .int e3]))]) := hD
  refine lv_aload_n hx hb d_Y_init_19 rfl (lv_at hl 0 rfl) ?_
  refine lv_iconst (v := 0) hx hb d_Y_init_20 (by decide) ?_
  refine va_put (D := D) (ci := 2) (v := .int 0) (ty := .boolean) (C := "TimeWords$Years") (T := F_Y) (N := 4) hx hb hw in_Y ty_Y ty_Y_ok n_Y hown hK hP hD hS 0 rfl rfl 3 (by decide) (hw _ fl_Y_22) (fun _ h9 => h9) rfl (by decide +kernel) rfl rfl (Nat.le_of_ble_eq_true rfl) d_Y_init_21 (fun H locs hP hD hS => ?_)
  have hP : va_P D gC ([(yo, .inr (2, [.int x, .int y, .int 0, .int 0]))]) H := hP
  have hD : va_D A ([(yo, .inr (2, [.int x, .int y, .int 0, .int 0]))]) := hD
  exact W.vret hx hb hr (fun t ht hW => ⟨⟨(x, y, 0, 0), rfl, ⟨rfl, rfl, rfl, rfl⟩, by rw [ht]; exact hP, va_K.moved hW.alike hK, hD⟩, hS.F ht⟩) hS.2.2 d_Y_init_24

set_option maxHeartbeats 4000000 in
set_option maxRecDepth 100000 in
theorem k_Y_become (l : Launch) (D : va_G) (T : gT) (yo : Nat) (e0 e1 e2 e3 : Int32) (sz : Nat) (x y : Int32) : Met l y_Y_become (Cond.code y_Y_become b_Y_become 3 none :: bg_W) ({ frames := 0, cells := 0, slots := 0, locals := 0 }) (qP D T ([(yo, .inr (2, [.int e0, .int e1, .int e2, .int e3]))]) [.ref yo, .int x, .int y] sz) (va_Qv (fun u : Int32 × Int32 × Int32 × Int32 => match u with | (w0, w1, w2, w3) => w0 = x ∧ w1 = y ∧ w2 = 0 ∧ w3 = 0) (qB D T (va_A ([(yo, .inr (2, [.int e0, .int e1, .int e2, .int e3]))]) sz) (fun u : Int32 × Int32 × Int32 × Int32 => match u with | (w0, w1, w2, w3) => [(yo, .inr (2, [.int w0, .int w1, .int w2, .int w3]))])) (va_A ([(yo, .inr (2, [.int e0, .int e1, .int e2, .int e3]))]) sz)) 0 0 (va_A ([(yo, .inr (2, [.int e0, .int e1, .int e2, .int e3]))]) sz) := by
  refine Met.ofW (cc := b_Y_become) (maxL := 3) (ret := none) (by decide) rfl ?_
  intro p e s m args below meth c s₁ B hml hv
  obtain ⟨rfl, hsz, hP, hK, hD0⟩ := hv
  have hx := B.exec
  have hb := B.bytes
  have hr := B.returns
  have hw : ∀ w ∈ bg_W, w.before ([.ref yo, .int x, .int y] : List Value).toArray s = true := fun w h => atoms_spec (ws := (Cond.code y_Y_become b_Y_become 3 none :: bg_W)) B.pre w (List.mem_cons_of_mem _ h)
  have hown : s.vm.findClass "TimeWords$Years" = some m.cls := findClass_of_methodNamed B.named
  have hlocks := B.notSynchronized
  subst hsz
  have hD := hD0.self (sz := s.heap.size)
  generalize hAe : va_A ([(yo, .inr (2, [.int e0, .int e1, .int e2, .int e3]))]) s.heap.size = A at hD ⊢
  have hA : ∀ q : Nat, s.heap.size ≤ q → A q := fun q h => by rw [← hAe]; exact Or.inr h
  have hS : va_S A s.heap s.heap [] := va_S.rf
  have hl := lv_entry ([.ref yo, .int x, .int y]) (n := 3) (Nat.le_of_ble_eq_true rfl)
  rw [lg_entry_eq]
  generalize (lg_sl ([.ref yo, .int x, .int y]) ++ List.replicate (3 - (lg_sl ([.ref yo, .int x, .int y])).length) Slot.unset).toArray = ls at hl ⊢
  have hl : lv_has ls 3 [(0, .ref yo), (1, .int x), (2, .int y)] := hl
  refine lv_aload_n hx hb d_Y_become_0 rfl (lv_at hl 0 rfl) ?_
  refine lv_iload_n hx hb d_Y_become_1 rfl (lv_at hl 1 rfl) ?_
  refine va_put (D := D) (ci := 2) (v := .int x) (ty := .int) (C := "TimeWords$Years") (T := F_Y) (N := 4) hx hb hw in_Y ty_Y ty_Y_ok n_Y hown hK hP hD hS 0 rfl rfl 0 (by decide) (hw _ fl_Y_9) (fun _ h9 => h9) rfl (by decide +kernel) rfl rfl (Nat.le_of_ble_eq_true rfl) d_Y_become_2 (fun H locs hP hD hS => ?_)
  have hP : va_P D gC ([(yo, .inr (2, [.int x, .int e1, .int e2, .int e3]))]) H := hP
  have hD : va_D A ([(yo, .inr (2, [.int x, .int e1, .int e2, .int e3]))]) := hD
  refine lv_aload_n hx hb d_Y_become_5 rfl (lv_at hl 0 rfl) ?_
  refine lv_iload_n hx hb d_Y_become_6 rfl (lv_at hl 2 rfl) ?_
  refine va_put (D := D) (ci := 2) (v := .int y) (ty := .int) (C := "TimeWords$Years") (T := F_Y) (N := 4) hx hb hw in_Y ty_Y ty_Y_ok n_Y hown hK hP hD hS 0 rfl rfl 1 (by decide) (hw _ fl_Y_15) (fun _ h9 => h9) rfl (by decide +kernel) rfl rfl (Nat.le_of_ble_eq_true rfl) d_Y_become_7 (fun H locs hP hD hS => ?_)
  have hP : va_P D gC ([(yo, .inr (2, [.int x, .int y, .int e2, .int e3]))]) H := hP
  have hD : va_D A ([(yo, .inr (2, [.int x, .int y, .int e2, .int e3]))]) := hD
  refine lv_aload_n hx hb d_Y_become_10 rfl (lv_at hl 0 rfl) ?_
  refine lv_iconst (v := 0) hx hb d_Y_become_11 (by decide) ?_
  refine va_put (D := D) (ci := 2) (v := .int 0) (ty := .boolean) (C := "TimeWords$Years") (T := F_Y) (N := 4) hx hb hw in_Y ty_Y ty_Y_ok n_Y hown hK hP hD hS 0 rfl rfl 2 (by decide) (hw _ fl_Y_18) (fun _ h9 => h9) rfl (by decide +kernel) rfl rfl (Nat.le_of_ble_eq_true rfl) d_Y_become_12 (fun H locs hP hD hS => ?_)
  have hP : va_P D gC ([(yo, .inr (2, [.int x, .int y, .int 0, .int e3]))]) H := hP
  have hD : va_D A ([(yo, .inr (2, [.int x, .int y, .int 0, .int e3]))]) := hD
  refine lv_aload_n hx hb d_Y_become_15 rfl (lv_at hl 0 rfl) ?_
  refine lv_iconst (v := 0) hx hb d_Y_become_16 (by decide) ?_
  refine va_put (D := D) (ci := 2) (v := .int 0) (ty := .boolean) (C := "TimeWords$Years") (T := F_Y) (N := 4) hx hb hw in_Y ty_Y ty_Y_ok n_Y hown hK hP hD hS 0 rfl rfl 3 (by decide) (hw _ fl_Y_22) (fun _ h9 => h9) rfl (by decide +kernel) rfl rfl (Nat.le_of_ble_eq_true rfl) d_Y_become_17 (fun H locs hP hD hS => ?_)
  have hP : va_P D gC ([(yo, .inr (2, [.int x, .int y, .int 0, .int 0]))]) H := hP
  have hD : va_D A ([(yo, .inr (2, [.int x, .int y, .int 0, .int 0]))]) := hD
  exact W.vret hx hb hr (fun t ht hW => ⟨⟨(x, y, 0, 0), rfl, ⟨rfl, rfl, rfl, rfl⟩, by rw [ht]; exact hP, va_K.moved hW.alike hK, hD⟩, hS.F ht⟩) hS.2.2 d_Y_become_20

set_option maxHeartbeats 4000000 in
set_option maxRecDepth 100000 in
theorem k_Y_isOpen (l : Launch) (D : va_G) (T : gT) (yo : Nat) (e0 e1 e2 e3 : Int32) : Met l y_Y_isOpen (Cond.code y_Y_isOpen b_Y_isOpen 1 (some .boolean) :: bg_W) ({ frames := 0, cells := 0, slots := 0, locals := 0 }) (sP D T ([(yo, .inr (2, [.int e0, .int e1, .int e2, .int e3]))]) [.ref yo]) (vp_Si (fun r : Int32 => r = b2i (!(decide (e2 = 0) && decide (e3 = 0))))) 0 0 (fun _ => False) := by
  refine Met.ofW (cc := b_Y_isOpen) (maxL := 1) (ret := (some .boolean)) (by decide) rfl ?_
  intro p e s m args below meth c s₁ B hml hv
  obtain ⟨rfl, hP, hK⟩ := hv
  have hx := B.exec
  have hb := B.bytes
  have hr := B.returns
  have hw : ∀ w ∈ bg_W, w.before ([.ref yo] : List Value).toArray s = true := fun w h => atoms_spec (ws := (Cond.code y_Y_isOpen b_Y_isOpen 1 (some .boolean) :: bg_W)) B.pre w (List.mem_cons_of_mem _ h)
  have hown : s.vm.findClass "TimeWords$Years" = some m.cls := findClass_of_methodNamed B.named
  have hlocks := B.notSynchronized
  have hl := lv_entry ([.ref yo]) (n := 1) (Nat.le_of_ble_eq_true rfl)
  rw [lg_entry_eq]
  generalize (lg_sl ([.ref yo]) ++ List.replicate (1 - (lg_sl ([.ref yo])).length) Slot.unset).toArray = ls at hl ⊢
  have hl : lv_has ls 1 [(0, .ref yo)] := hl
  refine lv_aload_n hx hb d_Y_isOpen_0 rfl (lv_at hl 0 rfl) ?_
  refine va_get (D := D) (ci := 2) (v := .int e2) (C := "TimeWords$Years") (T := F_Y) (N := 4) hx hb hw in_Y hown hK hP 0 rfl rfl 2 (by decide) (hw _ fl_Y_18) (fun _ h9 => h9) rfl d_Y_isOpen_1 ?_
  refine lv_if_ne (tgt := 14) hx hb d_Y_isOpen_4 (by decide) (fun c1 => ?_) (fun c1 => ?_)
  · refine lv_iconst (v := 1) hx hb d_Y_isOpen_14 (by decide) ?_
    refine lv_goto (tgt := 19) hx hb d_Y_isOpen_15 (by decide) ?_
    exact W.zret (v := 1) hx hb hr rfl (fun t ht hW => ⟨1, rfl, (by simp [b2i, *]), ht⟩) (fun _ h => nomatch h) d_Y_isOpen_19
  · refine lv_aload_n hx hb d_Y_isOpen_7 rfl (lv_at hl 0 rfl) ?_
    refine va_get (D := D) (ci := 2) (v := .int e3) (C := "TimeWords$Years") (T := F_Y) (N := 4) hx hb hw in_Y hown hK hP 0 rfl rfl 3 (by decide) (hw _ fl_Y_22) (fun _ h9 => h9) rfl d_Y_isOpen_8 ?_
    refine lv_if_eq (tgt := 18) hx hb d_Y_isOpen_11 (by decide) (fun c2 => ?_) (fun c2 => ?_)
    · refine lv_iconst (v := 0) hx hb d_Y_isOpen_18 (by decide) ?_
      exact W.zret (v := 0) hx hb hr rfl (fun t ht hW => ⟨0, rfl, (by simp [b2i, *]), ht⟩) (fun _ h => nomatch h) d_Y_isOpen_19
    · refine lv_iconst (v := 1) hx hb d_Y_isOpen_14 (by decide) ?_
      refine lv_goto (tgt := 19) hx hb d_Y_isOpen_15 (by decide) ?_
      exact W.zret (v := 1) hx hb hr rfl (fun t ht hW => ⟨1, rfl, (by simp [b2i, *]), ht⟩) (fun _ h => nomatch h) d_Y_isOpen_19

set_option maxHeartbeats 4000000 in
set_option maxRecDepth 100000 in
theorem k_Y_length (l : Launch) (D : va_G) (T : gT) (yo : Nat) (e0 e1 e2 e3 : Int32) : Met l y_Y_length (Cond.code y_Y_length b_Y_length 1 (some .int) :: bg_W) ({ frames := 0, cells := 0, slots := 0, locals := 0 }) (sP D T ([(yo, .inr (2, [.int e0, .int e1, .int e2, .int e3]))]) [.ref yo]) (vp_Si (fun r : Int32 => r = e1 - e0 + 1)) 0 0 (fun _ => False) := by
  refine Met.ofW (cc := b_Y_length) (maxL := 1) (ret := (some .int)) (by decide) rfl ?_
  intro p e s m args below meth c s₁ B hml hv
  obtain ⟨rfl, hP, hK⟩ := hv
  have hx := B.exec
  have hb := B.bytes
  have hr := B.returns
  have hw : ∀ w ∈ bg_W, w.before ([.ref yo] : List Value).toArray s = true := fun w h => atoms_spec (ws := (Cond.code y_Y_length b_Y_length 1 (some .int) :: bg_W)) B.pre w (List.mem_cons_of_mem _ h)
  have hown : s.vm.findClass "TimeWords$Years" = some m.cls := findClass_of_methodNamed B.named
  have hlocks := B.notSynchronized
  have hl := lv_entry ([.ref yo]) (n := 1) (Nat.le_of_ble_eq_true rfl)
  rw [lg_entry_eq]
  generalize (lg_sl ([.ref yo]) ++ List.replicate (1 - (lg_sl ([.ref yo])).length) Slot.unset).toArray = ls at hl ⊢
  have hl : lv_has ls 1 [(0, .ref yo)] := hl
  refine lv_aload_n hx hb d_Y_length_0 rfl (lv_at hl 0 rfl) ?_
  refine va_get (D := D) (ci := 2) (v := .int e1) (C := "TimeWords$Years") (T := F_Y) (N := 4) hx hb hw in_Y hown hK hP 0 rfl rfl 1 (by decide) (hw _ fl_Y_15) (fun _ h9 => h9) rfl d_Y_length_1 ?_
  refine lv_aload_n hx hb d_Y_length_4 rfl (lv_at hl 0 rfl) ?_
  refine va_get (D := D) (ci := 2) (v := .int e0) (C := "TimeWords$Years") (T := F_Y) (N := 4) hx hb hw in_Y hown hK hP 0 rfl rfl 0 (by decide) (hw _ fl_Y_9) (fun _ h9 => h9) rfl d_Y_length_5 ?_
  refine lv_isub hx hb d_Y_length_8 ?_
  refine lv_iconst (v := 1) hx hb d_Y_length_9 (by decide) ?_
  refine lv_iadd hx hb d_Y_length_10 ?_
  exact W.iret (v := (e1 - e0) + 1) hx hb hr (fun t ht hW => ⟨(e1 - e0) + 1, rfl, rfl, ht⟩) (fun _ h => nomatch h) d_Y_length_11
