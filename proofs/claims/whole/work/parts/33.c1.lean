set_option maxHeartbeats 4000000 in
set_option maxRecDepth 100000 in
theorem k_Y_init (l : Launch) (D : va_G) (T : gT) (yo : Nat) (e0 e1 e2 e3 : Int32) (sz : Nat) (x y : Int32) : Met l y_Y_init (Cond.code y_Y_init b_Y_init 3 none :: bg_W) ({ frames := 1, cells := 0, slots := 0, locals := 12 }) (qP D T ([(yo, .inr (2, [.int e0, .int e1, .int e2, .int e3]))]) [.ref yo, .int x, .int y] sz) (va_Qv (fun u : Int32 × Int32 × Int32 × Int32 => match u with | (w0, w1, w2, w3) => w0 = x ∧ w1 = y ∧ w2 = 0 ∧ w3 = 0) (qB D T (va_A ([(yo, .inr (2, [.int e0, .int e1, .int e2, .int e3]))]) sz) (fun u : Int32 × Int32 × Int32 × Int32 => match u with | (w0, w1, w2, w3) => [(yo, .inr (2, [.int w0, .int w1, .int w2, .int w3]))])) (va_A ([(yo, .inr (2, [.int e0, .int e1, .int e2, .int e3]))]) sz)) 0 0 (va_A ([(yo, .inr (2, [.int e0, .int e1, .int e2, .int e3]))]) sz) := by
  refine Met.ofW (cc := b_Y_init) (maxL := 3) (ret := none) (by decide) rfl ?_
  intro p e s m args below meth c s₁ B hml hv
  obtain ⟨rfl, hsz, hP, hK, hD0⟩ := hv
  have hx := B.exec
  have hb := B.bytes
  have hr := B.returns
  have hw : ∀ w ∈ bg_W, w.before ([.ref yo, .int x, .int y] : List Value).toArray s = true := fun w h => atoms_spec (ws := (Cond.code y_Y_init b_Y_init 3 none :: bg_W)) B.pre w (List.mem_cons_of_mem _ h)
  have hown : s.vm.findClass "TimeWords$Years" = some m.cls := findClass_of_methodNamed B.named
  have hlocks := B.notSynchronized
  subst hsz
  have hD := hD0.self (sz := s.heap.size)
  generalize hAe : va_A ([(yo, .inr (2, [.int e0, .int e1, .int e2, .int e3]))]) s.heap.size = A at hD ⊢
  have hA : ∀ q : Nat, s.heap.size ≤ q → A q := fun q h => by rw [← hAe]; exact Or.inr h
  have hS : va_S A s.heap s.heap [] := va_S.rf
  have hl := lv_entry ([.ref yo, .int x, .int y]) (n := 3) (Nat.le_of_ble_eq_true rfl)
  rw [lg_entry_eq]
  generalize (lg_sl ([.ref yo, .int x, .int y]) ++ List.replicate (3 - (lg_sl ([.ref yo, .int x, .int y])).length) Slot.unset).toArray = ls at hl ⊢
  have hl : lv_has ls 3 [(0, .ref yo), (1, .int x), (2, .int y)] := hl
  have hin : meth.name = "<init>" := (name_of_methodNamed B.named B.method).1
  refine lv_aload_n hx hb d_Y_init_0 rfl (lv_at hl 0 rfl) ?_
  refine W.objInit hx hb hown (hw _ ml_Y_3) (hw _ wi_OB_init) (hw _ wc_OB_init) rfl (by rw [hml]; exact hl.1) rfl d_Y_init_1 (Nat.le_of_ble_eq_true rfl) (Nat.le_of_ble_eq_true rfl) ?_
  refine W.eq (g2 := F0 m 4 ls []) rfl ?_
  refine lv_aload_n hx hb d_Y_init_4 rfl (lv_at hl 0 rfl) ?_
  refine lv_iload_n hx hb d_Y_init_5 rfl (lv_at hl 1 rfl) ?_
  refine va_put (D := D) (ci := 2) (v := .int x) (ty := .int) (C := "TimeWords$Years") (T := F_Y) (N := 4) hx hb hw in_Y ty_Y ty_Y_ok n_Y hown hK hP hD hS 0 rfl rfl 0 (by decide) (hw _ fl_Y_9) (fun _ h9 => h9) rfl (by decide +kernel) rfl rfl (Nat.le_of_ble_eq_true rfl) d_Y_init_6 (fun H locs hP hD hS => ?_)
  have hP : va_P D gC ([(yo, .inr (2, [.int x, .int e1, .int e2, .int e3]))]) H := hP
  have hD : va_D A ([(yo, .inr (2, [.int x, .int e1, .int e2, .int e3]))]) := hD
  refine lv_aload_n hx hb d_Y_init_9 rfl (lv_at hl 0 rfl) ?_
  refine lv_iload_n hx hb d_Y_init_10 rfl (lv_at hl 2 rfl) ?_
  refine va_put (D := D) (ci := 2) (v := .int y) (ty := .int) (C := "TimeWords$Years") (T := F_Y) (N := 4) hx hb hw in_Y ty_Y ty_Y_ok n_Y hown hK hP hD hS 0 rfl rfl 1 (by decide) (hw _ fl_Y_15) (fun _ h9 => h9) rfl (by decide +kernel) rfl rfl (Nat.le_of_ble_eq_true rfl) d_Y_init_11 (fun H locs hP hD hS => ?_)
  have hP : va_P D gC ([(yo, .inr (2, [.int x, .int y, .int e2, .int e3]))]) H := hP
  have hD : va_D A ([(yo, .inr (2, [.int x, .int y, .int e2, .int e3]))]) := hD
  refine lv_aload_n hx hb d_Y_init_14 rfl (lv_at hl 0 rfl) ?_
  refine lv_iconst (v := 0) hx hb d_Y_init_15 (by decide) ?_
  refine va_put (D := D) (ci := 2) (v := .int 0) (ty := .boolean) (C := "TimeWords$Years") (T := F_Y) (N := 4) hx hb hw in_Y ty_Y ty_Y_ok n_Y hown hK hP hD hS 0 rfl rfl 2 (by decide) (hw _ fl_Y_18) (fun _ h9 => h9) rfl (by decide +kernel) rfl rfl (Nat.le_of_ble_eq_true rfl) d_Y_init_16 (fun H locs hP hD hS => ?_)
  have hP : va_P D gC ([(yo, .inr (2, [.int x, .int y, .int 0, .int e3]))]) H := hP
  have hD : va_D A ([(yo, .inr (2, [.int x, .int y, .int 0, .int e3]))]) := hD
  refine lv_aload_n hx hb d_Y_init_19 rfl (lv_at hl 0 rfl) ?_
  refine lv_iconst (v := 0) hx hb d_Y_init_20 (by decide) ?_
  refine va_put (D := D) (ci := 2) (v := .int 0) (ty := .boolean) (C := "TimeWords$Years") (T := F_Y) (N := 4) hx hb hw in_Y ty_Y ty_Y_ok n_Y hown hK hP hD hS 0 rfl rfl 3 (by decide) (hw _ fl_Y_22) (fun _ h9 => h9) rfl (by decide +kernel) rfl rfl (Nat.le_of_ble_eq_true rfl) d_Y_init_21 (fun H locs hP hD hS => ?_)
  have hP : va_P D gC ([(yo, .inr (2, [.int x, .int y, .int 0, .int 0]))]) H := hP
  have hD : va_D A ([(yo, .inr (2, [.int x, .int y, .int 0, .int 0]))]) := hD
  exact W.vret hx hb hr (fun t ht hW => ⟨⟨(x, y, 0, 0), rfl, ⟨rfl, rfl, rfl, rfl⟩, by rw [ht]; exact hP, va_K.moved hW.alike hK, hD⟩, hS.F ht⟩) hS.2.2 d_Y_init_24

set_option maxHeartbeats 4000000 in
set_option maxRecDepth 100000 in
theorem k_Y_become (l : Launch) (D : va_G) (T : gT) (yo : Nat) (e0 e1 e2 e3 : Int32) (sz : Nat) (x y : Int32) : Met l y_Y_become (Cond.code y_Y_become b_Y_become 3 none :: bg_W) ({ frames := 0, cells := 0, slots := 0, locals := 0 }) (qP D T ([(yo, .inr (2, [.int e0, .int e1, .int e2, .int e3]))]) [.ref yo, .int x, .int y] sz) (va_Qv (fun u : Int32 × Int32 × Int32 × Int32 => match u with | (w0, w1, w2, w3) => w0 = x ∧ w1 = y ∧ w2 = 0 ∧ w3 = 0) (qB D T (va_A ([(yo, .inr (2, [.int e0, .int e1, .int e2, .int e3]))]) sz) (fun u : Int32 × Int32 × Int32 × Int32 => match u with | (w0, w1, w2, w3) => [(yo, .inr (2, [.int w0, .int w1, .int w2, .int w3]))])) (va_A ([(yo, .inr (2, [.int e0, .int e1, .int e2, .int e3]))]) sz)) 0 0 (va_A ([(yo, .inr (2, [.int e0, .int e1, .int e2, .int e3]))]) sz) := by
  refine Met.ofW (cc := b_Y_become) (maxL := 3) (ret := none) (by decide) rfl ?_
  intro p e s m args below meth c s₁ B hml hv
  obtain ⟨rfl, hsz, hP, hK, hD0⟩ := hv
  have hx := B.exec
  have hb := B.bytes
  have hr := B.returns
  have hw : ∀ w ∈ bg_W, w.before ([.ref yo, .int x, .int y] : List Value).toArray s = true := fun w h => atoms_spec (ws := (Cond.code y_Y_become b_Y_become 3 none :: bg_W)) B.pre w (List.mem_cons_of_mem _ h)
  have hown : s.vm.findClass "TimeWords$Years" = some m.cls := findClass_of_methodNamed B.named
  have hlocks := B.notSynchronized
  subst hsz
  have hD := hD0.self (sz := s.heap.size)
  generalize hAe : va_A ([(yo, .inr (2, [.int e0, .int e1, .int e2, .int e3]))]) s.heap.size = A at hD ⊢
  have hA : ∀ q : Nat, s.heap.size ≤ q → A q := fun q h => by rw [← hAe]; exact Or.inr h
  have hS : va_S A s.heap s.heap [] := va_S.rf
  have hl := lv_entry ([.ref yo, .int x, .int y]) (n := 3) (Nat.le_of_ble_eq_true rfl)
  rw [lg_entry_eq]
  generalize (lg_sl ([.ref yo, .int x, .int y]) ++ List.replicate (3 - (lg_sl ([.ref yo, .int x, .int y])).length) Slot.unset).toArray = ls at hl ⊢
  have hl : lv_has ls 3 [(0, .ref yo), (1, .int x), (2, .int y)] := hl
  refine lv_aload_n hx hb d_Y_become_0 rfl (lv_at hl 0 rfl) ?_
  refine lv_iload_n hx hb d_Y_become_1 rfl (lv_at hl 1 rfl) ?_
  refine va_put (D := D) (ci := 2) (v := .int x) (ty := .int) (C := "TimeWords$Years") (T := F_Y) (N := 4) hx hb hw in_Y ty_Y ty_Y_ok n_Y hown hK hP hD hS 0 rfl rfl 0 (by decide) (hw _ fl_Y_9) (fun _ h9 => h9) rfl (by decide +kernel) rfl rfl (Nat.le_of_ble_eq_true rfl) d_Y_become_2 (fun H locs hP hD hS => ?_)
  have hP : va_P D gC ([(yo, .inr (2, [.int x, .int e1, .int e2, .int e3]))]) H := hP
  have hD : va_D A ([(yo, .inr (2, [.int x, .int e1, .int e2, .int e3]))]) := hD
  refine lv_aload_n hx hb d_Y_become_5 rfl (lv_at hl 0 rfl) ?_
  refine lv_iload_n hx hb d_Y_become_6 rfl (lv_at hl 2 rfl) ?_
  refine va_put (D := D) (ci := 2) (v := .int y) (ty := .int) (C := "TimeWords$Years") (T := F_Y) (N := 4) hx hb hw in_Y ty_Y ty_Y_ok n_Y hown hK hP hD hS 0 rfl rfl 1 (by decide) (hw _ fl_Y_15) (fun _ h9 => h9) rfl (by decide +kernel) rfl rfl (Nat.le_of_ble_eq_true rfl) d_Y_become_7 (fun H locs hP hD hS => ?_)
  have hP : va_P D gC ([(yo, .inr (2, [.int x, .int y, .int e2, .int e3]))]) H := hP
  have hD : va_D A ([(yo, .inr (2, [.int x, .int y, .int e2, .int e3]))]) := hD
  refine lv_aload_n hx hb d_Y_become_10 rfl (lv_at hl 0 rfl) ?_
  refine lv_iconst (v := 0) hx hb d_Y_become_11 (by decide) ?_
  refine va_put (D := D) (ci := 2) (v := .int 0) (ty := .boolean) (C := "TimeWords$Years") (T := F_Y) (N := 4) hx hb hw in_Y ty_Y ty_Y_ok n_Y hown hK hP hD hS 0 rfl rfl 2 (by decide) (hw _ fl_Y_18) (fun _ h9 => h9) rfl (by decide +kernel) rfl rfl (Nat.le_of_ble_eq_true rfl) d_Y_become_12 (fun H locs hP hD hS => ?_)
  have hP : va_P D gC ([(yo, .inr (2, [.int x, .int y, .int 0, .int e3]))]) H := hP
  have hD : va_D A ([(yo, .inr (2, [.int x, .int y, .int 0, .int e3]))]) := hD
  refine lv_aload_n hx hb d_Y_become_15 rfl (lv_at hl 0 rfl) ?_
  refine lv_iconst (v := 0) hx hb d_Y_become_16 (by decide) ?_
  refine va_put (D := D) (ci := 2) (v := .int 0) (ty := .boolean) (C := "TimeWords$Years") (T := F_Y) (N := 4) hx hb hw in_Y ty_Y ty_Y_ok n_Y hown hK hP hD hS 0 rfl rfl 3 (by decide) (hw _ fl_Y_22) (fun _ h9 => h9) rfl (by decide +kernel) rfl rfl (Nat.le_of_ble_eq_true rfl) d_Y_become_17 (fun H locs hP hD hS => ?_)
  have hP : va_P D gC ([(yo, .inr (2, [.int x, .int y, .int 0, .int 0]))]) H := hP
  have hD : va_D A ([(yo, .inr (2, [.int x, .int y, .int 0, .int 0]))]) := hD
  exact W.vret hx hb hr (fun t ht hW => ⟨⟨(x, y, 0, 0), rfl, ⟨rfl, rfl, rfl, rfl⟩, by rw [ht]; exact hP, va_K.moved hW.alike hK, hD⟩, hS.F ht⟩) hS.2.2 d_Y_become_20

set_option maxHeartbeats 4000000 in
set_option maxRecDepth 100000 in
theorem k_Y_isOpen (l : Launch) (D : va_G) (T : gT) (yo : Nat) (e0 e1 : Int32) (oF oT : Bool) : Met l y_Y_isOpen (Cond.code y_Y_isOpen b_Y_isOpen 1 (some .boolean) :: bg_W) ({ frames := 0, cells := 0, slots := 0, locals := 0 }) (sP D T ([(yo, .inr (2, [.int e0, .int e1, .int (b2i oF), .int (b2i oT)]))]) [.ref yo]) (vp_Si (fun r : Int32 => r = b2i (oF || oT))) 0 0 (fun _ => False) := by
  refine Met.ofW (cc := b_Y_isOpen) (maxL := 1) (ret := (some .boolean)) (by decide) rfl ?_
  intro p e s m args below meth c s₁ B hml hv
  obtain ⟨rfl, hP, hK⟩ := hv
  have hx := B.exec
  have hb := B.bytes
  have hr := B.returns
  have hw : ∀ w ∈ bg_W, w.before ([.ref yo] : List Value).toArray s = true := fun w h => atoms_spec (ws := (Cond.code y_Y_isOpen b_Y_isOpen 1 (some .boolean) :: bg_W)) B.pre w (List.mem_cons_of_mem _ h)
  have hown : s.vm.findClass "TimeWords$Years" = some m.cls := findClass_of_methodNamed B.named
  have hlocks := B.notSynchronized
  have hl := lv_entry ([.ref yo]) (n := 1) (Nat.le_of_ble_eq_true rfl)
  rw [lg_entry_eq]
  generalize (lg_sl ([.ref yo]) ++ List.replicate (1 - (lg_sl ([.ref yo])).length) Slot.unset).toArray = ls at hl ⊢
  have hl : lv_has ls 1 [(0, .ref yo)] := hl
  refine lv_aload_n hx hb d_Y_isOpen_0 rfl (lv_at hl 0 rfl) ?_
  refine va_get (D := D) (ci := 2) (v := .int (b2i oF)) (C := "TimeWords$Years") (T := F_Y) (N := 4) hx hb hw in_Y hown hK hP 0 rfl rfl 2 (by decide) (hw _ fl_Y_18) (fun _ h9 => h9) rfl d_Y_isOpen_1 ?_
  refine lv_if_ne (tgt := 14) hx hb d_Y_isOpen_4 (by decide) (fun c1 => ?_) (fun c1 => ?_)
  · have c1 := b2i_t c1
    refine lv_iconst (v := 1) hx hb d_Y_isOpen_14 (by decide) ?_
    refine lv_goto (tgt := 19) hx hb d_Y_isOpen_15 (by decide) ?_
    exact W.zret (v := 1) hx hb hr rfl (fun t ht hW => ⟨1, rfl, (by simp [b2i, *]), ht⟩) (fun _ h => nomatch h) d_Y_isOpen_19
  · have c1 := b2i_f c1
    refine lv_aload_n hx hb d_Y_isOpen_7 rfl (lv_at hl 0 rfl) ?_
    refine va_get (D := D) (ci := 2) (v := .int (b2i oT)) (C := "TimeWords$Years") (T := F_Y) (N := 4) hx hb hw in_Y hown hK hP 0 rfl rfl 3 (by decide) (hw _ fl_Y_22) (fun _ h9 => h9) rfl d_Y_isOpen_8 ?_
    refine lv_if_eq (tgt := 18) hx hb d_Y_isOpen_11 (by decide) (fun c2 => ?_) (fun c2 => ?_)
    · have c2 := b2i_f c2
      refine lv_iconst (v := 0) hx hb d_Y_isOpen_18 (by decide) ?_
      exact W.zret (v := 0) hx hb hr rfl (fun t ht hW => ⟨0, rfl, (by simp [b2i, *]), ht⟩) (fun _ h => nomatch h) d_Y_isOpen_19
    · have c2 := b2i_t c2
      refine lv_iconst (v := 1) hx hb d_Y_isOpen_14 (by decide) ?_
      refine lv_goto (tgt := 19) hx hb d_Y_isOpen_15 (by decide) ?_
      exact W.zret (v := 1) hx hb hr rfl (fun t ht hW => ⟨1, rfl, (by simp [b2i, *]), ht⟩) (fun _ h => nomatch h) d_Y_isOpen_19

set_option maxHeartbeats 4000000 in
set_option maxRecDepth 100000 in
theorem k_Y_isOpenAt (l : Launch) (D : va_G) (T : gT) (yo : Nat) (e0 e1 : Int32) (oF oT : Bool) (k : Int32) : Met l y_Y_isOpenAt (Cond.code y_Y_isOpenAt b_Y_isOpenAt 2 (some .boolean) :: bg_W) ({ frames := 0, cells := 0, slots := 0, locals := 0 }) (sP D T ([(yo, .inr (2, [.int e0, .int e1, .int (b2i oF), .int (b2i oT)]))]) [.ref yo, .int k]) (vp_Si (fun r : Int32 => r = b2i (if k = 0 then oF else oT))) 0 0 (fun _ => False) := by
  refine Met.ofW (cc := b_Y_isOpenAt) (maxL := 2) (ret := (some .boolean)) (by decide) rfl ?_
  intro p e s m args below meth c s₁ B hml hv
  obtain ⟨rfl, hP, hK⟩ := hv
  have hx := B.exec
  have hb := B.bytes
  have hr := B.returns
  have hw : ∀ w ∈ bg_W, w.before ([.ref yo, .int k] : List Value).toArray s = true := fun w h => atoms_spec (ws := (Cond.code y_Y_isOpenAt b_Y_isOpenAt 2 (some .boolean) :: bg_W)) B.pre w (List.mem_cons_of_mem _ h)
  have hown : s.vm.findClass "TimeWords$Years" = some m.cls := findClass_of_methodNamed B.named
  have hlocks := B.notSynchronized
  have hl := lv_entry ([.ref yo, .int k]) (n := 2) (Nat.le_of_ble_eq_true rfl)
  rw [lg_entry_eq]
  generalize (lg_sl ([.ref yo, .int k]) ++ List.replicate (2 - (lg_sl ([.ref yo, .int k])).length) Slot.unset).toArray = ls at hl ⊢
  have hl : lv_has ls 2 [(0, .ref yo), (1, .int k)] := hl
  refine lv_iload_n hx hb d_Y_isOpenAt_0 rfl (lv_at hl 1 rfl) ?_
  refine lv_if_ne (tgt := 11) hx hb d_Y_isOpenAt_1 (by decide) (fun c1 => ?_) (fun c1 => ?_)
  · refine lv_aload_n hx hb d_Y_isOpenAt_11 rfl (lv_at hl 0 rfl) ?_
    refine va_get (D := D) (ci := 2) (v := .int (b2i oT)) (C := "TimeWords$Years") (T := F_Y) (N := 4) hx hb hw in_Y hown hK hP 0 rfl rfl 3 (by decide) (hw _ fl_Y_22) (fun _ h9 => h9) rfl d_Y_isOpenAt_12 ?_
    exact W.zret (v := b2i oT) hx hb hr (b2i_n _) (fun t ht hW => ⟨b2i oT, rfl, (by simp only [if_neg c1, decide_eq_false c1]), ht⟩) (fun _ h => nomatch h) d_Y_isOpenAt_15
  · refine lv_aload_n hx hb d_Y_isOpenAt_4 rfl (lv_at hl 0 rfl) ?_
    refine va_get (D := D) (ci := 2) (v := .int (b2i oF)) (C := "TimeWords$Years") (T := F_Y) (N := 4) hx hb hw in_Y hown hK hP 0 rfl rfl 2 (by decide) (hw _ fl_Y_18) (fun _ h9 => h9) rfl d_Y_isOpenAt_5 ?_
    refine lv_goto (tgt := 15) hx hb d_Y_isOpenAt_8 (by decide) ?_
    exact W.zret (v := b2i oF) hx hb hr (b2i_n _) (fun t ht hW => ⟨b2i oF, rfl, (by simp only [if_pos c1, decide_eq_true c1]), ht⟩) (fun _ h => nomatch h) d_Y_isOpenAt_15

set_option maxHeartbeats 4000000 in
set_option maxRecDepth 100000 in
theorem k_Y_length (l : Launch) (D : va_G) (T : gT) (yo : Nat) (e0 e1 : Int32) (oF oT : Bool) : Met l y_Y_length (Cond.code y_Y_length b_Y_length 1 (some .int) :: bg_W) ({ frames := 0, cells := 0, slots := 0, locals := 0 }) (sP D T ([(yo, .inr (2, [.int e0, .int e1, .int (b2i oF), .int (b2i oT)]))]) [.ref yo]) (vp_Si (fun r : Int32 => r = e1 - e0 + 1)) 0 0 (fun _ => False) := by
  refine Met.ofW (cc := b_Y_length) (maxL := 1) (ret := (some .int)) (by decide) rfl ?_
  intro p e s m args below meth c s₁ B hml hv
  obtain ⟨rfl, hP, hK⟩ := hv
  have hx := B.exec
  have hb := B.bytes
  have hr := B.returns
  have hw : ∀ w ∈ bg_W, w.before ([.ref yo] : List Value).toArray s = true := fun w h => atoms_spec (ws := (Cond.code y_Y_length b_Y_length 1 (some .int) :: bg_W)) B.pre w (List.mem_cons_of_mem _ h)
  have hown : s.vm.findClass "TimeWords$Years" = some m.cls := findClass_of_methodNamed B.named
  have hlocks := B.notSynchronized
  have hl := lv_entry ([.ref yo]) (n := 1) (Nat.le_of_ble_eq_true rfl)
  rw [lg_entry_eq]
  generalize (lg_sl ([.ref yo]) ++ List.replicate (1 - (lg_sl ([.ref yo])).length) Slot.unset).toArray = ls at hl ⊢
  have hl : lv_has ls 1 [(0, .ref yo)] := hl
  refine lv_aload_n hx hb d_Y_length_0 rfl (lv_at hl 0 rfl) ?_
  refine va_get (D := D) (ci := 2) (v := .int e1) (C := "TimeWords$Years") (T := F_Y) (N := 4) hx hb hw in_Y hown hK hP 0 rfl rfl 1 (by decide) (hw _ fl_Y_15) (fun _ h9 => h9) rfl d_Y_length_1 ?_
  refine lv_aload_n hx hb d_Y_length_4 rfl (lv_at hl 0 rfl) ?_
  refine va_get (D := D) (ci := 2) (v := .int e0) (C := "TimeWords$Years") (T := F_Y) (N := 4) hx hb hw in_Y hown hK hP 0 rfl rfl 0 (by decide) (hw _ fl_Y_9) (fun _ h9 => h9) rfl d_Y_length_5 ?_
  refine lv_isub hx hb d_Y_length_8 ?_
  refine lv_iconst (v := 1) hx hb d_Y_length_9 (by decide) ?_
  refine lv_iadd hx hb d_Y_length_10 ?_
  exact W.iret (v := (e1 - e0) + 1) hx hb hr (fun t ht hW => ⟨(e1 - e0) + 1, rfl, rfl, ht⟩) (fun _ h => nomatch h) d_Y_length_11

set_option maxHeartbeats 4000000 in
set_option maxRecDepth 100000 in
theorem k_Y_copyOf (l : Launch) (D : va_G) (T : gT) (yo : Nat) (e0 e1 : Int32) (oF oT : Bool) (yq : Nat) (e0q e1q : Int32) (oFq oTq : Bool) (sz : Nat) : Met l y_Y_copyOf (Cond.code y_Y_copyOf b_Y_copyOf 2 none :: bg_W) ({ frames := 0, cells := 0, slots := 0, locals := 0 }) (qP D T ([(yo, .inr (2, [.int e0, .int e1, .int (b2i oF), .int (b2i oT)])), (yq, .inr (2, [.int e0q, .int e1q, .int (b2i oFq), .int (b2i oTq)]))]) [.ref yo, .ref yq] sz) (va_Qv (fun u : Int32 × Int32 × Int32 × Int32 => match u with | (w0, w1, w2, w3) => w0 = e0q ∧ w1 = e1q ∧ w2 = b2i oFq ∧ w3 = b2i oTq) (qB D T (va_A ([(yo, .inr (2, [.int e0, .int e1, .int (b2i oF), .int (b2i oT)])), (yq, .inr (2, [.int e0q, .int e1q, .int (b2i oFq), .int (b2i oTq)]))]) sz) (fun u : Int32 × Int32 × Int32 × Int32 => match u with | (w0, w1, w2, w3) => [(yo, .inr (2, [.int w0, .int w1, .int w2, .int w3])), (yq, .inr (2, [.int e0q, .int e1q, .int (b2i oFq), .int (b2i oTq)]))])) (va_A ([(yo, .inr (2, [.int e0, .int e1, .int (b2i oF), .int (b2i oT)])), (yq, .inr (2, [.int e0q, .int e1q, .int (b2i oFq), .int (b2i oTq)]))]) sz)) 0 0 (va_A ([(yo, .inr (2, [.int e0, .int e1, .int (b2i oF), .int (b2i oT)])), (yq, .inr (2, [.int e0q, .int e1q, .int (b2i oFq), .int (b2i oTq)]))]) sz) := by
  refine Met.ofW (cc := b_Y_copyOf) (maxL := 2) (ret := none) (by decide) rfl ?_
  intro p e s m args below meth c s₁ B hml hv
  obtain ⟨rfl, hsz, hP, hK, hD0⟩ := hv
  have hx := B.exec
  have hb := B.bytes
  have hr := B.returns
  have hw : ∀ w ∈ bg_W, w.before ([.ref yo, .ref yq] : List Value).toArray s = true := fun w h => atoms_spec (ws := (Cond.code y_Y_copyOf b_Y_copyOf 2 none :: bg_W)) B.pre w (List.mem_cons_of_mem _ h)
  have hown : s.vm.findClass "TimeWords$Years" = some m.cls := findClass_of_methodNamed B.named
  have hlocks := B.notSynchronized
  subst hsz
  have hD := hD0.self (sz := s.heap.size)
  generalize hAe : va_A ([(yo, .inr (2, [.int e0, .int e1, .int (b2i oF), .int (b2i oT)])), (yq, .inr (2, [.int e0q, .int e1q, .int (b2i oFq), .int (b2i oTq)]))]) s.heap.size = A at hD ⊢
  have hA : ∀ q : Nat, s.heap.size ≤ q → A q := fun q h => by rw [← hAe]; exact Or.inr h
  have hS : va_S A s.heap s.heap [] := va_S.rf
  have hl := lv_entry ([.ref yo, .ref yq]) (n := 2) (Nat.le_of_ble_eq_true rfl)
  rw [lg_entry_eq]
  generalize (lg_sl ([.ref yo, .ref yq]) ++ List.replicate (2 - (lg_sl ([.ref yo, .ref yq])).length) Slot.unset).toArray = ls at hl ⊢
  have hl : lv_has ls 2 [(0, .ref yo), (1, .ref yq)] := hl
  refine lv_aload_n hx hb d_Y_copyOf_0 rfl (lv_at hl 0 rfl) ?_
  refine lv_aload_n hx hb d_Y_copyOf_1 rfl (lv_at hl 1 rfl) ?_
  refine va_get (D := D) (ci := 2) (v := .int e0q) (C := "TimeWords$Years") (T := F_Y) (N := 4) hx hb hw in_Y hown hK hP 1 rfl rfl 0 (by decide) (hw _ fl_Y_9) (fun _ h9 => h9) rfl d_Y_copyOf_2 ?_
  refine va_put (D := D) (ci := 2) (v := .int e0q) (ty := .int) (C := "TimeWords$Years") (T := F_Y) (N := 4) hx hb hw in_Y ty_Y ty_Y_ok n_Y hown hK hP hD hS 0 rfl rfl 0 (by decide) (hw _ fl_Y_9) (fun _ h9 => h9) rfl (by decide +kernel) rfl rfl (Nat.le_of_ble_eq_true rfl) d_Y_copyOf_5 (fun H locs hP hD hS => ?_)
  have hP : va_P D gC ([(yo, .inr (2, [.int e0q, .int e1, .int (b2i oF), .int (b2i oT)])), (yq, .inr (2, [.int e0q, .int e1q, .int (b2i oFq), .int (b2i oTq)]))]) H := hP
  have hD : va_D A ([(yo, .inr (2, [.int e0q, .int e1, .int (b2i oF), .int (b2i oT)])), (yq, .inr (2, [.int e0q, .int e1q, .int (b2i oFq), .int (b2i oTq)]))]) := hD
  refine lv_aload_n hx hb d_Y_copyOf_8 rfl (lv_at hl 0 rfl) ?_
  refine lv_aload_n hx hb d_Y_copyOf_9 rfl (lv_at hl 1 rfl) ?_
  refine va_get (D := D) (ci := 2) (v := .int e1q) (C := "TimeWords$Years") (T := F_Y) (N := 4) hx hb hw in_Y hown hK hP 1 rfl rfl 1 (by decide) (hw _ fl_Y_15) (fun _ h9 => h9) rfl d_Y_copyOf_10 ?_
  refine va_put (D := D) (ci := 2) (v := .int e1q) (ty := .int) (C := "TimeWords$Years") (T := F_Y) (N := 4) hx hb hw in_Y ty_Y ty_Y_ok n_Y hown hK hP hD hS 0 rfl rfl 1 (by decide) (hw _ fl_Y_15) (fun _ h9 => h9) rfl (by decide +kernel) rfl rfl (Nat.le_of_ble_eq_true rfl) d_Y_copyOf_13 (fun H locs hP hD hS => ?_)
  have hP : va_P D gC ([(yo, .inr (2, [.int e0q, .int e1q, .int (b2i oF), .int (b2i oT)])), (yq, .inr (2, [.int e0q, .int e1q, .int (b2i oFq), .int (b2i oTq)]))]) H := hP
  have hD : va_D A ([(yo, .inr (2, [.int e0q, .int e1q, .int (b2i oF), .int (b2i oT)])), (yq, .inr (2, [.int e0q, .int e1q, .int (b2i oFq), .int (b2i oTq)]))]) := hD
  refine lv_aload_n hx hb d_Y_copyOf_16 rfl (lv_at hl 0 rfl) ?_
  refine lv_aload_n hx hb d_Y_copyOf_17 rfl (lv_at hl 1 rfl) ?_
  refine va_get (D := D) (ci := 2) (v := .int (b2i oFq)) (C := "TimeWords$Years") (T := F_Y) (N := 4) hx hb hw in_Y hown hK hP 1 rfl rfl 2 (by decide) (hw _ fl_Y_18) (fun _ h9 => h9) rfl d_Y_copyOf_18 ?_
  refine va_put (D := D) (ci := 2) (v := .int (b2i oFq)) (ty := .boolean) (C := "TimeWords$Years") (T := F_Y) (N := 4) hx hb hw in_Y ty_Y ty_Y_ok n_Y hown hK hP hD hS 0 rfl rfl 2 (by decide) (hw _ fl_Y_18) (fun _ h9 => h9) rfl (by decide +kernel) (b2i_n _) (b2i_fits _) (Nat.le_of_ble_eq_true rfl) d_Y_copyOf_21 (fun H locs hP hD hS => ?_)
  have hP : va_P D gC ([(yo, .inr (2, [.int e0q, .int e1q, .int (b2i oFq), .int (b2i oT)])), (yq, .inr (2, [.int e0q, .int e1q, .int (b2i oFq), .int (b2i oTq)]))]) H := hP
  have hD : va_D A ([(yo, .inr (2, [.int e0q, .int e1q, .int (b2i oFq), .int (b2i oT)])), (yq, .inr (2, [.int e0q, .int e1q, .int (b2i oFq), .int (b2i oTq)]))]) := hD
  refine lv_aload_n hx hb d_Y_copyOf_24 rfl (lv_at hl 0 rfl) ?_
  refine lv_aload_n hx hb d_Y_copyOf_25 rfl (lv_at hl 1 rfl) ?_
  refine va_get (D := D) (ci := 2) (v := .int (b2i oTq)) (C := "TimeWords$Years") (T := F_Y) (N := 4) hx hb hw in_Y hown hK hP 1 rfl rfl 3 (by decide) (hw _ fl_Y_22) (fun _ h9 => h9) rfl d_Y_copyOf_26 ?_
  refine va_put (D := D) (ci := 2) (v := .int (b2i oTq)) (ty := .boolean) (C := "TimeWords$Years") (T := F_Y) (N := 4) hx hb hw in_Y ty_Y ty_Y_ok n_Y hown hK hP hD hS 0 rfl rfl 3 (by decide) (hw _ fl_Y_22) (fun _ h9 => h9) rfl (by decide +kernel) (b2i_n _) (b2i_fits _) (Nat.le_of_ble_eq_true rfl) d_Y_copyOf_29 (fun H locs hP hD hS => ?_)
  have hP : va_P D gC ([(yo, .inr (2, [.int e0q, .int e1q, .int (b2i oFq), .int (b2i oTq)])), (yq, .inr (2, [.int e0q, .int e1q, .int (b2i oFq), .int (b2i oTq)]))]) H := hP
  have hD : va_D A ([(yo, .inr (2, [.int e0q, .int e1q, .int (b2i oFq), .int (b2i oTq)])), (yq, .inr (2, [.int e0q, .int e1q, .int (b2i oFq), .int (b2i oTq)]))]) := hD
  exact W.vret hx hb hr (fun t ht hW => ⟨⟨(e0q, e1q, b2i oFq, b2i oTq), rfl, ⟨rfl, rfl, rfl, rfl⟩, by rw [ht]; exact hP, va_K.moved hW.alike hK, hD⟩, hS.F ht⟩) hS.2.2 d_Y_copyOf_32

set_option maxHeartbeats 4000000 in
set_option maxRecDepth 100000 in
theorem k_Y_growTo (l : Launch) (D : va_G) (T : gT) (yo : Nat) (e0 e1 : Int32) (oF oT : Bool) (yq : Nat) (e0q e1q : Int32) (oFq oTq : Bool) (sz : Nat) : Met l y_Y_growTo (Cond.code y_Y_growTo b_Y_growTo 2 none :: bg_W) ({ frames := 1, cells := 0, slots := 0, locals := 17 }) (qP D T ([(yo, .inr (2, [.int e0, .int e1, .int (b2i oF), .int (b2i oT)])), (yq, .inr (2, [.int e0q, .int e1q, .int (b2i oFq), .int (b2i oTq)]))]) [.ref yo, .ref yq] sz) (va_Qv (fun u : Int32 × Int32 × Int32 × Int32 => match u with | (w0, w1, w2, w3) => w0 = (if e0q < e0 then e0q else e0) ∧ w1 = (if e1 < e1q then e1q else e1) ∧ w2 = b2i (oF || oFq) ∧ w3 = b2i (oT || oTq)) (qB D T (va_A ([(yo, .inr (2, [.int e0, .int e1, .int (b2i oF), .int (b2i oT)])), (yq, .inr (2, [.int e0q, .int e1q, .int (b2i oFq), .int (b2i oTq)]))]) sz) (fun u : Int32 × Int32 × Int32 × Int32 => match u with | (w0, w1, w2, w3) => [(yo, .inr (2, [.int w0, .int w1, .int w2, .int w3])), (yq, .inr (2, [.int e0q, .int e1q, .int (b2i oFq), .int (b2i oTq)]))])) (va_A ([(yo, .inr (2, [.int e0, .int e1, .int (b2i oF), .int (b2i oT)])), (yq, .inr (2, [.int e0q, .int e1q, .int (b2i oFq), .int (b2i oTq)]))]) sz)) 0 0 (va_A ([(yo, .inr (2, [.int e0, .int e1, .int (b2i oF), .int (b2i oT)])), (yq, .inr (2, [.int e0q, .int e1q, .int (b2i oFq), .int (b2i oTq)]))]) sz) := by
  refine Met.ofW (cc := b_Y_growTo) (maxL := 2) (ret := none) (by decide) rfl ?_
  intro p e s m args below meth c s₁ B hml hv
  obtain ⟨rfl, hsz, hP, hK, hD0⟩ := hv
  have hx := B.exec
  have hb := B.bytes
  have hr := B.returns
  have hw : ∀ w ∈ bg_W, w.before ([.ref yo, .ref yq] : List Value).toArray s = true := fun w h => atoms_spec (ws := (Cond.code y_Y_growTo b_Y_growTo 2 none :: bg_W)) B.pre w (List.mem_cons_of_mem _ h)
  have hown : s.vm.findClass "TimeWords$Years" = some m.cls := findClass_of_methodNamed B.named
  have hlocks := B.notSynchronized
  subst hsz
  have hD := hD0.self (sz := s.heap.size)
  generalize hAe : va_A ([(yo, .inr (2, [.int e0, .int e1, .int (b2i oF), .int (b2i oT)])), (yq, .inr (2, [.int e0q, .int e1q, .int (b2i oFq), .int (b2i oTq)]))]) s.heap.size = A at hD ⊢
  have hA : ∀ q : Nat, s.heap.size ≤ q → A q := fun q h => by rw [← hAe]; exact Or.inr h
  have hS : va_S A s.heap s.heap [] := va_S.rf
  have hl := lv_entry ([.ref yo, .ref yq]) (n := 2) (Nat.le_of_ble_eq_true rfl)
  rw [lg_entry_eq]
  generalize (lg_sl ([.ref yo, .ref yq]) ++ List.replicate (2 - (lg_sl ([.ref yo, .ref yq])).length) Slot.unset).toArray = ls at hl ⊢
  have hl : lv_has ls 2 [(0, .ref yo), (1, .ref yq)] := hl
  refine lv_aload_n hx hb d_Y_growTo_0 rfl (lv_at hl 0 rfl) ?_
  refine lv_aload_n hx hb d_Y_growTo_1 rfl (lv_at hl 0 rfl) ?_
  refine va_get (D := D) (ci := 2) (v := .int e0) (C := "TimeWords$Years") (T := F_Y) (N := 4) hx hb hw in_Y hown hK hP 0 rfl rfl 0 (by decide) (hw _ fl_Y_9) (fun _ h9 => h9) rfl d_Y_growTo_2 ?_
  refine lv_aload_n hx hb d_Y_growTo_5 rfl (lv_at hl 1 rfl) ?_
  refine va_get (D := D) (ci := 2) (v := .int e0q) (C := "TimeWords$Years") (T := F_Y) (N := 4) hx hb hw in_Y hown hK hP 1 rfl rfl 0 (by decide) (hw _ fl_Y_9) (fun _ h9 => h9) rfl d_Y_growTo_6 ?_
  refine va_mmin hx hb (hml.trans hl.1.symm) hown (hw _ ml_Y_25) (hw _ wt_MA_min) (hw _ wz_MA) (hw _ wc_MA_min) (Nat.le_of_ble_eq_true rfl) (Nat.le_of_ble_eq_true rfl) (Nat.le_of_ble_eq_true rfl) (Nat.le_of_ble_eq_true rfl) d_Y_growTo_9 ?_
  refine va_put (D := D) (ci := 2) (v := .int (if e0q < e0 then e0q else e0)) (ty := .int) (C := "TimeWords$Years") (T := F_Y) (N := 4) hx hb hw in_Y ty_Y ty_Y_ok n_Y hown hK hP hD hS 0 rfl rfl 0 (by decide) (hw _ fl_Y_9) (fun _ h9 => h9) rfl (by decide +kernel) rfl rfl (Nat.le_of_ble_eq_true rfl) d_Y_growTo_12 (fun H locs hP hD hS => ?_)
  have hP : va_P D gC ([(yo, .inr (2, [.int (if e0q < e0 then e0q else e0), .int e1, .int (b2i oF), .int (b2i oT)])), (yq, .inr (2, [.int e0q, .int e1q, .int (b2i oFq), .int (b2i oTq)]))]) H := hP
  have hD : va_D A ([(yo, .inr (2, [.int (if e0q < e0 then e0q else e0), .int e1, .int (b2i oF), .int (b2i oT)])), (yq, .inr (2, [.int e0q, .int e1q, .int (b2i oFq), .int (b2i oTq)]))]) := hD
  refine lv_aload_n hx hb d_Y_growTo_15 rfl (lv_at hl 0 rfl) ?_
  refine lv_aload_n hx hb d_Y_growTo_16 rfl (lv_at hl 0 rfl) ?_
  refine va_get (D := D) (ci := 2) (v := .int e1) (C := "TimeWords$Years") (T := F_Y) (N := 4) hx hb hw in_Y hown hK hP 0 rfl rfl 1 (by decide) (hw _ fl_Y_15) (fun _ h9 => h9) rfl d_Y_growTo_17 ?_
  refine lv_aload_n hx hb d_Y_growTo_20 rfl (lv_at hl 1 rfl) ?_
  refine va_get (D := D) (ci := 2) (v := .int e1q) (C := "TimeWords$Years") (T := F_Y) (N := 4) hx hb hw in_Y hown hK hP 1 rfl rfl 1 (by decide) (hw _ fl_Y_15) (fun _ h9 => h9) rfl d_Y_growTo_21 ?_
  refine va_mmax hx hb (hml.trans hl.1.symm) hown (hw _ ml_Y_31) (hw _ wt_MA_max) (hw _ wz_MA) (hw _ wc_MA_max) (Nat.le_of_ble_eq_true rfl) (Nat.le_of_ble_eq_true rfl) (Nat.le_of_ble_eq_true rfl) (Nat.le_of_ble_eq_true rfl) d_Y_growTo_24 ?_
  refine va_put (D := D) (ci := 2) (v := .int (if e1 < e1q then e1q else e1)) (ty := .int) (C := "TimeWords$Years") (T := F_Y) (N := 4) hx hb hw in_Y ty_Y ty_Y_ok n_Y hown hK hP hD hS 0 rfl rfl 1 (by decide) (hw _ fl_Y_15) (fun _ h9 => h9) rfl (by decide +kernel) rfl rfl (Nat.le_of_ble_eq_true rfl) d_Y_growTo_27 (fun H locs hP hD hS => ?_)
  have hP : va_P D gC ([(yo, .inr (2, [.int (if e0q < e0 then e0q else e0), .int (if e1 < e1q then e1q else e1), .int (b2i oF), .int (b2i oT)])), (yq, .inr (2, [.int e0q, .int e1q, .int (b2i oFq), .int (b2i oTq)]))]) H := hP
  have hD : va_D A ([(yo, .inr (2, [.int (if e0q < e0 then e0q else e0), .int (if e1 < e1q then e1q else e1), .int (b2i oF), .int (b2i oT)])), (yq, .inr (2, [.int e0q, .int e1q, .int (b2i oFq), .int (b2i oTq)]))]) := hD
  refine lv_aload_n hx hb d_Y_growTo_30 rfl (lv_at hl 0 rfl) ?_
  refine lv_aload_n hx hb d_Y_growTo_31 rfl (lv_at hl 0 rfl) ?_
  refine va_get (D := D) (ci := 2) (v := .int (b2i oF)) (C := "TimeWords$Years") (T := F_Y) (N := 4) hx hb hw in_Y hown hK hP 0 rfl rfl 2 (by decide) (hw _ fl_Y_18) (fun _ h9 => h9) rfl d_Y_growTo_32 ?_
  refine lv_if_ne (tgt := 45) hx hb d_Y_growTo_35 (by decide) (fun c1 => ?_) (fun c1 => ?_)
  · have c1 := b2i_t c1
    refine lv_iconst (v := 1) hx hb d_Y_growTo_45 (by decide) ?_
    refine lv_goto (tgt := 50) hx hb d_Y_growTo_46 (by decide) ?_
    refine va_put (D := D) (ci := 2) (v := .int 1) (ty := .boolean) (C := "TimeWords$Years") (T := F_Y) (N := 4) hx hb hw in_Y ty_Y ty_Y_ok n_Y hown hK hP hD hS 0 rfl rfl 2 (by decide) (hw _ fl_Y_18) (fun _ h9 => h9) rfl (by decide +kernel) rfl rfl (Nat.le_of_ble_eq_true rfl) d_Y_growTo_50 (fun H locs hP hD hS => ?_)
    have hP : va_P D gC ([(yo, .inr (2, [.int (if e0q < e0 then e0q else e0), .int (if e1 < e1q then e1q else e1), .int 1, .int (b2i oT)])), (yq, .inr (2, [.int e0q, .int e1q, .int (b2i oFq), .int (b2i oTq)]))]) H := hP
    have hD : va_D A ([(yo, .inr (2, [.int (if e0q < e0 then e0q else e0), .int (if e1 < e1q then e1q else e1), .int 1, .int (b2i oT)])), (yq, .inr (2, [.int e0q, .int e1q, .int (b2i oFq), .int (b2i oTq)]))]) := hD
    refine lv_aload_n hx hb d_Y_growTo_53 rfl (lv_at hl 0 rfl) ?_
    refine lv_aload_n hx hb d_Y_growTo_54 rfl (lv_at hl 0 rfl) ?_
    refine va_get (D := D) (ci := 2) (v := .int (b2i oT)) (C := "TimeWords$Years") (T := F_Y) (N := 4) hx hb hw in_Y hown hK hP 0 rfl rfl 3 (by decide) (hw _ fl_Y_22) (fun _ h9 => h9) rfl d_Y_growTo_55 ?_
    refine lv_if_ne (tgt := 68) hx hb d_Y_growTo_58 (by decide) (fun c2 => ?_) (fun c2 => ?_)
    · have c2 := b2i_t c2
      refine lv_iconst (v := 1) hx hb d_Y_growTo_68 (by decide) ?_
      refine lv_goto (tgt := 73) hx hb d_Y_growTo_69 (by decide) ?_
      refine va_put (D := D) (ci := 2) (v := .int 1) (ty := .boolean) (C := "TimeWords$Years") (T := F_Y) (N := 4) hx hb hw in_Y ty_Y ty_Y_ok n_Y hown hK hP hD hS 0 rfl rfl 3 (by decide) (hw _ fl_Y_22) (fun _ h9 => h9) rfl (by decide +kernel) rfl rfl (Nat.le_of_ble_eq_true rfl) d_Y_growTo_73 (fun H locs hP hD hS => ?_)
      have hP : va_P D gC ([(yo, .inr (2, [.int (if e0q < e0 then e0q else e0), .int (if e1 < e1q then e1q else e1), .int 1, .int 1])), (yq, .inr (2, [.int e0q, .int e1q, .int (b2i oFq), .int (b2i oTq)]))]) H := hP
      have hD : va_D A ([(yo, .inr (2, [.int (if e0q < e0 then e0q else e0), .int (if e1 < e1q then e1q else e1), .int 1, .int 1])), (yq, .inr (2, [.int e0q, .int e1q, .int (b2i oFq), .int (b2i oTq)]))]) := hD
      exact W.vret hx hb hr (fun t ht hW => ⟨⟨(if e0q < e0 then e0q else e0, if e1 < e1q then e1q else e1, 1, 1), rfl, ⟨rfl, rfl, by simp [b2i, *], by simp [b2i, *]⟩, by rw [ht]; exact hP, va_K.moved hW.alike hK, hD⟩, hS.F ht⟩) hS.2.2 d_Y_growTo_76
    · have c2 := b2i_f c2
      refine lv_aload_n hx hb d_Y_growTo_61 rfl (lv_at hl 1 rfl) ?_
      refine va_get (D := D) (ci := 2) (v := .int (b2i oTq)) (C := "TimeWords$Years") (T := F_Y) (N := 4) hx hb hw in_Y hown hK hP 1 rfl rfl 3 (by decide) (hw _ fl_Y_22) (fun _ h9 => h9) rfl d_Y_growTo_62 ?_
      refine lv_if_eq (tgt := 72) hx hb d_Y_growTo_65 (by decide) (fun c3 => ?_) (fun c3 => ?_)
      · have c3 := b2i_f c3
        refine lv_iconst (v := 0) hx hb d_Y_growTo_72 (by decide) ?_
        refine va_put (D := D) (ci := 2) (v := .int 0) (ty := .boolean) (C := "TimeWords$Years") (T := F_Y) (N := 4) hx hb hw in_Y ty_Y ty_Y_ok n_Y hown hK hP hD hS 0 rfl rfl 3 (by decide) (hw _ fl_Y_22) (fun _ h9 => h9) rfl (by decide +kernel) rfl rfl (Nat.le_of_ble_eq_true rfl) d_Y_growTo_73 (fun H locs hP hD hS => ?_)
        have hP : va_P D gC ([(yo, .inr (2, [.int (if e0q < e0 then e0q else e0), .int (if e1 < e1q then e1q else e1), .int 1, .int 0])), (yq, .inr (2, [.int e0q, .int e1q, .int (b2i oFq), .int (b2i oTq)]))]) H := hP
        have hD : va_D A ([(yo, .inr (2, [.int (if e0q < e0 then e0q else e0), .int (if e1 < e1q then e1q else e1), .int 1, .int 0])), (yq, .inr (2, [.int e0q, .int e1q, .int (b2i oFq), .int (b2i oTq)]))]) := hD
        exact W.vret hx hb hr (fun t ht hW => ⟨⟨(if e0q < e0 then e0q else e0, if e1 < e1q then e1q else e1, 1, 0), rfl, ⟨rfl, rfl, by simp [b2i, *], by simp [b2i, *]⟩, by rw [ht]; exact hP, va_K.moved hW.alike hK, hD⟩, hS.F ht⟩) hS.2.2 d_Y_growTo_76
      · have c3 := b2i_t c3
        refine lv_iconst (v := 1) hx hb d_Y_growTo_68 (by decide) ?_
        refine lv_goto (tgt := 73) hx hb d_Y_growTo_69 (by decide) ?_
        refine va_put (D := D) (ci := 2) (v := .int 1) (ty := .boolean) (C := "TimeWords$Years") (T := F_Y) (N := 4) hx hb hw in_Y ty_Y ty_Y_ok n_Y hown hK hP hD hS 0 rfl rfl 3 (by decide) (hw _ fl_Y_22) (fun _ h9 => h9) rfl (by decide +kernel) rfl rfl (Nat.le_of_ble_eq_true rfl) d_Y_growTo_73 (fun H locs hP hD hS => ?_)
        have hP : va_P D gC ([(yo, .inr (2, [.int (if e0q < e0 then e0q else e0), .int (if e1 < e1q then e1q else e1), .int 1, .int 1])), (yq, .inr (2, [.int e0q, .int e1q, .int (b2i oFq), .int (b2i oTq)]))]) H := hP
        have hD : va_D A ([(yo, .inr (2, [.int (if e0q < e0 then e0q else e0), .int (if e1 < e1q then e1q else e1), .int 1, .int 1])), (yq, .inr (2, [.int e0q, .int e1q, .int (b2i oFq), .int (b2i oTq)]))]) := hD
        exact W.vret hx hb hr (fun t ht hW => ⟨⟨(if e0q < e0 then e0q else e0, if e1 < e1q then e1q else e1, 1, 1), rfl, ⟨rfl, rfl, by simp [b2i, *], by simp [b2i, *]⟩, by rw [ht]; exact hP, va_K.moved hW.alike hK, hD⟩, hS.F ht⟩) hS.2.2 d_Y_growTo_76
  · have c1 := b2i_f c1
    refine lv_aload_n hx hb d_Y_growTo_38 rfl (lv_at hl 1 rfl) ?_
    refine va_get (D := D) (ci := 2) (v := .int (b2i oFq)) (C := "TimeWords$Years") (T := F_Y) (N := 4) hx hb hw in_Y hown hK hP 1 rfl rfl 2 (by decide) (hw _ fl_Y_18) (fun _ h9 => h9) rfl d_Y_growTo_39 ?_
    refine lv_if_eq (tgt := 49) hx hb d_Y_growTo_42 (by decide) (fun c4 => ?_) (fun c4 => ?_)
    · have c4 := b2i_f c4
      refine lv_iconst (v := 0) hx hb d_Y_growTo_49 (by decide) ?_
      refine va_put (D := D) (ci := 2) (v := .int 0) (ty := .boolean) (C := "TimeWords$Years") (T := F_Y) (N := 4) hx hb hw in_Y ty_Y ty_Y_ok n_Y hown hK hP hD hS 0 rfl rfl 2 (by decide) (hw _ fl_Y_18) (fun _ h9 => h9) rfl (by decide +kernel) rfl rfl (Nat.le_of_ble_eq_true rfl) d_Y_growTo_50 (fun H locs hP hD hS => ?_)
      have hP : va_P D gC ([(yo, .inr (2, [.int (if e0q < e0 then e0q else e0), .int (if e1 < e1q then e1q else e1), .int 0, .int (b2i oT)])), (yq, .inr (2, [.int e0q, .int e1q, .int (b2i oFq), .int (b2i oTq)]))]) H := hP
      have hD : va_D A ([(yo, .inr (2, [.int (if e0q < e0 then e0q else e0), .int (if e1 < e1q then e1q else e1), .int 0, .int (b2i oT)])), (yq, .inr (2, [.int e0q, .int e1q, .int (b2i oFq), .int (b2i oTq)]))]) := hD
      refine lv_aload_n hx hb d_Y_growTo_53 rfl (lv_at hl 0 rfl) ?_
      refine lv_aload_n hx hb d_Y_growTo_54 rfl (lv_at hl 0 rfl) ?_
      refine va_get (D := D) (ci := 2) (v := .int (b2i oT)) (C := "TimeWords$Years") (T := F_Y) (N := 4) hx hb hw in_Y hown hK hP 0 rfl rfl 3 (by decide) (hw _ fl_Y_22) (fun _ h9 => h9) rfl d_Y_growTo_55 ?_
      refine lv_if_ne (tgt := 68) hx hb d_Y_growTo_58 (by decide) (fun c5 => ?_) (fun c5 => ?_)
      · have c5 := b2i_t c5
        refine lv_iconst (v := 1) hx hb d_Y_growTo_68 (by decide) ?_
        refine lv_goto (tgt := 73) hx hb d_Y_growTo_69 (by decide) ?_
        refine va_put (D := D) (ci := 2) (v := .int 1) (ty := .boolean) (C := "TimeWords$Years") (T := F_Y) (N := 4) hx hb hw in_Y ty_Y ty_Y_ok n_Y hown hK hP hD hS 0 rfl rfl 3 (by decide) (hw _ fl_Y_22) (fun _ h9 => h9) rfl (by decide +kernel) rfl rfl (Nat.le_of_ble_eq_true rfl) d_Y_growTo_73 (fun H locs hP hD hS => ?_)
        have hP : va_P D gC ([(yo, .inr (2, [.int (if e0q < e0 then e0q else e0), .int (if e1 < e1q then e1q else e1), .int 0, .int 1])), (yq, .inr (2, [.int e0q, .int e1q, .int (b2i oFq), .int (b2i oTq)]))]) H := hP
        have hD : va_D A ([(yo, .inr (2, [.int (if e0q < e0 then e0q else e0), .int (if e1 < e1q then e1q else e1), .int 0, .int 1])), (yq, .inr (2, [.int e0q, .int e1q, .int (b2i oFq), .int (b2i oTq)]))]) := hD
        exact W.vret hx hb hr (fun t ht hW => ⟨⟨(if e0q < e0 then e0q else e0, if e1 < e1q then e1q else e1, 0, 1), rfl, ⟨rfl, rfl, by simp [b2i, *], by simp [b2i, *]⟩, by rw [ht]; exact hP, va_K.moved hW.alike hK, hD⟩, hS.F ht⟩) hS.2.2 d_Y_growTo_76
      · have c5 := b2i_f c5
        refine lv_aload_n hx hb d_Y_growTo_61 rfl (lv_at hl 1 rfl) ?_
        refine va_get (D := D) (ci := 2) (v := .int (b2i oTq)) (C := "TimeWords$Years") (T := F_Y) (N := 4) hx hb hw in_Y hown hK hP 1 rfl rfl 3 (by decide) (hw _ fl_Y_22) (fun _ h9 => h9) rfl d_Y_growTo_62 ?_
        refine lv_if_eq (tgt := 72) hx hb d_Y_growTo_65 (by decide) (fun c6 => ?_) (fun c6 => ?_)
        · have c6 := b2i_f c6
          refine lv_iconst (v := 0) hx hb d_Y_growTo_72 (by decide) ?_
          refine va_put (D := D) (ci := 2) (v := .int 0) (ty := .boolean) (C := "TimeWords$Years") (T := F_Y) (N := 4) hx hb hw in_Y ty_Y ty_Y_ok n_Y hown hK hP hD hS 0 rfl rfl 3 (by decide) (hw _ fl_Y_22) (fun _ h9 => h9) rfl (by decide +kernel) rfl rfl (Nat.le_of_ble_eq_true rfl) d_Y_growTo_73 (fun H locs hP hD hS => ?_)
          have hP : va_P D gC ([(yo, .inr (2, [.int (if e0q < e0 then e0q else e0), .int (if e1 < e1q then e1q else e1), .int 0, .int 0])), (yq, .inr (2, [.int e0q, .int e1q, .int (b2i oFq), .int (b2i oTq)]))]) H := hP
          have hD : va_D A ([(yo, .inr (2, [.int (if e0q < e0 then e0q else e0), .int (if e1 < e1q then e1q else e1), .int 0, .int 0])), (yq, .inr (2, [.int e0q, .int e1q, .int (b2i oFq), .int (b2i oTq)]))]) := hD
          exact W.vret hx hb hr (fun t ht hW => ⟨⟨(if e0q < e0 then e0q else e0, if e1 < e1q then e1q else e1, 0, 0), rfl, ⟨rfl, rfl, by simp [b2i, *], by simp [b2i, *]⟩, by rw [ht]; exact hP, va_K.moved hW.alike hK, hD⟩, hS.F ht⟩) hS.2.2 d_Y_growTo_76
        · have c6 := b2i_t c6
          refine lv_iconst (v := 1) hx hb d_Y_growTo_68 (by decide) ?_
          refine lv_goto (tgt := 73) hx hb d_Y_growTo_69 (by decide) ?_
          refine va_put (D := D) (ci := 2) (v := .int 1) (ty := .boolean) (C := "TimeWords$Years") (T := F_Y) (N := 4) hx hb hw in_Y ty_Y ty_Y_ok n_Y hown hK hP hD hS 0 rfl rfl 3 (by decide) (hw _ fl_Y_22) (fun _ h9 => h9) rfl (by decide +kernel) rfl rfl (Nat.le_of_ble_eq_true rfl) d_Y_growTo_73 (fun H locs hP hD hS => ?_)
          have hP : va_P D gC ([(yo, .inr (2, [.int (if e0q < e0 then e0q else e0), .int (if e1 < e1q then e1q else e1), .int 0, .int 1])), (yq, .inr (2, [.int e0q, .int e1q, .int (b2i oFq), .int (b2i oTq)]))]) H := hP
          have hD : va_D A ([(yo, .inr (2, [.int (if e0q < e0 then e0q else e0), .int (if e1 < e1q then e1q else e1), .int 0, .int 1])), (yq, .inr (2, [.int e0q, .int e1q, .int (b2i oFq), .int (b2i oTq)]))]) := hD
          exact W.vret hx hb hr (fun t ht hW => ⟨⟨(if e0q < e0 then e0q else e0, if e1 < e1q then e1q else e1, 0, 1), rfl, ⟨rfl, rfl, by simp [b2i, *], by simp [b2i, *]⟩, by rw [ht]; exact hP, va_K.moved hW.alike hK, hD⟩, hS.F ht⟩) hS.2.2 d_Y_growTo_76
    · have c4 := b2i_t c4
      refine lv_iconst (v := 1) hx hb d_Y_growTo_45 (by decide) ?_
      refine lv_goto (tgt := 50) hx hb d_Y_growTo_46 (by decide) ?_
      refine va_put (D := D) (ci := 2) (v := .int 1) (ty := .boolean) (C := "TimeWords$Years") (T := F_Y) (N := 4) hx hb hw in_Y ty_Y ty_Y_ok n_Y hown hK hP hD hS 0 rfl rfl 2 (by decide) (hw _ fl_Y_18) (fun _ h9 => h9) rfl (by decide +kernel) rfl rfl (Nat.le_of_ble_eq_true rfl) d_Y_growTo_50 (fun H locs hP hD hS => ?_)
      have hP : va_P D gC ([(yo, .inr (2, [.int (if e0q < e0 then e0q else e0), .int (if e1 < e1q then e1q else e1), .int 1, .int (b2i oT)])), (yq, .inr (2, [.int e0q, .int e1q, .int (b2i oFq), .int (b2i oTq)]))]) H := hP
      have hD : va_D A ([(yo, .inr (2, [.int (if e0q < e0 then e0q else e0), .int (if e1 < e1q then e1q else e1), .int 1, .int (b2i oT)])), (yq, .inr (2, [.int e0q, .int e1q, .int (b2i oFq), .int (b2i oTq)]))]) := hD
      refine lv_aload_n hx hb d_Y_growTo_53 rfl (lv_at hl 0 rfl) ?_
      refine lv_aload_n hx hb d_Y_growTo_54 rfl (lv_at hl 0 rfl) ?_
      refine va_get (D := D) (ci := 2) (v := .int (b2i oT)) (C := "TimeWords$Years") (T := F_Y) (N := 4) hx hb hw in_Y hown hK hP 0 rfl rfl 3 (by decide) (hw _ fl_Y_22) (fun _ h9 => h9) rfl d_Y_growTo_55 ?_
      refine lv_if_ne (tgt := 68) hx hb d_Y_growTo_58 (by decide) (fun c7 => ?_) (fun c7 => ?_)
      · have c7 := b2i_t c7
        refine lv_iconst (v := 1) hx hb d_Y_growTo_68 (by decide) ?_
        refine lv_goto (tgt := 73) hx hb d_Y_growTo_69 (by decide) ?_
        refine va_put (D := D) (ci := 2) (v := .int 1) (ty := .boolean) (C := "TimeWords$Years") (T := F_Y) (N := 4) hx hb hw in_Y ty_Y ty_Y_ok n_Y hown hK hP hD hS 0 rfl rfl 3 (by decide) (hw _ fl_Y_22) (fun _ h9 => h9) rfl (by decide +kernel) rfl rfl (Nat.le_of_ble_eq_true rfl) d_Y_growTo_73 (fun H locs hP hD hS => ?_)
        have hP : va_P D gC ([(yo, .inr (2, [.int (if e0q < e0 then e0q else e0), .int (if e1 < e1q then e1q else e1), .int 1, .int 1])), (yq, .inr (2, [.int e0q, .int e1q, .int (b2i oFq), .int (b2i oTq)]))]) H := hP
        have hD : va_D A ([(yo, .inr (2, [.int (if e0q < e0 then e0q else e0), .int (if e1 < e1q then e1q else e1), .int 1, .int 1])), (yq, .inr (2, [.int e0q, .int e1q, .int (b2i oFq), .int (b2i oTq)]))]) := hD
        exact W.vret hx hb hr (fun t ht hW => ⟨⟨(if e0q < e0 then e0q else e0, if e1 < e1q then e1q else e1, 1, 1), rfl, ⟨rfl, rfl, by simp [b2i, *], by simp [b2i, *]⟩, by rw [ht]; exact hP, va_K.moved hW.alike hK, hD⟩, hS.F ht⟩) hS.2.2 d_Y_growTo_76
      · have c7 := b2i_f c7
        refine lv_aload_n hx hb d_Y_growTo_61 rfl (lv_at hl 1 rfl) ?_
        refine va_get (D := D) (ci := 2) (v := .int (b2i oTq)) (C := "TimeWords$Years") (T := F_Y) (N := 4) hx hb hw in_Y hown hK hP 1 rfl rfl 3 (by decide) (hw _ fl_Y_22) (fun _ h9 => h9) rfl d_Y_growTo_62 ?_
        refine lv_if_eq (tgt := 72) hx hb d_Y_growTo_65 (by decide) (fun c8 => ?_) (fun c8 => ?_)
        · have c8 := b2i_f c8
          refine lv_iconst (v := 0) hx hb d_Y_growTo_72 (by decide) ?_
          refine va_put (D := D) (ci := 2) (v := .int 0) (ty := .boolean) (C := "TimeWords$Years") (T := F_Y) (N := 4) hx hb hw in_Y ty_Y ty_Y_ok n_Y hown hK hP hD hS 0 rfl rfl 3 (by decide) (hw _ fl_Y_22) (fun _ h9 => h9) rfl (by decide +kernel) rfl rfl (Nat.le_of_ble_eq_true rfl) d_Y_growTo_73 (fun H locs hP hD hS => ?_)
          have hP : va_P D gC ([(yo, .inr (2, [.int (if e0q < e0 then e0q else e0), .int (if e1 < e1q then e1q else e1), .int 1, .int 0])), (yq, .inr (2, [.int e0q, .int e1q, .int (b2i oFq), .int (b2i oTq)]))]) H := hP
          have hD : va_D A ([(yo, .inr (2, [.int (if e0q < e0 then e0q else e0), .int (if e1 < e1q then e1q else e1), .int 1, .int 0])), (yq, .inr (2, [.int e0q, .int e1q, .int (b2i oFq), .int (b2i oTq)]))]) := hD
          exact W.vret hx hb hr (fun t ht hW => ⟨⟨(if e0q < e0 then e0q else e0, if e1 < e1q then e1q else e1, 1, 0), rfl, ⟨rfl, rfl, by simp [b2i, *], by simp [b2i, *]⟩, by rw [ht]; exact hP, va_K.moved hW.alike hK, hD⟩, hS.F ht⟩) hS.2.2 d_Y_growTo_76
        · have c8 := b2i_t c8
          refine lv_iconst (v := 1) hx hb d_Y_growTo_68 (by decide) ?_
          refine lv_goto (tgt := 73) hx hb d_Y_growTo_69 (by decide) ?_
          refine va_put (D := D) (ci := 2) (v := .int 1) (ty := .boolean) (C := "TimeWords$Years") (T := F_Y) (N := 4) hx hb hw in_Y ty_Y ty_Y_ok n_Y hown hK hP hD hS 0 rfl rfl 3 (by decide) (hw _ fl_Y_22) (fun _ h9 => h9) rfl (by decide +kernel) rfl rfl (Nat.le_of_ble_eq_true rfl) d_Y_growTo_73 (fun H locs hP hD hS => ?_)
          have hP : va_P D gC ([(yo, .inr (2, [.int (if e0q < e0 then e0q else e0), .int (if e1 < e1q then e1q else e1), .int 1, .int 1])), (yq, .inr (2, [.int e0q, .int e1q, .int (b2i oFq), .int (b2i oTq)]))]) H := hP
          have hD : va_D A ([(yo, .inr (2, [.int (if e0q < e0 then e0q else e0), .int (if e1 < e1q then e1q else e1), .int 1, .int 1])), (yq, .inr (2, [.int e0q, .int e1q, .int (b2i oFq), .int (b2i oTq)]))]) := hD
          exact W.vret hx hb hr (fun t ht hW => ⟨⟨(if e0q < e0 then e0q else e0, if e1 < e1q then e1q else e1, 1, 1), rfl, ⟨rfl, rfl, by simp [b2i, *], by simp [b2i, *]⟩, by rw [ht]; exact hP, va_K.moved hW.alike hK, hD⟩, hS.F ht⟩) hS.2.2 d_Y_growTo_76

def c_3 (x y : Int32) : Int32 := (y - x + 1) / 3
set_option maxHeartbeats 4000000 in
set_option maxRecDepth 100000 in
theorem k_Y_takeThird (l : Launch) (D : va_G) (T : gT) (yo : Nat) (e0 e1 : Int32) (oF oT : Bool) (sz : Nat) (k : Int32) (hy0 : ¬ k < 0) (hy1 : k ≤ 2) : Met l y_Y_takeThird (Cond.code y_Y_takeThird b_Y_takeThird 3 (some .boolean) :: bg_W) ({ frames := 1, cells := 0, slots := 0, locals := 20 }) (qP D T ([(yo, .inr (2, [.int e0, .int e1, .int (b2i oF), .int (b2i oT)]))]) [.ref yo, .int k] sz) (va_Qi (fun (r : Int32) (u : Int32 × Int32) => match u with | (w0, w1) => ((oF || oT) = false ∧ ¬ (e1 - e0 + 1) / 3 < 1 ∧ r = 1 ∧ w0 = e0 + k * ((e1 - e0 + 1) / 3) ∧ w1 = (if k = 2 then e1 else e0 + k * ((e1 - e0 + 1) / 3) + (e1 - e0 + 1) / 3 - 1)) ∨ (((oF || oT) = true ∨ (e1 - e0 + 1) / 3 < 1) ∧ r = 0 ∧ w0 = e0 ∧ w1 = e1)) (qB D T (va_A ([(yo, .inr (2, [.int e0, .int e1, .int (b2i oF), .int (b2i oT)]))]) sz) (fun u : Int32 × Int32 => match u with | (w0, w1) => [(yo, .inr (2, [.int w0, .int w1, .int (b2i oF), .int (b2i oT)]))])) (va_A ([(yo, .inr (2, [.int e0, .int e1, .int (b2i oF), .int (b2i oT)]))]) sz)) 0 0 (va_A ([(yo, .inr (2, [.int e0, .int e1, .int (b2i oF), .int (b2i oT)]))]) sz) := by
  refine Met.ofW (cc := b_Y_takeThird) (maxL := 3) (ret := (some .boolean)) (by decide) rfl ?_
  intro p e s m args below meth c s₁ B hml hv
  obtain ⟨rfl, hsz, hP, hK, hD0⟩ := hv
  have hx := B.exec
  have hb := B.bytes
  have hr := B.returns
  have hw : ∀ w ∈ bg_W, w.before ([.ref yo, .int k] : List Value).toArray s = true := fun w h => atoms_spec (ws := (Cond.code y_Y_takeThird b_Y_takeThird 3 (some .boolean) :: bg_W)) B.pre w (List.mem_cons_of_mem _ h)
  have hown : s.vm.findClass "TimeWords$Years" = some m.cls := findClass_of_methodNamed B.named
  have hlocks := B.notSynchronized
  subst hsz
  have hD := hD0.self (sz := s.heap.size)
  generalize hAe : va_A ([(yo, .inr (2, [.int e0, .int e1, .int (b2i oF), .int (b2i oT)]))]) s.heap.size = A at hD ⊢
  have hA : ∀ q : Nat, s.heap.size ≤ q → A q := fun q h => by rw [← hAe]; exact Or.inr h
  have hS : va_S A s.heap s.heap [] := va_S.rf
  have hl := lv_entry ([.ref yo, .int k]) (n := 3) (Nat.le_of_ble_eq_true rfl)
  rw [lg_entry_eq]
  generalize (lg_sl ([.ref yo, .int k]) ++ List.replicate (3 - (lg_sl ([.ref yo, .int k])).length) Slot.unset).toArray = ls at hl ⊢
  have hl : lv_has ls 3 [(0, .ref yo), (1, .int k)] := hl
  refine lv_aload_n hx hb d_Y_takeThird_0 rfl (lv_at hl 0 rfl) ?_
  have hPc : va_P D gC [(yo, .inr (2, [.int e0, .int e1, .int (b2i oF), .int (b2i oT)]))] s.heap := (pc1 (hP 0 _ rfl) pc0)
  refine vp_callSi (va_Run.run (va_runV (As := []) (rest := []) ⟨hx, hb, hml, hown, hw⟩ (k_Y_length l D T yo e0 e1 oF oT) (cwV 0 hw (bg_V ml_Y_34 wi_Y_length wv_Y_length wz_Y wc_Y_length) rfl rfl rfl (by decide +kernel) ⟨Nat.le_of_ble_eq_true rfl, Nat.le_of_ble_eq_true rfl⟩) ⟨sP_b, va_recv hK hPc (ci := 2) (q0 := 0) rfl rfl, sP_p hPc hK⟩ rfl rfl hl.1 rfl (lv_room (Nat.le_of_ble_eq_true rfl)) d_Y_takeThird_1 ⟨Nat.le_of_ble_eq_true rfl, Nat.le_of_ble_eq_true rfl⟩)) (fun r1 hr1 => ?_)
  replace hr1 := hr1.symm; subst hr1
  refine lv_iconst (v := 3) hx hb d_Y_takeThird_4 (by decide) ?_
  refine lv_idiv hx hb d_Y_takeThird_5 (by decide) ?_
  refine lv_istore_n (lv' := [(2, .int ((e1 - e0 + 1) / 3)), (0, .ref yo), (1, .int k)]) hx hb d_Y_takeThird_6 rfl hl (by decide) rfl (fun ls hl => ?_)
  refine lv_aload_n hx hb d_Y_takeThird_7 rfl (lv_at hl 1 rfl) ?_
  have hPc : va_P D gC [(yo, .inr (2, [.int e0, .int e1, .int (b2i oF), .int (b2i oT)]))] s.heap := (pc1 (hP 0 _ rfl) pc0)
  refine vp_callSi (va_Run.run (va_runV (As := []) (rest := []) ⟨hx, hb, hml, hown, hw⟩ (k_Y_isOpen l D T yo e0 e1 oF oT) (cwV 0 hw (bg_V ml_Y_38 wi_Y_isOpen wv_Y_isOpen wz_Y wc_Y_isOpen) rfl rfl rfl (by decide +kernel) ⟨Nat.le_of_ble_eq_true rfl, Nat.le_of_ble_eq_true rfl⟩) ⟨sP_b, va_recv hK hPc (ci := 2) (q0 := 0) rfl rfl, sP_p hPc hK⟩ rfl rfl hl.1 rfl (lv_room (Nat.le_of_ble_eq_true rfl)) d_Y_takeThird_8 ⟨Nat.le_of_ble_eq_true rfl, Nat.le_of_ble_eq_true rfl⟩)) (fun r2 hr2 => ?_)
  replace hr2 := hr2.symm; subst hr2
  refine lv_if_ne (tgt := 28) hx hb d_Y_takeThird_11 (by decide) (fun c3 => ?_) (fun c3 => ?_)
  · have c3 := b2i_t c3
    refine lv_iconst (v := 0) hx hb d_Y_takeThird_28 (by decide) ?_
    exact W.zret (v := 0) hx hb hr rfl (fun t ht hW => ⟨⟨0, (e0, e1), rfl, (Or.inr ⟨Or.inl c3, rfl, rfl, rfl⟩), by rw [ht]; exact hP, va_K.moved hW.alike hK, hD⟩, hS.F ht⟩) hS.2.2 d_Y_takeThird_29
  · have c3 := b2i_f c3
    have hop := c3
    refine lv_iload_n hx hb d_Y_takeThird_14 rfl (lv_at hl 0 rfl) ?_
    refine lv_iconst (v := 1) hx hb d_Y_takeThird_15 (by decide) ?_
    refine lv_icmp_lt (tgt := 28) hx hb d_Y_takeThird_16 (by decide) (fun c4 => ?_) (fun c4 => ?_)
    · refine lv_iconst (v := 0) hx hb d_Y_takeThird_28 (by decide) ?_
      exact W.zret (v := 0) hx hb hr rfl (fun t ht hW => ⟨⟨0, (e0, e1), rfl, (Or.inr ⟨Or.inr c4, rfl, rfl, rfl⟩), by rw [ht]; exact hP, va_K.moved hW.alike hK, hD⟩, hS.F ht⟩) hS.2.2 d_Y_takeThird_29
    · have hth := c4
      refine lv_iload_n hx hb d_Y_takeThird_19 rfl (lv_at hl 2 rfl) ?_
      refine lv_if_lt (tgt := 28) hx hb d_Y_takeThird_20 (by decide) (fun c5 => absurd c5 (hy0)) (fun c5 => ?_)
      refine lv_iload_n hx hb d_Y_takeThird_23 rfl (lv_at hl 2 rfl) ?_
      refine lv_iconst (v := 2) hx hb d_Y_takeThird_24 (by decide) ?_
      refine lv_icmp_le (tgt := 30) hx hb d_Y_takeThird_25 (by decide) (fun c6 => ?_) (fun c6 => absurd (hy1) c6)
      refine lv_aload_n hx hb d_Y_takeThird_30 rfl (lv_at hl 1 rfl) ?_
      refine lv_dup hx hb d_Y_takeThird_31 rfl ?_
      refine va_get (D := D) (ci := 2) (v := .int e0) (C := "TimeWords$Years") (T := F_Y) (N := 4) hx hb hw in_Y hown hK hP 0 rfl rfl 0 (by decide) (hw _ fl_Y_9) (fun _ h9 => h9) rfl d_Y_takeThird_32 ?_
      refine lv_iload_n hx hb d_Y_takeThird_35 rfl (lv_at hl 2 rfl) ?_
      refine lv_iload_n hx hb d_Y_takeThird_36 rfl (lv_at hl 0 rfl) ?_
      refine lv_imul hx hb d_Y_takeThird_37 ?_
      refine lv_iadd hx hb d_Y_takeThird_38 ?_
      refine va_put (D := D) (ci := 2) (v := .int (e0 + (k * ((e1 - e0 + 1) / 3)))) (ty := .int) (C := "TimeWords$Years") (T := F_Y) (N := 4) hx hb hw in_Y ty_Y ty_Y_ok n_Y hown hK hP hD hS 0 rfl rfl 0 (by decide) (hw _ fl_Y_9) (fun _ h9 => h9) rfl (by decide +kernel) rfl rfl (Nat.le_of_ble_eq_true rfl) d_Y_takeThird_39 (fun H locs hP hD hS => ?_)
      have hP : va_P D gC ([(yo, .inr (2, [.int (e0 + (k * ((e1 - e0 + 1) / 3))), .int e1, .int (b2i oF), .int (b2i oT)]))]) H := hP
      have hD : va_D A ([(yo, .inr (2, [.int (e0 + (k * ((e1 - e0 + 1) / 3))), .int e1, .int (b2i oF), .int (b2i oT)]))]) := hD
      refine lv_iload_n hx hb d_Y_takeThird_42 rfl (lv_at hl 2 rfl) ?_
      refine lv_iconst (v := 2) hx hb d_Y_takeThird_43 (by decide) ?_
      refine lv_icmp_eq (tgt := 59) hx hb d_Y_takeThird_44 (by decide) (fun c7 => ?_) (fun c7 => ?_)
      · refine lv_iconst (v := 1) hx hb d_Y_takeThird_59 (by decide) ?_
        exact W.zret (v := 1) hx hb hr rfl (fun t ht hW => ⟨⟨1, (e0 + (k * ((e1 - e0 + 1) / 3)), e1), rfl, (Or.inl ⟨hop, hth, rfl, rfl, (by simp only [c3, if_neg c4, decide_eq_false c4, if_pos c7, decide_eq_true c7])⟩), by rw [ht]; exact hP, va_K.moved hW.alike hK, hD⟩, hS.F ht⟩) hS.2.2 d_Y_takeThird_60
      · refine lv_aload_n hx hb d_Y_takeThird_47 rfl (lv_at hl 1 rfl) ?_
        refine lv_aload_n hx hb d_Y_takeThird_48 rfl (lv_at hl 1 rfl) ?_
        refine va_get (D := D) (ci := 2) (v := .int (e0 + (k * ((e1 - e0 + 1) / 3)))) (C := "TimeWords$Years") (T := F_Y) (N := 4) hx hb hw in_Y hown hK hP 0 rfl rfl 0 (by decide) (hw _ fl_Y_9) (fun _ h9 => h9) rfl d_Y_takeThird_49 ?_
        refine lv_iload_n hx hb d_Y_takeThird_52 rfl (lv_at hl 0 rfl) ?_
        refine lv_iadd hx hb d_Y_takeThird_53 ?_
        refine lv_iconst (v := 1) hx hb d_Y_takeThird_54 (by decide) ?_
        refine lv_isub hx hb d_Y_takeThird_55 ?_
        refine va_put (D := D) (ci := 2) (v := .int (((e0 + (k * ((e1 - e0 + 1) / 3))) + ((e1 - e0 + 1) / 3)) - 1)) (ty := .int) (C := "TimeWords$Years") (T := F_Y) (N := 4) hx hb hw in_Y ty_Y ty_Y_ok n_Y hown hK hP hD hS 0 rfl rfl 1 (by decide) (hw _ fl_Y_15) (fun _ h9 => h9) rfl (by decide +kernel) rfl rfl (Nat.le_of_ble_eq_true rfl) d_Y_takeThird_56 (fun H locs hP hD hS => ?_)
        have hP : va_P D gC ([(yo, .inr (2, [.int (e0 + (k * ((e1 - e0 + 1) / 3))), .int (((e0 + (k * ((e1 - e0 + 1) / 3))) + ((e1 - e0 + 1) / 3)) - 1), .int (b2i oF), .int (b2i oT)]))]) H := hP
        have hD : va_D A ([(yo, .inr (2, [.int (e0 + (k * ((e1 - e0 + 1) / 3))), .int (((e0 + (k * ((e1 - e0 + 1) / 3))) + ((e1 - e0 + 1) / 3)) - 1), .int (b2i oF), .int (b2i oT)]))]) := hD
        refine lv_iconst (v := 1) hx hb d_Y_takeThird_59 (by decide) ?_
        exact W.zret (v := 1) hx hb hr rfl (fun t ht hW => ⟨⟨1, (e0 + (k * ((e1 - e0 + 1) / 3)), ((e0 + (k * ((e1 - e0 + 1) / 3))) + ((e1 - e0 + 1) / 3)) - 1), rfl, (Or.inl ⟨hop, hth, rfl, rfl, (by simp only [c3, if_neg c4, decide_eq_false c4, if_neg c7, decide_eq_false c7])⟩), by rw [ht]; exact hP, va_K.moved hW.alike hK, hD⟩, hS.F ht⟩) hS.2.2 d_Y_takeThird_60

set_option maxHeartbeats 4000000 in
set_option maxRecDepth 100000 in
theorem k_Y_widen (l : Launch) (D : va_G) (T : gT) (yo : Nat) (e0 e1 : Int32) (oF oT : Bool) (sz : Nat) (k : Int32) : Met l y_Y_widen (Cond.code y_Y_widen b_Y_widen 2 (some .boolean) :: bg_W) ({ frames := 1, cells := 0, slots := 0, locals := 20 }) (qP D T ([(yo, .inr (2, [.int e0, .int e1, .int (b2i oF), .int (b2i oT)]))]) [.ref yo, .int k] sz) (va_Qi (fun (r : Int32) (u : Int32 × Int32) => match u with | (w0, w1) => ((oF || oT) = false ∧ r = 1 ∧ w0 = (if -9999 < e0 - k then e0 - k else -9999) ∧ w1 = (if e1 + k < 9999 then e1 + k else 9999)) ∨ ((oF || oT) = true ∧ r = 0 ∧ w0 = e0 ∧ w1 = e1)) (qB D T (va_A ([(yo, .inr (2, [.int e0, .int e1, .int (b2i oF), .int (b2i oT)]))]) sz) (fun u : Int32 × Int32 => match u with | (w0, w1) => [(yo, .inr (2, [.int w0, .int w1, .int (b2i oF), .int (b2i oT)]))])) (va_A ([(yo, .inr (2, [.int e0, .int e1, .int (b2i oF), .int (b2i oT)]))]) sz)) 0 0 (va_A ([(yo, .inr (2, [.int e0, .int e1, .int (b2i oF), .int (b2i oT)]))]) sz) := by
  refine Met.ofW (cc := b_Y_widen) (maxL := 2) (ret := (some .boolean)) (by decide) rfl ?_
  intro p e s m args below meth c s₁ B hml hv
  obtain ⟨rfl, hsz, hP, hK, hD0⟩ := hv
  have hx := B.exec
  have hb := B.bytes
  have hr := B.returns
  have hw : ∀ w ∈ bg_W, w.before ([.ref yo, .int k] : List Value).toArray s = true := fun w h => atoms_spec (ws := (Cond.code y_Y_widen b_Y_widen 2 (some .boolean) :: bg_W)) B.pre w (List.mem_cons_of_mem _ h)
  have hown : s.vm.findClass "TimeWords$Years" = some m.cls := findClass_of_methodNamed B.named
  have hlocks := B.notSynchronized
  subst hsz
  have hD := hD0.self (sz := s.heap.size)
  generalize hAe : va_A ([(yo, .inr (2, [.int e0, .int e1, .int (b2i oF), .int (b2i oT)]))]) s.heap.size = A at hD ⊢
  have hA : ∀ q : Nat, s.heap.size ≤ q → A q := fun q h => by rw [← hAe]; exact Or.inr h
  have hS : va_S A s.heap s.heap [] := va_S.rf
  have hl := lv_entry ([.ref yo, .int k]) (n := 2) (Nat.le_of_ble_eq_true rfl)
  rw [lg_entry_eq]
  generalize (lg_sl ([.ref yo, .int k]) ++ List.replicate (2 - (lg_sl ([.ref yo, .int k])).length) Slot.unset).toArray = ls at hl ⊢
  have hl : lv_has ls 2 [(0, .ref yo), (1, .int k)] := hl
  refine lv_aload_n hx hb d_Y_widen_0 rfl (lv_at hl 0 rfl) ?_
  have hPc : va_P D gC [(yo, .inr (2, [.int e0, .int e1, .int (b2i oF), .int (b2i oT)]))] s.heap := (pc1 (hP 0 _ rfl) pc0)
  refine vp_callSi (va_Run.run (va_runV (As := []) (rest := []) ⟨hx, hb, hml, hown, hw⟩ (k_Y_isOpen l D T yo e0 e1 oF oT) (cwV 0 hw (bg_V ml_Y_38 wi_Y_isOpen wv_Y_isOpen wz_Y wc_Y_isOpen) rfl rfl rfl (by decide +kernel) ⟨Nat.le_of_ble_eq_true rfl, Nat.le_of_ble_eq_true rfl⟩) ⟨sP_b, va_recv hK hPc (ci := 2) (q0 := 0) rfl rfl, sP_p hPc hK⟩ rfl rfl hl.1 rfl (lv_room (Nat.le_of_ble_eq_true rfl)) d_Y_widen_1 ⟨Nat.le_of_ble_eq_true rfl, Nat.le_of_ble_eq_true rfl⟩)) (fun r1 hr1 => ?_)
  replace hr1 := hr1.symm; subst hr1
  refine lv_if_eq (tgt := 9) hx hb d_Y_widen_4 (by decide) (fun c2 => ?_) (fun c2 => ?_)
  · have c2 := b2i_f c2
    refine lv_aload_n hx hb d_Y_widen_9 rfl (lv_at hl 0 rfl) ?_
    refine lv_sipush (v := (-9999)) hx hb d_Y_widen_10 (by decide) ?_
    refine lv_aload_n hx hb d_Y_widen_13 rfl (lv_at hl 0 rfl) ?_
    refine va_get (D := D) (ci := 2) (v := .int e0) (C := "TimeWords$Years") (T := F_Y) (N := 4) hx hb hw in_Y hown hK hP 0 rfl rfl 0 (by decide) (hw _ fl_Y_9) (fun _ h9 => h9) rfl d_Y_widen_14 ?_
    refine lv_iload_n hx hb d_Y_widen_17 rfl (lv_at hl 1 rfl) ?_
    refine lv_isub hx hb d_Y_widen_18 ?_
    refine va_mmax hx hb (hml.trans hl.1.symm) hown (hw _ ml_Y_31) (hw _ wt_MA_max) (hw _ wz_MA) (hw _ wc_MA_max) (Nat.le_of_ble_eq_true rfl) (Nat.le_of_ble_eq_true rfl) (Nat.le_of_ble_eq_true rfl) (Nat.le_of_ble_eq_true rfl) d_Y_widen_19 ?_
    refine va_put (D := D) (ci := 2) (v := .int (if (-9999) < (e0 - k) then (e0 - k) else (-9999))) (ty := .int) (C := "TimeWords$Years") (T := F_Y) (N := 4) hx hb hw in_Y ty_Y ty_Y_ok n_Y hown hK hP hD hS 0 rfl rfl 0 (by decide) (hw _ fl_Y_9) (fun _ h9 => h9) rfl (by decide +kernel) rfl rfl (Nat.le_of_ble_eq_true rfl) d_Y_widen_22 (fun H locs hP hD hS => ?_)
    have hP : va_P D gC ([(yo, .inr (2, [.int (if (-9999) < (e0 - k) then (e0 - k) else (-9999)), .int e1, .int (b2i oF), .int (b2i oT)]))]) H := hP
    have hD : va_D A ([(yo, .inr (2, [.int (if (-9999) < (e0 - k) then (e0 - k) else (-9999)), .int e1, .int (b2i oF), .int (b2i oT)]))]) := hD
    refine lv_aload_n hx hb d_Y_widen_25 rfl (lv_at hl 0 rfl) ?_
    refine lv_sipush (v := 9999) hx hb d_Y_widen_26 (by decide) ?_
    refine lv_aload_n hx hb d_Y_widen_29 rfl (lv_at hl 0 rfl) ?_
    refine va_get (D := D) (ci := 2) (v := .int e1) (C := "TimeWords$Years") (T := F_Y) (N := 4) hx hb hw in_Y hown hK hP 0 rfl rfl 1 (by decide) (hw _ fl_Y_15) (fun _ h9 => h9) rfl d_Y_widen_30 ?_
    refine lv_iload_n hx hb d_Y_widen_33 rfl (lv_at hl 1 rfl) ?_
    refine lv_iadd hx hb d_Y_widen_34 ?_
    refine va_mmin hx hb (hml.trans hl.1.symm) hown (hw _ ml_Y_25) (hw _ wt_MA_min) (hw _ wz_MA) (hw _ wc_MA_min) (Nat.le_of_ble_eq_true rfl) (Nat.le_of_ble_eq_true rfl) (Nat.le_of_ble_eq_true rfl) (Nat.le_of_ble_eq_true rfl) d_Y_widen_35 ?_
    refine va_put (D := D) (ci := 2) (v := .int (if (e1 + k) < 9999 then (e1 + k) else 9999)) (ty := .int) (C := "TimeWords$Years") (T := F_Y) (N := 4) hx hb hw in_Y ty_Y ty_Y_ok n_Y hown hK hP hD hS 0 rfl rfl 1 (by decide) (hw _ fl_Y_15) (fun _ h9 => h9) rfl (by decide +kernel) rfl rfl (Nat.le_of_ble_eq_true rfl) d_Y_widen_38 (fun H locs hP hD hS => ?_)
    have hP : va_P D gC ([(yo, .inr (2, [.int (if (-9999) < (e0 - k) then (e0 - k) else (-9999)), .int (if (e1 + k) < 9999 then (e1 + k) else 9999), .int (b2i oF), .int (b2i oT)]))]) H := hP
    have hD : va_D A ([(yo, .inr (2, [.int (if (-9999) < (e0 - k) then (e0 - k) else (-9999)), .int (if (e1 + k) < 9999 then (e1 + k) else 9999), .int (b2i oF), .int (b2i oT)]))]) := hD
    refine lv_iconst (v := 1) hx hb d_Y_widen_41 (by decide) ?_
    exact W.zret (v := 1) hx hb hr rfl (fun t ht hW => ⟨⟨1, (if (-9999) < (e0 - k) then (e0 - k) else (-9999), if (e1 + k) < 9999 then (e1 + k) else 9999), rfl, (Or.inl ⟨c2, rfl, rfl, rfl⟩), by rw [ht]; exact hP, va_K.moved hW.alike hK, hD⟩, hS.F ht⟩) hS.2.2 d_Y_widen_42
  · have c2 := b2i_t c2
    refine lv_iconst (v := 0) hx hb d_Y_widen_7 (by decide) ?_
    exact W.zret (v := 0) hx hb hr rfl (fun t ht hW => ⟨⟨0, (e0, e1), rfl, (Or.inr ⟨c2, rfl, rfl, rfl⟩), by rw [ht]; exact hP, va_K.moved hW.alike hK, hD⟩, hS.F ht⟩) hS.2.2 d_Y_widen_8

set_option maxHeartbeats 4000000 in
set_option maxRecDepth 100000 in
theorem k_Y_turnBefore (l : Launch) (D : va_G) (T : gT) (yo : Nat) (e0 e1 : Int32) (oF oT : Bool) (sz : Nat) : Met l y_Y_turnBefore (Cond.code y_Y_turnBefore b_Y_turnBefore 1 (some .boolean) :: bg_W) ({ frames := 1, cells := 0, slots := 0, locals := 20 }) (qP D T ([(yo, .inr (2, [.int e0, .int e1, .int (b2i oF), .int (b2i oT)]))]) [.ref yo] sz) (va_Qi (fun (r : Int32) (u : Int32 × Int32 × Int32) => match u with | (w0, w1, w2) => ((oF || oT) = false ∧ ¬ e0 = -9999 ∧ r = 1 ∧ w0 = -9999 ∧ w1 = e0 - 1 ∧ w2 = 1) ∨ (((oF || oT) = true ∨ e0 = -9999) ∧ r = 0 ∧ w0 = e0 ∧ w1 = e1 ∧ w2 = b2i oF)) (qB D T (va_A ([(yo, .inr (2, [.int e0, .int e1, .int (b2i oF), .int (b2i oT)]))]) sz) (fun u : Int32 × Int32 × Int32 => match u with | (w0, w1, w2) => [(yo, .inr (2, [.int w0, .int w1, .int w2, .int (b2i oT)]))])) (va_A ([(yo, .inr (2, [.int e0, .int e1, .int (b2i oF), .int (b2i oT)]))]) sz)) 0 0 (va_A ([(yo, .inr (2, [.int e0, .int e1, .int (b2i oF), .int (b2i oT)]))]) sz) := by
  refine Met.ofW (cc := b_Y_turnBefore) (maxL := 1) (ret := (some .boolean)) (by decide) rfl ?_
  intro p e s m args below meth c s₁ B hml hv
  obtain ⟨rfl, hsz, hP, hK, hD0⟩ := hv
  have hx := B.exec
  have hb := B.bytes
  have hr := B.returns
  have hw : ∀ w ∈ bg_W, w.before ([.ref yo] : List Value).toArray s = true := fun w h => atoms_spec (ws := (Cond.code y_Y_turnBefore b_Y_turnBefore 1 (some .boolean) :: bg_W)) B.pre w (List.mem_cons_of_mem _ h)
  have hown : s.vm.findClass "TimeWords$Years" = some m.cls := findClass_of_methodNamed B.named
  have hlocks := B.notSynchronized
  subst hsz
  have hD := hD0.self (sz := s.heap.size)
  generalize hAe : va_A ([(yo, .inr (2, [.int e0, .int e1, .int (b2i oF), .int (b2i oT)]))]) s.heap.size = A at hD ⊢
  have hA : ∀ q : Nat, s.heap.size ≤ q → A q := fun q h => by rw [← hAe]; exact Or.inr h
  have hS : va_S A s.heap s.heap [] := va_S.rf
  have hl := lv_entry ([.ref yo]) (n := 1) (Nat.le_of_ble_eq_true rfl)
  rw [lg_entry_eq]
  generalize (lg_sl ([.ref yo]) ++ List.replicate (1 - (lg_sl ([.ref yo])).length) Slot.unset).toArray = ls at hl ⊢
  have hl : lv_has ls 1 [(0, .ref yo)] := hl
  refine lv_aload_n hx hb d_Y_turnBefore_0 rfl (lv_at hl 0 rfl) ?_
  have hPc : va_P D gC [(yo, .inr (2, [.int e0, .int e1, .int (b2i oF), .int (b2i oT)]))] s.heap := (pc1 (hP 0 _ rfl) pc0)
  refine vp_callSi (va_Run.run (va_runV (As := []) (rest := []) ⟨hx, hb, hml, hown, hw⟩ (k_Y_isOpen l D T yo e0 e1 oF oT) (cwV 0 hw (bg_V ml_Y_38 wi_Y_isOpen wv_Y_isOpen wz_Y wc_Y_isOpen) rfl rfl rfl (by decide +kernel) ⟨Nat.le_of_ble_eq_true rfl, Nat.le_of_ble_eq_true rfl⟩) ⟨sP_b, va_recv hK hPc (ci := 2) (q0 := 0) rfl rfl, sP_p hPc hK⟩ rfl rfl hl.1 rfl (lv_room (Nat.le_of_ble_eq_true rfl)) d_Y_turnBefore_1 ⟨Nat.le_of_ble_eq_true rfl, Nat.le_of_ble_eq_true rfl⟩)) (fun r1 hr1 => ?_)
  replace hr1 := hr1.symm; subst hr1
  refine lv_if_ne (tgt := 17) hx hb d_Y_turnBefore_4 (by decide) (fun c2 => ?_) (fun c2 => ?_)
  · have c2 := b2i_t c2
    refine lv_iconst (v := 0) hx hb d_Y_turnBefore_17 (by decide) ?_
    exact W.zret (v := 0) hx hb hr rfl (fun t ht hW => ⟨⟨0, (e0, e1, b2i oF), rfl, (Or.inr ⟨Or.inl c2, rfl, rfl, rfl, rfl⟩), by rw [ht]; exact hP, va_K.moved hW.alike hK, hD⟩, hS.F ht⟩) hS.2.2 d_Y_turnBefore_18
  · have c2 := b2i_f c2
    refine lv_aload_n hx hb d_Y_turnBefore_7 rfl (lv_at hl 0 rfl) ?_
    refine va_get (D := D) (ci := 2) (v := .int e0) (C := "TimeWords$Years") (T := F_Y) (N := 4) hx hb hw in_Y hown hK hP 0 rfl rfl 0 (by decide) (hw _ fl_Y_9) (fun _ h9 => h9) rfl d_Y_turnBefore_8 ?_
    refine lv_sipush (v := (-9999)) hx hb d_Y_turnBefore_11 (by decide) ?_
    refine lv_icmp_ne (tgt := 19) hx hb d_Y_turnBefore_14 (by decide) (fun c3 => ?_) (fun c3 => ?_)
    · refine lv_aload_n hx hb d_Y_turnBefore_19 rfl (lv_at hl 0 rfl) ?_
      refine lv_aload_n hx hb d_Y_turnBefore_20 rfl (lv_at hl 0 rfl) ?_
      refine va_get (D := D) (ci := 2) (v := .int e0) (C := "TimeWords$Years") (T := F_Y) (N := 4) hx hb hw in_Y hown hK hP 0 rfl rfl 0 (by decide) (hw _ fl_Y_9) (fun _ h9 => h9) rfl d_Y_turnBefore_21 ?_
      refine lv_iconst (v := 1) hx hb d_Y_turnBefore_24 (by decide) ?_
      refine lv_isub hx hb d_Y_turnBefore_25 ?_
      refine va_put (D := D) (ci := 2) (v := .int (e0 - 1)) (ty := .int) (C := "TimeWords$Years") (T := F_Y) (N := 4) hx hb hw in_Y ty_Y ty_Y_ok n_Y hown hK hP hD hS 0 rfl rfl 1 (by decide) (hw _ fl_Y_15) (fun _ h9 => h9) rfl (by decide +kernel) rfl rfl (Nat.le_of_ble_eq_true rfl) d_Y_turnBefore_26 (fun H locs hP hD hS => ?_)
      have hP : va_P D gC ([(yo, .inr (2, [.int e0, .int (e0 - 1), .int (b2i oF), .int (b2i oT)]))]) H := hP
      have hD : va_D A ([(yo, .inr (2, [.int e0, .int (e0 - 1), .int (b2i oF), .int (b2i oT)]))]) := hD
      refine lv_aload_n hx hb d_Y_turnBefore_29 rfl (lv_at hl 0 rfl) ?_
      refine lv_sipush (v := (-9999)) hx hb d_Y_turnBefore_30 (by decide) ?_
      refine va_put (D := D) (ci := 2) (v := .int (-9999)) (ty := .int) (C := "TimeWords$Years") (T := F_Y) (N := 4) hx hb hw in_Y ty_Y ty_Y_ok n_Y hown hK hP hD hS 0 rfl rfl 0 (by decide) (hw _ fl_Y_9) (fun _ h9 => h9) rfl (by decide +kernel) rfl rfl (Nat.le_of_ble_eq_true rfl) d_Y_turnBefore_33 (fun H locs hP hD hS => ?_)
      have hP : va_P D gC ([(yo, .inr (2, [.int (-9999), .int (e0 - 1), .int (b2i oF), .int (b2i oT)]))]) H := hP
      have hD : va_D A ([(yo, .inr (2, [.int (-9999), .int (e0 - 1), .int (b2i oF), .int (b2i oT)]))]) := hD
      refine lv_aload_n hx hb d_Y_turnBefore_36 rfl (lv_at hl 0 rfl) ?_
      refine lv_iconst (v := 1) hx hb d_Y_turnBefore_37 (by decide) ?_
      refine va_put (D := D) (ci := 2) (v := .int 1) (ty := .boolean) (C := "TimeWords$Years") (T := F_Y) (N := 4) hx hb hw in_Y ty_Y ty_Y_ok n_Y hown hK hP hD hS 0 rfl rfl 2 (by decide) (hw _ fl_Y_18) (fun _ h9 => h9) rfl (by decide +kernel) rfl rfl (Nat.le_of_ble_eq_true rfl) d_Y_turnBefore_38 (fun H locs hP hD hS => ?_)
      have hP : va_P D gC ([(yo, .inr (2, [.int (-9999), .int (e0 - 1), .int 1, .int (b2i oT)]))]) H := hP
      have hD : va_D A ([(yo, .inr (2, [.int (-9999), .int (e0 - 1), .int 1, .int (b2i oT)]))]) := hD
      refine lv_iconst (v := 1) hx hb d_Y_turnBefore_41 (by decide) ?_
      exact W.zret (v := 1) hx hb hr rfl (fun t ht hW => ⟨⟨1, ((-9999), e0 - 1, 1), rfl, (Or.inl ⟨c2, c3, rfl, rfl, rfl, rfl⟩), by rw [ht]; exact hP, va_K.moved hW.alike hK, hD⟩, hS.F ht⟩) hS.2.2 d_Y_turnBefore_42
    · refine lv_iconst (v := 0) hx hb d_Y_turnBefore_17 (by decide) ?_
      exact W.zret (v := 0) hx hb hr rfl (fun t ht hW => ⟨⟨0, (e0, e1, b2i oF), rfl, (Or.inr ⟨Or.inr c3, rfl, rfl, rfl, rfl⟩), by rw [ht]; exact hP, va_K.moved hW.alike hK, hD⟩, hS.F ht⟩) hS.2.2 d_Y_turnBefore_18

set_option maxHeartbeats 4000000 in
set_option maxRecDepth 100000 in
theorem k_Y_turnAfter (l : Launch) (D : va_G) (T : gT) (yo : Nat) (e0 e1 : Int32) (oF oT : Bool) (sz : Nat) : Met l y_Y_turnAfter (Cond.code y_Y_turnAfter b_Y_turnAfter 1 (some .boolean) :: bg_W) ({ frames := 1, cells := 0, slots := 0, locals := 20 }) (qP D T ([(yo, .inr (2, [.int e0, .int e1, .int (b2i oF), .int (b2i oT)]))]) [.ref yo] sz) (va_Qi (fun (r : Int32) (u : Int32 × Int32 × Int32) => match u with | (w0, w1, w3) => ((oF || oT) = false ∧ ¬ e1 = 9999 ∧ r = 1 ∧ w0 = e1 + 1 ∧ w1 = 9999 ∧ w3 = 1) ∨ (((oF || oT) = true ∨ e1 = 9999) ∧ r = 0 ∧ w0 = e0 ∧ w1 = e1 ∧ w3 = b2i oT)) (qB D T (va_A ([(yo, .inr (2, [.int e0, .int e1, .int (b2i oF), .int (b2i oT)]))]) sz) (fun u : Int32 × Int32 × Int32 => match u with | (w0, w1, w3) => [(yo, .inr (2, [.int w0, .int w1, .int (b2i oF), .int w3]))])) (va_A ([(yo, .inr (2, [.int e0, .int e1, .int (b2i oF), .int (b2i oT)]))]) sz)) 0 0 (va_A ([(yo, .inr (2, [.int e0, .int e1, .int (b2i oF), .int (b2i oT)]))]) sz) := by
  refine Met.ofW (cc := b_Y_turnAfter) (maxL := 1) (ret := (some .boolean)) (by decide) rfl ?_
  intro p e s m args below meth c s₁ B hml hv
  obtain ⟨rfl, hsz, hP, hK, hD0⟩ := hv
  have hx := B.exec
  have hb := B.bytes
  have hr := B.returns
  have hw : ∀ w ∈ bg_W, w.before ([.ref yo] : List Value).toArray s = true := fun w h => atoms_spec (ws := (Cond.code y_Y_turnAfter b_Y_turnAfter 1 (some .boolean) :: bg_W)) B.pre w (List.mem_cons_of_mem _ h)
  have hown : s.vm.findClass "TimeWords$Years" = some m.cls := findClass_of_methodNamed B.named
  have hlocks := B.notSynchronized
  subst hsz
  have hD := hD0.self (sz := s.heap.size)
  generalize hAe : va_A ([(yo, .inr (2, [.int e0, .int e1, .int (b2i oF), .int (b2i oT)]))]) s.heap.size = A at hD ⊢
  have hA : ∀ q : Nat, s.heap.size ≤ q → A q := fun q h => by rw [← hAe]; exact Or.inr h
  have hS : va_S A s.heap s.heap [] := va_S.rf
  have hl := lv_entry ([.ref yo]) (n := 1) (Nat.le_of_ble_eq_true rfl)
  rw [lg_entry_eq]
  generalize (lg_sl ([.ref yo]) ++ List.replicate (1 - (lg_sl ([.ref yo])).length) Slot.unset).toArray = ls at hl ⊢
  have hl : lv_has ls 1 [(0, .ref yo)] := hl
  refine lv_aload_n hx hb d_Y_turnAfter_0 rfl (lv_at hl 0 rfl) ?_
  have hPc : va_P D gC [(yo, .inr (2, [.int e0, .int e1, .int (b2i oF), .int (b2i oT)]))] s.heap := (pc1 (hP 0 _ rfl) pc0)
  refine vp_callSi (va_Run.run (va_runV (As := []) (rest := []) ⟨hx, hb, hml, hown, hw⟩ (k_Y_isOpen l D T yo e0 e1 oF oT) (cwV 0 hw (bg_V ml_Y_38 wi_Y_isOpen wv_Y_isOpen wz_Y wc_Y_isOpen) rfl rfl rfl (by decide +kernel) ⟨Nat.le_of_ble_eq_true rfl, Nat.le_of_ble_eq_true rfl⟩) ⟨sP_b, va_recv hK hPc (ci := 2) (q0 := 0) rfl rfl, sP_p hPc hK⟩ rfl rfl hl.1 rfl (lv_room (Nat.le_of_ble_eq_true rfl)) d_Y_turnAfter_1 ⟨Nat.le_of_ble_eq_true rfl, Nat.le_of_ble_eq_true rfl⟩)) (fun r1 hr1 => ?_)
  replace hr1 := hr1.symm; subst hr1
  refine lv_if_ne (tgt := 17) hx hb d_Y_turnAfter_4 (by decide) (fun c2 => ?_) (fun c2 => ?_)
  · have c2 := b2i_t c2
    refine lv_iconst (v := 0) hx hb d_Y_turnAfter_17 (by decide) ?_
    exact W.zret (v := 0) hx hb hr rfl (fun t ht hW => ⟨⟨0, (e0, e1, b2i oT), rfl, (Or.inr ⟨Or.inl c2, rfl, rfl, rfl, rfl⟩), by rw [ht]; exact hP, va_K.moved hW.alike hK, hD⟩, hS.F ht⟩) hS.2.2 d_Y_turnAfter_18
  · have c2 := b2i_f c2
    refine lv_aload_n hx hb d_Y_turnAfter_7 rfl (lv_at hl 0 rfl) ?_
    refine va_get (D := D) (ci := 2) (v := .int e1) (C := "TimeWords$Years") (T := F_Y) (N := 4) hx hb hw in_Y hown hK hP 0 rfl rfl 1 (by decide) (hw _ fl_Y_15) (fun _ h9 => h9) rfl d_Y_turnAfter_8 ?_
    refine lv_sipush (v := 9999) hx hb d_Y_turnAfter_11 (by decide) ?_
    refine lv_icmp_ne (tgt := 19) hx hb d_Y_turnAfter_14 (by decide) (fun c3 => ?_) (fun c3 => ?_)
    · refine lv_aload_n hx hb d_Y_turnAfter_19 rfl (lv_at hl 0 rfl) ?_
      refine lv_aload_n hx hb d_Y_turnAfter_20 rfl (lv_at hl 0 rfl) ?_
      refine va_get (D := D) (ci := 2) (v := .int e1) (C := "TimeWords$Years") (T := F_Y) (N := 4) hx hb hw in_Y hown hK hP 0 rfl rfl 1 (by decide) (hw _ fl_Y_15) (fun _ h9 => h9) rfl d_Y_turnAfter_21 ?_
      refine lv_iconst (v := 1) hx hb d_Y_turnAfter_24 (by decide) ?_
      refine lv_iadd hx hb d_Y_turnAfter_25 ?_
      refine va_put (D := D) (ci := 2) (v := .int (e1 + 1)) (ty := .int) (C := "TimeWords$Years") (T := F_Y) (N := 4) hx hb hw in_Y ty_Y ty_Y_ok n_Y hown hK hP hD hS 0 rfl rfl 0 (by decide) (hw _ fl_Y_9) (fun _ h9 => h9) rfl (by decide +kernel) rfl rfl (Nat.le_of_ble_eq_true rfl) d_Y_turnAfter_26 (fun H locs hP hD hS => ?_)
      have hP : va_P D gC ([(yo, .inr (2, [.int (e1 + 1), .int e1, .int (b2i oF), .int (b2i oT)]))]) H := hP
      have hD : va_D A ([(yo, .inr (2, [.int (e1 + 1), .int e1, .int (b2i oF), .int (b2i oT)]))]) := hD
      refine lv_aload_n hx hb d_Y_turnAfter_29 rfl (lv_at hl 0 rfl) ?_
      refine lv_sipush (v := 9999) hx hb d_Y_turnAfter_30 (by decide) ?_
      refine va_put (D := D) (ci := 2) (v := .int 9999) (ty := .int) (C := "TimeWords$Years") (T := F_Y) (N := 4) hx hb hw in_Y ty_Y ty_Y_ok n_Y hown hK hP hD hS 0 rfl rfl 1 (by decide) (hw _ fl_Y_15) (fun _ h9 => h9) rfl (by decide +kernel) rfl rfl (Nat.le_of_ble_eq_true rfl) d_Y_turnAfter_33 (fun H locs hP hD hS => ?_)
      have hP : va_P D gC ([(yo, .inr (2, [.int (e1 + 1), .int 9999, .int (b2i oF), .int (b2i oT)]))]) H := hP
      have hD : va_D A ([(yo, .inr (2, [.int (e1 + 1), .int 9999, .int (b2i oF), .int (b2i oT)]))]) := hD
      refine lv_aload_n hx hb d_Y_turnAfter_36 rfl (lv_at hl 0 rfl) ?_
      refine lv_iconst (v := 1) hx hb d_Y_turnAfter_37 (by decide) ?_
      refine va_put (D := D) (ci := 2) (v := .int 1) (ty := .boolean) (C := "TimeWords$Years") (T := F_Y) (N := 4) hx hb hw in_Y ty_Y ty_Y_ok n_Y hown hK hP hD hS 0 rfl rfl 3 (by decide) (hw _ fl_Y_22) (fun _ h9 => h9) rfl (by decide +kernel) rfl rfl (Nat.le_of_ble_eq_true rfl) d_Y_turnAfter_38 (fun H locs hP hD hS => ?_)
      have hP : va_P D gC ([(yo, .inr (2, [.int (e1 + 1), .int 9999, .int (b2i oF), .int 1]))]) H := hP
      have hD : va_D A ([(yo, .inr (2, [.int (e1 + 1), .int 9999, .int (b2i oF), .int 1]))]) := hD
      refine lv_iconst (v := 1) hx hb d_Y_turnAfter_41 (by decide) ?_
      exact W.zret (v := 1) hx hb hr rfl (fun t ht hW => ⟨⟨1, (e1 + 1, 9999, 1), rfl, (Or.inl ⟨c2, c3, rfl, rfl, rfl, rfl⟩), by rw [ht]; exact hP, va_K.moved hW.alike hK, hD⟩, hS.F ht⟩) hS.2.2 d_Y_turnAfter_42
    · refine lv_iconst (v := 0) hx hb d_Y_turnAfter_17 (by decide) ?_
      exact W.zret (v := 0) hx hb hr rfl (fun t ht hW => ⟨⟨0, (e0, e1, b2i oT), rfl, (Or.inr ⟨Or.inr c3, rfl, rfl, rfl, rfl⟩), by rw [ht]; exact hP, va_K.moved hW.alike hK, hD⟩, hS.F ht⟩) hS.2.2 d_Y_turnAfter_18

set_option maxHeartbeats 4000000 in
set_option maxRecDepth 100000 in
theorem k_R_at (l : Launch) (D : va_G) (T : gT) (ro ra k n : Nat) (f : Nat → Int32) (x : Int32) (hy0 : k ≤ n) (hy1 : n ≤ 24) : Met l y_R_at (Cond.code y_R_at b_R_at 2 (some .int) :: bg_W) ({ frames := 0, cells := 0, slots := 0, locals := 0 }) (sP D T ([(ro, .inr (1, [.ref ra, .int (nI k)])), (ra, .inl (T.1, n, .inl f))]) [.ref ro, .int x]) (vp_Si (fun r : Int32 => r = j_at k f x)) 0 0 (fun _ => False) := by
  refine Met.ofW (cc := b_R_at) (maxL := 2) (ret := (some .int)) (by decide) rfl ?_
  intro p e s m args below meth c s₁ B hml hv
  obtain ⟨rfl, hP, hK⟩ := hv
  have hx := B.exec
  have hb := B.bytes
  have hr := B.returns
  have hw : ∀ w ∈ bg_W, w.before ([.ref ro, .int x] : List Value).toArray s = true := fun w h => atoms_spec (ws := (Cond.code y_R_at b_R_at 2 (some .int) :: bg_W)) B.pre w (List.mem_cons_of_mem _ h)
  have hown : s.vm.findClass "TimeWords$Row" = some m.cls := findClass_of_methodNamed B.named
  have hlocks := B.notSynchronized
  have hl := lv_entry ([.ref ro, .int x]) (n := 2) (Nat.le_of_ble_eq_true rfl)
  rw [lg_entry_eq]
  generalize (lg_sl ([.ref ro, .int x]) ++ List.replicate (2 - (lg_sl ([.ref ro, .int x])).length) Slot.unset).toArray = ls at hl ⊢
  have hl : lv_has ls 2 [(0, .ref ro), (1, .int x)] := hl
  refine lv_iload_n hx hb d_R_at_0 rfl (lv_at hl 1 rfl) ?_
  refine lv_if_lt (tgt := 30) hx hb d_R_at_1 (by decide) (fun c1 => ?_) (fun c1 => ?_)
  · refine lv_iconst (v := (-1)) hx hb d_R_at_30 (by decide) ?_
    exact W.iret (v := (-1)) hx hb hr (fun t ht hW => ⟨(-1), rfl, (by simp only [j_at, if_pos c1, decide_eq_true c1]), ht⟩) (fun _ h => nomatch h) d_R_at_31
  · refine lv_iload_n hx hb d_R_at_4 rfl (lv_at hl 1 rfl) ?_
    refine lv_aload_n hx hb d_R_at_5 rfl (lv_at hl 0 rfl) ?_
    refine va_get (D := D) (ci := 1) (v := .int (nI k)) (C := "TimeWords$Row") (T := F_R) (N := 2) hx hb hw in_R hown hK hP 0 rfl rfl 1 (by decide) (hw _ fl_R_15) (fun _ h9 => h9) rfl d_R_at_6 ?_
    refine lv_icmp_ge (tgt := 30) hx hb d_R_at_9 (by decide) (fun c2 => ?_) (fun c2 => ?_)
    · refine lv_iconst (v := (-1)) hx hb d_R_at_30 (by decide) ?_
      exact W.iret (v := (-1)) hx hb hr (fun t ht hW => ⟨(-1), rfl, (by simp only [j_at, if_neg c1, decide_eq_false c1, if_pos c2, decide_eq_true c2]), ht⟩) (fun _ h => nomatch h) d_R_at_31
    · refine lv_iload_n hx hb d_R_at_12 rfl (lv_at hl 1 rfl) ?_
      refine lv_aload_n hx hb d_R_at_13 rfl (lv_at hl 0 rfl) ?_
      refine va_get (D := D) (ci := 1) (v := .ref ra) (C := "TimeWords$Row") (T := F_R) (N := 2) hx hb hw in_R hown hK hP 0 rfl rfl 0 (by decide) (hw _ fl_R_9) (fun _ h9 => h9) rfl d_R_at_14 ?_
      refine va_alen hx hb hK hP 1 0 rfl rfl (v := nI n) rfl d_R_at_17 ?_
      refine lv_icmp_ge (tgt := 30) hx hb d_R_at_18 (by decide) (fun c3 => absurd c3 ((fun h9 => c2 (Int32.le_trans (nI_le hy0 (by omega)) h9)))) (fun c3 => ?_)
      refine lv_aload_n hx hb d_R_at_21 rfl (lv_at hl 0 rfl) ?_
      refine va_get (D := D) (ci := 1) (v := .ref ra) (C := "TimeWords$Row") (T := F_R) (N := 2) hx hb hw in_R hown hK hP 0 rfl rfl 0 (by decide) (hw _ fl_R_9) (fun _ h9 => h9) rfl d_R_at_22 ?_
      refine lv_iload_n hx hb d_R_at_25 rfl (lv_at hl 1 rfl) ?_
      refine va_iald hx hb hK hP 1 0 rfl rfl (fun h9 => h9.elim c1 (fun h8 => c2 (by have h7 := vp_big c1 h8; exact Int32.le_trans (nI_le hy0 (by omega)) h7))) d_R_at_26 ?_
      refine lv_goto (tgt := 31) hx hb d_R_at_27 (by decide) ?_
      exact W.iret (v := f x.toNatClampNeg) hx hb hr (fun t ht hW => ⟨f x.toNatClampNeg, rfl, (by simp only [j_at, if_neg c1, decide_eq_false c1, if_neg c2, decide_eq_false c2]), ht⟩) (fun _ h => nomatch h) d_R_at_31

set_option maxHeartbeats 4000000 in
set_option maxRecDepth 100000 in
theorem k_R_empty (l : Launch) (D : va_G) (T : gT) (ro ra k n : Nat) (f : Nat → Int32) (sz : Nat) : Met l y_R_empty (Cond.code y_R_empty b_R_empty 1 none :: bg_W) ({ frames := 0, cells := 0, slots := 0, locals := 0 }) (qP D T ([(ro, .inr (1, [.ref ra, .int (nI k)])), (ra, .inl (T.1, n, .inl f))]) [.ref ro] sz) (va_Qv (fun w1 : Int32 => w1 = 0) (qB D T (va_A ([(ro, .inr (1, [.ref ra, .int (nI k)])), (ra, .inl (T.1, n, .inl f))]) sz) (fun w1 : Int32 => [(ro, .inr (1, [.ref ra, .int w1])), (ra, .inl (T.1, n, .inl f))])) (va_A ([(ro, .inr (1, [.ref ra, .int (nI k)])), (ra, .inl (T.1, n, .inl f))]) sz)) 0 0 (va_A ([(ro, .inr (1, [.ref ra, .int (nI k)])), (ra, .inl (T.1, n, .inl f))]) sz) := by
  refine Met.ofW (cc := b_R_empty) (maxL := 1) (ret := none) (by decide) rfl ?_
  intro p e s m args below meth c s₁ B hml hv
  obtain ⟨rfl, hsz, hP, hK, hD0⟩ := hv
  have hx := B.exec
  have hb := B.bytes
  have hr := B.returns
  have hw : ∀ w ∈ bg_W, w.before ([.ref ro] : List Value).toArray s = true := fun w h => atoms_spec (ws := (Cond.code y_R_empty b_R_empty 1 none :: bg_W)) B.pre w (List.mem_cons_of_mem _ h)
  have hown : s.vm.findClass "TimeWords$Row" = some m.cls := findClass_of_methodNamed B.named
  have hlocks := B.notSynchronized
  subst hsz
  have hD := hD0.self (sz := s.heap.size)
  generalize hAe : va_A ([(ro, .inr (1, [.ref ra, .int (nI k)])), (ra, .inl (T.1, n, .inl f))]) s.heap.size = A at hD ⊢
  have hA : ∀ q : Nat, s.heap.size ≤ q → A q := fun q h => by rw [← hAe]; exact Or.inr h
  have hS : va_S A s.heap s.heap [] := va_S.rf
  have hl := lv_entry ([.ref ro]) (n := 1) (Nat.le_of_ble_eq_true rfl)
  rw [lg_entry_eq]
  generalize (lg_sl ([.ref ro]) ++ List.replicate (1 - (lg_sl ([.ref ro])).length) Slot.unset).toArray = ls at hl ⊢
  have hl : lv_has ls 1 [(0, .ref ro)] := hl
  refine lv_aload_n hx hb d_R_empty_0 rfl (lv_at hl 0 rfl) ?_
  refine lv_iconst (v := 0) hx hb d_R_empty_1 (by decide) ?_
  refine va_put (D := D) (ci := 1) (v := .int 0) (ty := .int) (C := "TimeWords$Row") (T := F_R) (N := 2) hx hb hw in_R ty_R ty_R_ok n_R hown hK hP hD hS 0 rfl rfl 1 (by decide) (hw _ fl_R_15) (fun _ h9 => h9) rfl (by decide +kernel) rfl rfl (Nat.le_of_ble_eq_true rfl) d_R_empty_2 (fun H locs hP hD hS => ?_)
  have hP : va_P D gC ([(ro, .inr (1, [.ref ra, .int 0])), (ra, .inl (T.1, n, .inl f))]) H := hP
  have hD : va_D A ([(ro, .inr (1, [.ref ra, .int 0])), (ra, .inl (T.1, n, .inl f))]) := hD
  exact W.vret hx hb hr (fun t ht hW => ⟨⟨0, rfl, rfl, by rw [ht]; exact hP, va_K.moved hW.alike hK, hD⟩, hS.F ht⟩) hS.2.2 d_R_empty_5

set_option maxHeartbeats 4000000 in
set_option maxRecDepth 100000 in
theorem k_R_add (l : Launch) (D : va_G) (T : gT) (ro ra k n : Nat) (f : Nat → Int32) (sz : Nat) (x : Int32) (hy0 : k < n) (hy1 : n ≤ 24) : Met l y_R_add (Cond.code y_R_add b_R_add 2 none :: bg_W) ({ frames := 0, cells := 0, slots := 0, locals := 0 }) (qP D T ([(ro, .inr (1, [.ref ra, .int (nI k)])), (ra, .inl (T.1, n, .inl f))]) [.ref ro, .int x] sz) (va_Qv (fun u : Int32 × (Nat → Int32) => match u with | (w1, g) => w1 = nI (k + 1) ∧ g = upd f k x) (qB D T (va_A ([(ro, .inr (1, [.ref ra, .int (nI k)])), (ra, .inl (T.1, n, .inl f))]) sz) (fun u : Int32 × (Nat → Int32) => match u with | (w1, g) => [(ro, .inr (1, [.ref ra, .int w1])), (ra, .inl (T.1, n, .inl g))])) (va_A ([(ro, .inr (1, [.ref ra, .int (nI k)])), (ra, .inl (T.1, n, .inl f))]) sz)) 0 0 (va_A ([(ro, .inr (1, [.ref ra, .int (nI k)])), (ra, .inl (T.1, n, .inl f))]) sz) := by
  refine Met.ofW (cc := b_R_add) (maxL := 2) (ret := none) (by decide) rfl ?_
  intro p e s m args below meth c s₁ B hml hv
  obtain ⟨rfl, hsz, hP, hK, hD0⟩ := hv
  have hx := B.exec
  have hb := B.bytes
  have hr := B.returns
  have hw : ∀ w ∈ bg_W, w.before ([.ref ro, .int x] : List Value).toArray s = true := fun w h => atoms_spec (ws := (Cond.code y_R_add b_R_add 2 none :: bg_W)) B.pre w (List.mem_cons_of_mem _ h)
  have hown : s.vm.findClass "TimeWords$Row" = some m.cls := findClass_of_methodNamed B.named
  have hlocks := B.notSynchronized
  subst hsz
  have hD := hD0.self (sz := s.heap.size)
  generalize hAe : va_A ([(ro, .inr (1, [.ref ra, .int (nI k)])), (ra, .inl (T.1, n, .inl f))]) s.heap.size = A at hD ⊢
  have hA : ∀ q : Nat, s.heap.size ≤ q → A q := fun q h => by rw [← hAe]; exact Or.inr h
  have hS : va_S A s.heap s.heap [] := va_S.rf
  have hl := lv_entry ([.ref ro, .int x]) (n := 2) (Nat.le_of_ble_eq_true rfl)
  rw [lg_entry_eq]
  generalize (lg_sl ([.ref ro, .int x]) ++ List.replicate (2 - (lg_sl ([.ref ro, .int x])).length) Slot.unset).toArray = ls at hl ⊢
  have hl : lv_has ls 2 [(0, .ref ro), (1, .int x)] := hl
  refine lv_aload_n hx hb d_R_add_0 rfl (lv_at hl 0 rfl) ?_
  refine va_get (D := D) (ci := 1) (v := .int (nI k)) (C := "TimeWords$Row") (T := F_R) (N := 2) hx hb hw in_R hown hK hP 0 rfl rfl 1 (by decide) (hw _ fl_R_15) (fun _ h9 => h9) rfl d_R_add_1 ?_
  refine lv_if_lt (tgt := 39) hx hb d_R_add_4 (by decide) (fun c1 => absurd c1 (nI_pos (by omega))) (fun c1 => ?_)
  refine lv_aload_n hx hb d_R_add_7 rfl (lv_at hl 0 rfl) ?_
  refine va_get (D := D) (ci := 1) (v := .int (nI k)) (C := "TimeWords$Row") (T := F_R) (N := 2) hx hb hw in_R hown hK hP 0 rfl rfl 1 (by decide) (hw _ fl_R_15) (fun _ h9 => h9) rfl d_R_add_8 ?_
  refine lv_aload_n hx hb d_R_add_11 rfl (lv_at hl 0 rfl) ?_
  refine va_get (D := D) (ci := 1) (v := .ref ra) (C := "TimeWords$Row") (T := F_R) (N := 2) hx hb hw in_R hown hK hP 0 rfl rfl 0 (by decide) (hw _ fl_R_9) (fun _ h9 => h9) rfl d_R_add_12 ?_
  refine va_alen hx hb hK hP 1 0 rfl rfl (v := nI n) rfl d_R_add_15 ?_
  refine lv_icmp_ge (tgt := 39) hx hb d_R_add_16 (by decide) (fun c2 => absurd c2 (nI_ge hy0 (by omega))) (fun c2 => ?_)
  refine lv_aload_n hx hb d_R_add_19 rfl (lv_at hl 0 rfl) ?_
  refine va_get (D := D) (ci := 1) (v := .ref ra) (C := "TimeWords$Row") (T := F_R) (N := 2) hx hb hw in_R hown hK hP 0 rfl rfl 0 (by decide) (hw _ fl_R_9) (fun _ h9 => h9) rfl d_R_add_20 ?_
  refine lv_aload_n hx hb d_R_add_23 rfl (lv_at hl 0 rfl) ?_
  refine va_get (D := D) (ci := 1) (v := .int (nI k)) (C := "TimeWords$Row") (T := F_R) (N := 2) hx hb hw in_R hown hK hP 0 rfl rfl 1 (by decide) (hw _ fl_R_15) (fun _ h9 => h9) rfl d_R_add_24 ?_
  refine lv_iload_n hx hb d_R_add_27 rfl (lv_at hl 1 rfl) ?_
  refine va_iast hx hb hK hP hD hS 1 0 rfl rfl (by first | assumption | exact vp_in_nI (by omega) (by omega)) d_R_add_28 (fun H locs hP hD hS => ?_)
  rw [show (nI k).toNatClampNeg = k from nI_clamp (by omega)] at hP hD
  have hP : va_P D gC ([(ro, .inr (1, [.ref ra, .int (nI k)])), (ra, .inl (T.1, n, .inl (upd f k x)))]) H := hP
  have hD : va_D A ([(ro, .inr (1, [.ref ra, .int (nI k)])), (ra, .inl (T.1, n, .inl (upd f k x)))]) := hD
  refine lv_aload_n hx hb d_R_add_29 rfl (lv_at hl 0 rfl) ?_
  refine lv_dup hx hb d_R_add_30 rfl ?_
  refine va_get (D := D) (ci := 1) (v := .int (nI k)) (C := "TimeWords$Row") (T := F_R) (N := 2) hx hb hw in_R hown hK hP 0 rfl rfl 1 (by decide) (hw _ fl_R_15) (fun _ h9 => h9) rfl d_R_add_31 ?_
  refine lv_iconst (v := 1) hx hb d_R_add_34 (by decide) ?_
  refine lv_iadd hx hb d_R_add_35 ?_
  rw [nI_1]
  refine va_put (D := D) (ci := 1) (v := .int (nI (k + 1))) (ty := .int) (C := "TimeWords$Row") (T := F_R) (N := 2) hx hb hw in_R ty_R ty_R_ok n_R hown hK hP hD hS 0 rfl rfl 1 (by decide) (hw _ fl_R_15) (fun _ h9 => h9) rfl (by decide +kernel) rfl rfl (Nat.le_of_ble_eq_true rfl) d_R_add_36 (fun H locs hP hD hS => ?_)
  have hP : va_P D gC ([(ro, .inr (1, [.ref ra, .int (nI (k + 1))])), (ra, .inl (T.1, n, .inl (upd f k x)))]) H := hP
  have hD : va_D A ([(ro, .inr (1, [.ref ra, .int (nI (k + 1))])), (ra, .inl (T.1, n, .inl (upd f k x)))]) := hD
  exact W.vret hx hb hr (fun t ht hW => ⟨⟨(nI (k + 1), upd f k x), rfl, ⟨rfl, rfl⟩, by rw [ht]; exact hP, va_K.moved hW.alike hK, hD⟩, hS.F ht⟩) hS.2.2 d_R_add_39

set_option maxHeartbeats 4000000 in
set_option maxRecDepth 100000 in
theorem k_R_addRow (l : Launch) (D : va_G) (T : gT) (ro ra k n : Nat) (f : Nat → Int32) (roq raq kq nq : Nat) (fq : Nat → Int32) (sz : Nat) (hy0 : k + kq ≤ n) (hy1 : n ≤ 24) (hy2 : kq ≤ nq) (hy3 : nq ≤ 24) : Met l y_R_addRow (Cond.code y_R_addRow b_R_addRow 3 none :: bg_W) ({ frames := 1, cells := 0, slots := 0, locals := 21 }) (qP D T ([(ro, .inr (1, [.ref ra, .int (nI k)])), (ra, .inl (T.1, n, .inl f)), (roq, .inr (1, [.ref raq, .int (nI kq)])), (raq, .inl (T.1, nq, .inl fq))]) [.ref ro, .ref roq] sz) (va_Qv (fun u : Int32 × (Nat → Int32) => match u with | (w1, g) => w1 = nI (k + kq) ∧ cpI f fq g k kq) (qB D T (va_A ([(ro, .inr (1, [.ref ra, .int (nI k)])), (ra, .inl (T.1, n, .inl f)), (roq, .inr (1, [.ref raq, .int (nI kq)])), (raq, .inl (T.1, nq, .inl fq))]) sz) (fun u : Int32 × (Nat → Int32) => match u with | (w1, g) => [(ro, .inr (1, [.ref ra, .int w1])), (ra, .inl (T.1, n, .inl g)), (roq, .inr (1, [.ref raq, .int (nI kq)])), (raq, .inl (T.1, nq, .inl fq))])) (va_A ([(ro, .inr (1, [.ref ra, .int (nI k)])), (ra, .inl (T.1, n, .inl f)), (roq, .inr (1, [.ref raq, .int (nI kq)])), (raq, .inl (T.1, nq, .inl fq))]) sz)) 0 0 (va_A ([(ro, .inr (1, [.ref ra, .int (nI k)])), (ra, .inl (T.1, n, .inl f)), (roq, .inr (1, [.ref raq, .int (nI kq)])), (raq, .inl (T.1, nq, .inl fq))]) sz) := by
  refine Met.ofW (cc := b_R_addRow) (maxL := 3) (ret := none) (by decide) rfl ?_
  intro p e s m args below meth c s₁ B hml hv
  obtain ⟨rfl, hsz, hP, hK, hD0⟩ := hv
  have hx := B.exec
  have hb := B.bytes
  have hr := B.returns
  have hw : ∀ w ∈ bg_W, w.before ([.ref ro, .ref roq] : List Value).toArray s = true := fun w h => atoms_spec (ws := (Cond.code y_R_addRow b_R_addRow 3 none :: bg_W)) B.pre w (List.mem_cons_of_mem _ h)
  have hown : s.vm.findClass "TimeWords$Row" = some m.cls := findClass_of_methodNamed B.named
  have hlocks := B.notSynchronized
  subst hsz
  have hD := hD0.self (sz := s.heap.size)
  generalize hAe : va_A ([(ro, .inr (1, [.ref ra, .int (nI k)])), (ra, .inl (T.1, n, .inl f)), (roq, .inr (1, [.ref raq, .int (nI kq)])), (raq, .inl (T.1, nq, .inl fq))]) s.heap.size = A at hD ⊢
  have hA : ∀ q : Nat, s.heap.size ≤ q → A q := fun q h => by rw [← hAe]; exact Or.inr h
  have hS : va_S A s.heap s.heap [] := va_S.rf
  have hl := lv_entry ([.ref ro, .ref roq]) (n := 3) (Nat.le_of_ble_eq_true rfl)
  rw [lg_entry_eq]
  generalize (lg_sl ([.ref ro, .ref roq]) ++ List.replicate (3 - (lg_sl ([.ref ro, .ref roq])).length) Slot.unset).toArray = ls at hl ⊢
  have hl : lv_has ls 3 [(0, .ref ro), (1, .ref roq)] := hl
  refine lv_iconst (v := 0) hx hb d_R_addRow_0 (by decide) ?_
  refine lv_istore_n (lv' := [(2, .int 0), (0, .ref ro), (1, .ref roq)]) hx hb d_R_addRow_1 rfl hl (by decide) rfl (fun ls hl => ?_)
  have loop : ∀ (nf : Nat) (j : Nat) (g : Nat → Int32), (j ≤ kq) → (cpI f fq g k j) → ∀ (H : Heap) (locs : List Loc), va_P D gC ([(ro, .inr (1, [.ref ra, .int (nI (k + j))])), (ra, .inl (T.1, n, .inl g)), (roq, .inr (1, [.ref raq, .int (nI kq)])), (raq, .inl (T.1, nq, .inl fq))]) H → va_D A ([(ro, .inr (1, [.ref ra, .int (nI (k + j))])), (ra, .inl (T.1, n, .inl g)), (roq, .inr (1, [.ref raq, .int (nI kq)])), (raq, .inl (T.1, nq, .inl fq))]) → va_S A s.heap H locs → ∀ (ls : Array Slot), lv_has ls 3 [(0, .ref ro), (1, .ref roq), (2, .int (nI j))] → kq - j < nf → W p l e (headSpec (Cond.code y_R_addRow b_R_addRow 3 none :: bg_W) ({ frames := 1, cells := 0, slots := 0, locals := 21 })).room s m ([.ref ro, .ref roq] : List Value).toArray below meth c H locs 0 0 (MQ below (va_Qv (fun u : Int32 × (Nat → Int32) => match u with | (w1, g) => w1 = nI (k + kq) ∧ cpI f fq g k kq) (qB D T A (fun u : Int32 × (Nat → Int32) => match u with | (w1, g) => [(ro, .inr (1, [.ref ra, .int w1])), (ra, .inl (T.1, n, .inl g)), (roq, .inr (1, [.ref raq, .int (nI kq)])), (raq, .inl (T.1, nq, .inl fq))])) A) ([.ref ro, .ref roq] : List Value).toArray s 0 0 A) (F0 m 2 ls []) := by
    intro nf
    induction nf with
    | zero => intro j g hj hC H locs hP hD hS ls hl hm; exact absurd hm (Nat.not_lt_zero _)
    | succ nf ih =>
      intro j g hj hC H locs hP hD hS ls hl hm
      refine lv_iload_n hx hb d_R_addRow_2 rfl (lv_at hl 2 rfl) ?_
      refine lv_aload_n hx hb d_R_addRow_3 rfl (lv_at hl 1 rfl) ?_
      refine va_get (D := D) (ci := 1) (v := .int (nI kq)) (C := "TimeWords$Row") (T := F_R) (N := 2) hx hb hw in_R hown hK hP 2 rfl rfl 1 (by decide) (hw _ fl_R_15) (fun _ h9 => h9) rfl d_R_addRow_4 ?_
      refine lv_icmp_ge (tgt := 25) hx hb d_R_addRow_7 (by decide) (fun c1 => ?_) (fun c1 => ?_)
      · have c1 := nc_le (a := kq) (b := j) c1 (by omega) (by omega)
        exact W.vret hx hb hr (fun t ht hW => ⟨⟨(nI (k + j), g), rfl, (by have e9 : j = kq := (by omega); subst e9; exact ⟨rfl, hC⟩), by rw [ht]; exact hP, va_K.moved hW.alike hK, hD⟩, hS.F ht⟩) hS.2.2 d_R_addRow_25
      · have c1 := nc_nle (a := kq) (b := j) c1 (by omega) (by omega)
        refine lv_aload_n hx hb d_R_addRow_10 rfl (lv_at hl 0 rfl) ?_
        refine lv_aload_n hx hb d_R_addRow_11 rfl (lv_at hl 1 rfl) ?_
        refine lv_iload_n hx hb d_R_addRow_12 rfl (lv_at hl 2 rfl) ?_
        have hPc : va_P D gC [(roq, .inr (1, [.ref raq, .int (nI kq)])), (raq, .inl (T.1, nq, .inl fq))] H := (pc1 (hP 2 _ rfl) (pc1 (hP 3 _ rfl) pc0))
        refine vp_callSi (va_Run.run (va_runV (As := [.int (nI j)]) (rest := [.ref ro]) ⟨hx, hb, hml, hown, hw⟩ (k_R_at l D T roq raq kq nq fq (nI j) hy2 hy3) (cwV 1 hw (bg_V ml_R_32 wi_R_at wv_R_at wz_R wc_R_at) rfl rfl rfl (by decide +kernel) ⟨Nat.le_of_ble_eq_true rfl, Nat.le_of_ble_eq_true rfl⟩) ⟨sP_b, va_recv hK hPc (ci := 1) (q0 := 0) rfl rfl, sP_p hPc hK⟩ rfl rfl hl.1 rfl (lv_room (Nat.le_of_ble_eq_true rfl)) d_R_addRow_13 ⟨Nat.le_of_ble_eq_true rfl, Nat.le_of_ble_eq_true rfl⟩)) (fun r2 hr2 => ?_)
        replace hr2 := hr2.symm; subst hr2
        rw [at_in (by omega) (by omega)]
        have hPc : va_P D gC [(ro, .inr (1, [.ref ra, .int (nI (k + j))])), (ra, .inl (T.1, n, .inl g))] H := (pc1 (hP 0 _ rfl) (pc1 (hP 1 _ rfl) pc0))
        have hDc : va_D A [(ro, .inr (1, [.ref ra, .int (nI (k + j))])), (ra, .inl (T.1, n, .inl g))] := (hD.sub (ws' := [(ro, .inr (1, [.ref ra, .int (nI (k + j))])), (ra, .inl (T.1, n, .inl g))]) [0, 1] (by decide) rfl)
        refine g_subv (X := [(ro, .inr (1, [.ref ra, .int (nI (k + j))])), (ra, .inl (T.1, n, .inl g)), (roq, .inr (1, [.ref raq, .int (nI kq)])), (raq, .inl (T.1, nq, .inl fq))]) (pl := []) (wr := [(roq, .inr (1, [.ref raq, .int (nI kq)])), (raq, .inl (T.1, nq, .inl fq))]) (cx := [(ro, .inr (1, [.ref ra, .int (nI (k + j))])), (ra, .inl (T.1, n, .inl g))]) (va_runV (As := [.int (fq j)]) (rest := []) ⟨hx, hb, hml, hown, hw⟩ (k_R_add l D T ro ra (k + j) n g H.size (fq j) (by omega) hy1) (cwV 1 hw (bg_V ml_R_28 wi_R_add wv_R_add wz_R wc_R_add) rfl rfl rfl (by decide +kernel) ⟨Nat.le_of_ble_eq_true rfl, Nat.le_of_ble_eq_true rfl⟩) ⟨qP_b, va_recv hK hPc (ci := 1) (q0 := 0) rfl rfl, qP_p hPc hK hDc⟩ rfl rfl hl.1 rfl (lv_room (Nat.le_of_ble_eq_true rfl)) d_R_addRow_16 ⟨Nat.le_of_ble_eq_true rfl, Nat.le_of_ble_eq_true rfl⟩) (by rw [List.append_nil]; exact hP) (by rw [List.append_nil]; exact hD) hS hA [0, 1] [2, 3] rfl rfl (by decide) (by decide) (fun u9 H locs hr3 hP hD hS => ?_)
        obtain ⟨u4, u5⟩ := u9
        dsimp only at hr3 hP hD
        obtain ⟨q0, q1⟩ := hr3
        replace q0 := q0.symm; subst q0; replace q1 := q1.symm; subst q1
        have hP : va_P D gC ([(ro, .inr (1, [.ref ra, .int (nI ((k + j) + 1))])), (ra, .inl (T.1, n, .inl (upd g (k + j) (fq j)))), (roq, .inr (1, [.ref raq, .int (nI kq)])), (raq, .inl (T.1, nq, .inl fq))]) H := hP.sub [2, 3, 0, 1] rfl
        have hD : va_D A ([(ro, .inr (1, [.ref ra, .int (nI ((k + j) + 1))])), (ra, .inl (T.1, n, .inl (upd g (k + j) (fq j)))), (roq, .inr (1, [.ref raq, .int (nI kq)])), (raq, .inl (T.1, nq, .inl fq))]) := hD.sub [2, 3, 0, 1] (by decide) rfl
        refine lv_iinc (v := nI (j + 1)) (lv' := [(2, .int (nI (j + 1))), (0, .ref ro), (1, .ref roq)]) hx hb d_R_addRow_19 hl (k := 2) rfl (nI_add j 1) (by decide) rfl (fun ls hl => ?_)
        refine lv_goto (tgt := 2) hx hb d_R_addRow_22 (by decide) ?_
        exact ih (j + 1) (upd g (k + j) (fq j)) (by omega) (cpI_s hC) _ _ hP hD hS ls (lv_sub hl [1, 2, 0] rfl) (by omega)
  exact loop ((kq - 0) + 1) 0 f (Nat.zero_le _) cpI_0 _ _ hP hD hS ls (lv_sub hl [1, 2, 0] rfl) (Nat.lt_succ_self _)

set_option maxHeartbeats 4000000 in
set_option maxRecDepth 100000 in
theorem k_R_endsWith (l : Launch) (D : va_G) (T : gT) (ro ra k n : Nat) (f : Nat → Int32) (roq raq kq nq : Nat) (fq : Nat → Int32) (t9 : Nat) (hy0 : k ≤ n) (hy1 : n ≤ 24) (hy2 : kq ≤ nq) (hy3 : nq ≤ 24) (hy4 : t9 ≤ k) : Met l y_R_endsWith (Cond.code y_R_endsWith b_R_endsWith 4 (some .boolean) :: bg_W) ({ frames := 1, cells := 0, slots := 0, locals := 21 }) (sP D T ([(ro, .inr (1, [.ref ra, .int (nI k)])), (ra, .inl (T.1, n, .inl f)), (roq, .inr (1, [.ref raq, .int (nI kq)])), (raq, .inl (T.1, nq, .inl fq))]) [.ref ro, .int (nI t9), .ref roq]) (vp_Si (fun r : Int32 => (r = 1 ∧ kq + t9 = k ∧ ∀ i, i < kq → fq i = f (t9 + i)) ∨ (r = 0 ∧ ¬ (kq + t9 = k ∧ ∀ i, i < kq → fq i = f (t9 + i))))) 0 0 (fun _ => False) := by
  refine Met.ofW (cc := b_R_endsWith) (maxL := 4) (ret := (some .boolean)) (by decide) rfl ?_
  intro p e s m args below meth c s₁ B hml hv
  obtain ⟨rfl, hP, hK⟩ := hv
  have hx := B.exec
  have hb := B.bytes
  have hr := B.returns
  have hw : ∀ w ∈ bg_W, w.before ([.ref ro, .int (nI t9), .ref roq] : List Value).toArray s = true := fun w h => atoms_spec (ws := (Cond.code y_R_endsWith b_R_endsWith 4 (some .boolean) :: bg_W)) B.pre w (List.mem_cons_of_mem _ h)
  have hown : s.vm.findClass "TimeWords$Row" = some m.cls := findClass_of_methodNamed B.named
  have hlocks := B.notSynchronized
  have hl := lv_entry ([.ref ro, .int (nI t9), .ref roq]) (n := 4) (Nat.le_of_ble_eq_true rfl)
  rw [lg_entry_eq]
  generalize (lg_sl ([.ref ro, .int (nI t9), .ref roq]) ++ List.replicate (4 - (lg_sl ([.ref ro, .int (nI t9), .ref roq])).length) Slot.unset).toArray = ls at hl ⊢
  have hl : lv_has ls 4 [(0, .ref ro), (1, .int (nI t9)), (2, .ref roq)] := hl
  refine lv_aload_n hx hb d_R_endsWith_0 rfl (lv_at hl 0 rfl) ?_
  refine va_get (D := D) (ci := 1) (v := .int (nI k)) (C := "TimeWords$Row") (T := F_R) (N := 2) hx hb hw in_R hown hK hP 0 rfl rfl 1 (by decide) (hw _ fl_R_15) (fun _ h9 => h9) rfl d_R_endsWith_1 ?_
  refine lv_iload_n hx hb d_R_endsWith_4 rfl (lv_at hl 1 rfl) ?_
  refine lv_isub hx hb d_R_endsWith_5 ?_
  rw [show (nI k) - (nI t9) = nI (k - t9) from pk_sub (a := k) (b := t9) (by omega)]
  refine lv_aload_n hx hb d_R_endsWith_6 rfl (lv_at hl 2 rfl) ?_
  refine va_get (D := D) (ci := 1) (v := .int (nI kq)) (C := "TimeWords$Row") (T := F_R) (N := 2) hx hb hw in_R hown hK hP 2 rfl rfl 1 (by decide) (hw _ fl_R_15) (fun _ h9 => h9) rfl d_R_endsWith_7 ?_
  refine lv_icmp_eq (tgt := 15) hx hb d_R_endsWith_10 (by decide) (fun c1 => ?_) (fun c1 => ?_)
  · have c1 := nc_eq (a := k - t9) (b := kq) c1 (by omega) (by omega)
    refine lv_iconst (v := 0) hx hb d_R_endsWith_15 (by decide) ?_
    refine lv_istore_n (lv' := [(3, .int 0), (0, .ref ro), (1, .int (nI t9)), (2, .ref roq)]) hx hb d_R_endsWith_16 rfl hl (by decide) rfl (fun ls hl => ?_)
    have hlen : kq + t9 = k := by omega
    have loop : ∀ (nf : Nat) (j : Nat), (j ≤ kq) → (∀ i, i < j → fq i = f (t9 + i)) → ∀ (ls : Array Slot), lv_has ls 4 [(0, .ref ro), (1, .int (nI t9)), (2, .ref roq), (3, .int (nI j))] → kq - j < nf → W p l e (headSpec (Cond.code y_R_endsWith b_R_endsWith 4 (some .boolean) :: bg_W) ({ frames := 1, cells := 0, slots := 0, locals := 21 })).room s m ([.ref ro, .int (nI t9), .ref roq] : List Value).toArray below meth c s.heap [] 0 0 (MQ below (vp_Si (fun r : Int32 => (r = 1 ∧ kq + t9 = k ∧ ∀ i, i < kq → fq i = f (t9 + i)) ∨ (r = 0 ∧ ¬ (kq + t9 = k ∧ ∀ i, i < kq → fq i = f (t9 + i))))) ([.ref ro, .int (nI t9), .ref roq] : List Value).toArray s 0 0 (fun _ => False)) (F0 m 17 ls []) := by
      intro nf
      induction nf with
      | zero => intro j hj hE ls hl hm; exact absurd hm (Nat.not_lt_zero _)
      | succ nf ih =>
        intro j hj hE ls hl hm
        refine lv_iload_n hx hb d_R_endsWith_17 rfl (lv_at hl 3 rfl) ?_
        refine lv_aload_n hx hb d_R_endsWith_18 rfl (lv_at hl 2 rfl) ?_
        refine va_get (D := D) (ci := 1) (v := .int (nI kq)) (C := "TimeWords$Row") (T := F_R) (N := 2) hx hb hw in_R hown hK hP 2 rfl rfl 1 (by decide) (hw _ fl_R_15) (fun _ h9 => h9) rfl d_R_endsWith_19 ?_
        refine lv_icmp_ge (tgt := 48) hx hb d_R_endsWith_22 (by decide) (fun c2 => ?_) (fun c2 => ?_)
        · have c2 := nc_le (a := kq) (b := j) c2 (by omega) (by omega)
          refine lv_iconst (v := 1) hx hb d_R_endsWith_48 (by decide) ?_
          exact W.zret (v := 1) hx hb hr rfl (fun t ht hW => ⟨1, rfl, (Or.inl ⟨rfl, hlen, fun i hi => hE i (by omega)⟩), ht⟩) (fun _ h => nomatch h) d_R_endsWith_49
        · have c2 := nc_nle (a := kq) (b := j) c2 (by omega) (by omega)
          refine lv_aload_n hx hb d_R_endsWith_25 rfl (lv_at hl 0 rfl) ?_
          refine lv_iload_n hx hb d_R_endsWith_26 rfl (lv_at hl 1 rfl) ?_
          refine lv_iload_n hx hb d_R_endsWith_27 rfl (lv_at hl 3 rfl) ?_
          refine lv_iadd hx hb d_R_endsWith_28 ?_
          rw [show (nI t9) + (nI j) = nI (t9 + j) from nI_add t9 j]
          have hPc : va_P D gC [(ro, .inr (1, [.ref ra, .int (nI k)])), (ra, .inl (T.1, n, .inl f))] s.heap := (pc1 (hP 0 _ rfl) (pc1 (hP 1 _ rfl) pc0))
          refine vp_callSi (va_Run.run (va_runV (As := [.int (nI (t9 + j))]) (rest := []) ⟨hx, hb, hml, hown, hw⟩ (k_R_at l D T ro ra k n f (nI (t9 + j)) hy0 hy1) (cwV 1 hw (bg_V ml_R_32 wi_R_at wv_R_at wz_R wc_R_at) rfl rfl rfl (by decide +kernel) ⟨Nat.le_of_ble_eq_true rfl, Nat.le_of_ble_eq_true rfl⟩) ⟨sP_b, va_recv hK hPc (ci := 1) (q0 := 0) rfl rfl, sP_p hPc hK⟩ rfl rfl hl.1 rfl (lv_room (Nat.le_of_ble_eq_true rfl)) d_R_endsWith_29 ⟨Nat.le_of_ble_eq_true rfl, Nat.le_of_ble_eq_true rfl⟩)) (fun r3 hr3 => ?_)
          replace hr3 := hr3.symm; subst hr3
          rw [at_in (by omega) (by omega)]
          refine lv_aload_n hx hb d_R_endsWith_32 rfl (lv_at hl 2 rfl) ?_
          refine lv_iload_n hx hb d_R_endsWith_33 rfl (lv_at hl 3 rfl) ?_
          have hPc : va_P D gC [(roq, .inr (1, [.ref raq, .int (nI kq)])), (raq, .inl (T.1, nq, .inl fq))] s.heap := (pc1 (hP 2 _ rfl) (pc1 (hP 3 _ rfl) pc0))
          refine vp_callSi (va_Run.run (va_runV (As := [.int (nI j)]) (rest := [.int (f (t9 + j))]) ⟨hx, hb, hml, hown, hw⟩ (k_R_at l D T roq raq kq nq fq (nI j) hy2 hy3) (cwV 1 hw (bg_V ml_R_32 wi_R_at wv_R_at wz_R wc_R_at) rfl rfl rfl (by decide +kernel) ⟨Nat.le_of_ble_eq_true rfl, Nat.le_of_ble_eq_true rfl⟩) ⟨sP_b, va_recv hK hPc (ci := 1) (q0 := 0) rfl rfl, sP_p hPc hK⟩ rfl rfl hl.1 rfl (lv_room (Nat.le_of_ble_eq_true rfl)) d_R_endsWith_34 ⟨Nat.le_of_ble_eq_true rfl, Nat.le_of_ble_eq_true rfl⟩)) (fun r4 hr4 => ?_)
          replace hr4 := hr4.symm; subst hr4
          rw [at_in (by omega) (by omega)]
          refine lv_icmp_eq (tgt := 42) hx hb d_R_endsWith_37 (by decide) (fun c5 => ?_) (fun c5 => ?_)
          · refine lv_iinc (v := nI (j + 1)) (lv' := [(3, .int (nI (j + 1))), (0, .ref ro), (1, .int (nI t9)), (2, .ref roq)]) hx hb d_R_endsWith_42 hl (k := 3) rfl (nI_add j 1) (by decide) rfl (fun ls hl => ?_)
            refine lv_goto (tgt := 17) hx hb d_R_endsWith_45 (by decide) ?_
            exact ih (j + 1) (by omega) (lt_s hE c5.symm) ls (lv_sub hl [1, 2, 3, 0] rfl) (by omega)
          · refine lv_iconst (v := 0) hx hb d_R_endsWith_40 (by decide) ?_
            exact W.zret (v := 0) hx hb hr rfl (fun t ht hW => ⟨0, rfl, (Or.inr ⟨rfl, fun q => c5 (q.2 j (by omega)).symm⟩), ht⟩) (fun _ h => nomatch h) d_R_endsWith_41
    exact loop ((kq - 0) + 1) 0 (Nat.zero_le _) lt_0 ls (lv_sub hl [1, 2, 3, 0] rfl) (Nat.lt_succ_self _)
  · have c1 := nc_ne (a := k - t9) (b := kq) c1 (by omega) (by omega)
    refine lv_iconst (v := 0) hx hb d_R_endsWith_13 (by decide) ?_
    exact W.zret (v := 0) hx hb hr rfl (fun t ht hW => ⟨0, rfl, (Or.inr ⟨rfl, fun q => by have := q.1; omega⟩), ht⟩) (fun _ h => nomatch h) d_R_endsWith_14

set_option maxHeartbeats 4000000 in
set_option maxRecDepth 100000 in
theorem k_R_isAheadOf (l : Launch) (D : va_G) (T : gT) (ro ra k n : Nat) (f : Nat → Int32) (roq raq kq nq : Nat) (fq : Nat → Int32) (hy0 : k ≤ n) (hy1 : n ≤ 24) (hy2 : kq ≤ nq) (hy3 : nq ≤ 24) : Met l y_R_isAheadOf (Cond.code y_R_isAheadOf b_R_isAheadOf 3 (some .boolean) :: bg_W) ({ frames := 1, cells := 0, slots := 0, locals := 21 }) (sP D T ([(ro, .inr (1, [.ref ra, .int (nI k)])), (ra, .inl (T.1, n, .inl f)), (roq, .inr (1, [.ref raq, .int (nI kq)])), (raq, .inl (T.1, nq, .inl fq))]) [.ref ro, .ref roq]) (vp_Si (fun r : Int32 => (r = 1 ∧ j_sh f fq k kq) ∨ (r = 0 ∧ ¬ j_sh f fq k kq))) 0 0 (fun _ => False) := by
  refine Met.ofW (cc := b_R_isAheadOf) (maxL := 3) (ret := (some .boolean)) (by decide) rfl ?_
  intro p e s m args below meth c s₁ B hml hv
  obtain ⟨rfl, hP, hK⟩ := hv
  have hx := B.exec
  have hb := B.bytes
  have hr := B.returns
  have hw : ∀ w ∈ bg_W, w.before ([.ref ro, .ref roq] : List Value).toArray s = true := fun w h => atoms_spec (ws := (Cond.code y_R_isAheadOf b_R_isAheadOf 3 (some .boolean) :: bg_W)) B.pre w (List.mem_cons_of_mem _ h)
  have hown : s.vm.findClass "TimeWords$Row" = some m.cls := findClass_of_methodNamed B.named
  have hlocks := B.notSynchronized
  have hl := lv_entry ([.ref ro, .ref roq]) (n := 3) (Nat.le_of_ble_eq_true rfl)
  rw [lg_entry_eq]
  generalize (lg_sl ([.ref ro, .ref roq]) ++ List.replicate (3 - (lg_sl ([.ref ro, .ref roq])).length) Slot.unset).toArray = ls at hl ⊢
  have hl : lv_has ls 3 [(0, .ref ro), (1, .ref roq)] := hl
  refine lv_aload_n hx hb d_R_isAheadOf_0 rfl (lv_at hl 0 rfl) ?_
  refine va_get (D := D) (ci := 1) (v := .int (nI k)) (C := "TimeWords$Row") (T := F_R) (N := 2) hx hb hw in_R hown hK hP 0 rfl rfl 1 (by decide) (hw _ fl_R_15) (fun _ h9 => h9) rfl d_R_isAheadOf_1 ?_
  refine lv_aload_n hx hb d_R_isAheadOf_4 rfl (lv_at hl 1 rfl) ?_
  refine va_get (D := D) (ci := 1) (v := .int (nI kq)) (C := "TimeWords$Row") (T := F_R) (N := 2) hx hb hw in_R hown hK hP 2 rfl rfl 1 (by decide) (hw _ fl_R_15) (fun _ h9 => h9) rfl d_R_isAheadOf_5 ?_
  refine lv_icmp_eq (tgt := 28) hx hb d_R_isAheadOf_8 (by decide) (fun c1 => ?_) (fun c1 => ?_)
  · have c1 := nc_eq (a := k) (b := kq) c1 (by omega) (by omega)
    refine lv_iconst (v := 0) hx hb d_R_isAheadOf_28 (by decide) ?_
    refine lv_istore_n (lv' := [(2, .int 0), (0, .ref ro), (1, .ref roq)]) hx hb d_R_isAheadOf_29 rfl hl (by decide) rfl (fun ls hl => ?_)
    have hlen : k = kq := by omega
    have loop : ∀ (nf : Nat) (j : Nat), (j ≤ k) → (∀ i, i < j → f i = fq i) → ∀ (ls : Array Slot), lv_has ls 3 [(0, .ref ro), (1, .ref roq), (2, .int (nI j))] → k - j < nf → W p l e (headSpec (Cond.code y_R_isAheadOf b_R_isAheadOf 3 (some .boolean) :: bg_W) ({ frames := 1, cells := 0, slots := 0, locals := 21 })).room s m ([.ref ro, .ref roq] : List Value).toArray below meth c s.heap [] 0 0 (MQ below (vp_Si (fun r : Int32 => (r = 1 ∧ j_sh f fq k kq) ∨ (r = 0 ∧ ¬ j_sh f fq k kq))) ([.ref ro, .ref roq] : List Value).toArray s 0 0 (fun _ => False)) (F0 m 30 ls []) := by
      intro nf
      induction nf with
      | zero => intro j hj hE ls hl hm; exact absurd hm (Nat.not_lt_zero _)
      | succ nf ih =>
        intro j hj hE ls hl hm
        refine lv_iload_n hx hb d_R_isAheadOf_30 rfl (lv_at hl 2 rfl) ?_
        refine lv_aload_n hx hb d_R_isAheadOf_31 rfl (lv_at hl 0 rfl) ?_
        refine va_get (D := D) (ci := 1) (v := .int (nI k)) (C := "TimeWords$Row") (T := F_R) (N := 2) hx hb hw in_R hown hK hP 0 rfl rfl 1 (by decide) (hw _ fl_R_15) (fun _ h9 => h9) rfl d_R_isAheadOf_32 ?_
        refine lv_icmp_ge (tgt := 76) hx hb d_R_isAheadOf_35 (by decide) (fun c2 => ?_) (fun c2 => ?_)
        · have c2 := nc_le (a := k) (b := j) c2 (by omega) (by omega)
          refine lv_iconst (v := 0) hx hb d_R_isAheadOf_76 (by decide) ?_
          exact W.zret (v := 0) hx hb hr rfl (fun t ht hW => ⟨0, rfl, (Or.inr ⟨rfl, fun q => by
              rcases q with q | ⟨-, k2, q1, q2, q3⟩
              · omega
              · rcases Nat.lt_trichotomy k2 j with q4 | q4 | q4
                · rw [hE k2 q4] at q3; exact absurd q3 Int32.lt_irrefl
                · omega
                · omega⟩), ht⟩) (fun _ h => nomatch h) d_R_isAheadOf_77
        · have c2 := nc_nle (a := k) (b := j) c2 (by omega) (by omega)
          refine lv_aload_n hx hb d_R_isAheadOf_38 rfl (lv_at hl 0 rfl) ?_
          refine lv_iload_n hx hb d_R_isAheadOf_39 rfl (lv_at hl 2 rfl) ?_
          have hPc : va_P D gC [(ro, .inr (1, [.ref ra, .int (nI k)])), (ra, .inl (T.1, n, .inl f))] s.heap := (pc1 (hP 0 _ rfl) (pc1 (hP 1 _ rfl) pc0))
          refine vp_callSi (va_Run.run (va_runV (As := [.int (nI j)]) (rest := []) ⟨hx, hb, hml, hown, hw⟩ (k_R_at l D T ro ra k n f (nI j) hy0 hy1) (cwV 1 hw (bg_V ml_R_32 wi_R_at wv_R_at wz_R wc_R_at) rfl rfl rfl (by decide +kernel) ⟨Nat.le_of_ble_eq_true rfl, Nat.le_of_ble_eq_true rfl⟩) ⟨sP_b, va_recv hK hPc (ci := 1) (q0 := 0) rfl rfl, sP_p hPc hK⟩ rfl rfl hl.1 rfl (lv_room (Nat.le_of_ble_eq_true rfl)) d_R_isAheadOf_40 ⟨Nat.le_of_ble_eq_true rfl, Nat.le_of_ble_eq_true rfl⟩)) (fun r3 hr3 => ?_)
          replace hr3 := hr3.symm; subst hr3
          rw [at_in (by omega) (by omega)]
          refine lv_aload_n hx hb d_R_isAheadOf_43 rfl (lv_at hl 1 rfl) ?_
          refine lv_iload_n hx hb d_R_isAheadOf_44 rfl (lv_at hl 2 rfl) ?_
          have hPc : va_P D gC [(roq, .inr (1, [.ref raq, .int (nI kq)])), (raq, .inl (T.1, nq, .inl fq))] s.heap := (pc1 (hP 2 _ rfl) (pc1 (hP 3 _ rfl) pc0))
          refine vp_callSi (va_Run.run (va_runV (As := [.int (nI j)]) (rest := [.int (f j)]) ⟨hx, hb, hml, hown, hw⟩ (k_R_at l D T roq raq kq nq fq (nI j) hy2 hy3) (cwV 1 hw (bg_V ml_R_32 wi_R_at wv_R_at wz_R wc_R_at) rfl rfl rfl (by decide +kernel) ⟨Nat.le_of_ble_eq_true rfl, Nat.le_of_ble_eq_true rfl⟩) ⟨sP_b, va_recv hK hPc (ci := 1) (q0 := 0) rfl rfl, sP_p hPc hK⟩ rfl rfl hl.1 rfl (lv_room (Nat.le_of_ble_eq_true rfl)) d_R_isAheadOf_45 ⟨Nat.le_of_ble_eq_true rfl, Nat.le_of_ble_eq_true rfl⟩)) (fun r4 hr4 => ?_)
          replace hr4 := hr4.symm; subst hr4
          rw [at_in (by omega) (by omega)]
          refine lv_icmp_eq (tgt := 70) hx hb d_R_isAheadOf_48 (by decide) (fun c5 => ?_) (fun c5 => ?_)
          · refine lv_iinc (v := nI (j + 1)) (lv' := [(2, .int (nI (j + 1))), (0, .ref ro), (1, .ref roq)]) hx hb d_R_isAheadOf_70 hl (k := 2) rfl (nI_add j 1) (by decide) rfl (fun ls hl => ?_)
            refine lv_goto (tgt := 30) hx hb d_R_isAheadOf_73 (by decide) ?_
            exact ih (j + 1) (by omega) (lt_s hE c5) ls (lv_sub hl [1, 2, 0] rfl) (by omega)
          · refine lv_aload_n hx hb d_R_isAheadOf_51 rfl (lv_at hl 0 rfl) ?_
            refine lv_iload_n hx hb d_R_isAheadOf_52 rfl (lv_at hl 2 rfl) ?_
            have hPc : va_P D gC [(ro, .inr (1, [.ref ra, .int (nI k)])), (ra, .inl (T.1, n, .inl f))] s.heap := (pc1 (hP 0 _ rfl) (pc1 (hP 1 _ rfl) pc0))
            refine vp_callSi (va_Run.run (va_runV (As := [.int (nI j)]) (rest := []) ⟨hx, hb, hml, hown, hw⟩ (k_R_at l D T ro ra k n f (nI j) hy0 hy1) (cwV 1 hw (bg_V ml_R_32 wi_R_at wv_R_at wz_R wc_R_at) rfl rfl rfl (by decide +kernel) ⟨Nat.le_of_ble_eq_true rfl, Nat.le_of_ble_eq_true rfl⟩) ⟨sP_b, va_recv hK hPc (ci := 1) (q0 := 0) rfl rfl, sP_p hPc hK⟩ rfl rfl hl.1 rfl (lv_room (Nat.le_of_ble_eq_true rfl)) d_R_isAheadOf_53 ⟨Nat.le_of_ble_eq_true rfl, Nat.le_of_ble_eq_true rfl⟩)) (fun r6 hr6 => ?_)
            replace hr6 := hr6.symm; subst hr6
            rw [at_in (by omega) (by omega)]
            refine lv_aload_n hx hb d_R_isAheadOf_56 rfl (lv_at hl 1 rfl) ?_
            refine lv_iload_n hx hb d_R_isAheadOf_57 rfl (lv_at hl 2 rfl) ?_
            have hPc : va_P D gC [(roq, .inr (1, [.ref raq, .int (nI kq)])), (raq, .inl (T.1, nq, .inl fq))] s.heap := (pc1 (hP 2 _ rfl) (pc1 (hP 3 _ rfl) pc0))
            refine vp_callSi (va_Run.run (va_runV (As := [.int (nI j)]) (rest := [.int (f j)]) ⟨hx, hb, hml, hown, hw⟩ (k_R_at l D T roq raq kq nq fq (nI j) hy2 hy3) (cwV 1 hw (bg_V ml_R_32 wi_R_at wv_R_at wz_R wc_R_at) rfl rfl rfl (by decide +kernel) ⟨Nat.le_of_ble_eq_true rfl, Nat.le_of_ble_eq_true rfl⟩) ⟨sP_b, va_recv hK hPc (ci := 1) (q0 := 0) rfl rfl, sP_p hPc hK⟩ rfl rfl hl.1 rfl (lv_room (Nat.le_of_ble_eq_true rfl)) d_R_isAheadOf_58 ⟨Nat.le_of_ble_eq_true rfl, Nat.le_of_ble_eq_true rfl⟩)) (fun r7 hr7 => ?_)
            replace hr7 := hr7.symm; subst hr7
            rw [at_in (by omega) (by omega)]
            refine lv_icmp_ge (tgt := 68) hx hb d_R_isAheadOf_61 (by decide) (fun c8 => ?_) (fun c8 => ?_)
            · refine lv_iconst (v := 0) hx hb d_R_isAheadOf_68 (by decide) ?_
              exact W.zret (v := 0) hx hb hr rfl (fun t ht hW => ⟨0, rfl, (Or.inr ⟨rfl, fun q => by
                  rcases q with q | ⟨-, k2, q1, q2, q3⟩
                  · omega
                  · rcases Nat.lt_trichotomy k2 j with q4 | q4 | q4
                    · rw [hE k2 q4] at q3; exact absurd q3 Int32.lt_irrefl
                    · subst q4; exact k2_nlt c8 q3
                    · exact c5 (q2 j q4)⟩), ht⟩) (fun _ h => nomatch h) d_R_isAheadOf_69
            · refine lv_iconst (v := 1) hx hb d_R_isAheadOf_64 (by decide) ?_
              refine lv_goto (tgt := 69) hx hb d_R_isAheadOf_65 (by decide) ?_
              exact W.zret (v := 1) hx hb hr rfl (fun t ht hW => ⟨1, rfl, (Or.inl ⟨rfl, Or.inr ⟨hlen, j, by omega, hE, k2_lt c8⟩⟩), ht⟩) (fun _ h => nomatch h) d_R_isAheadOf_69
    exact loop ((k - 0) + 1) 0 (Nat.zero_le _) lt_0 ls (lv_sub hl [1, 2, 0] rfl) (Nat.lt_succ_self _)
  · have c1 := nc_ne (a := k) (b := kq) c1 (by omega) (by omega)
    refine lv_aload_n hx hb d_R_isAheadOf_11 rfl (lv_at hl 0 rfl) ?_
    refine va_get (D := D) (ci := 1) (v := .int (nI k)) (C := "TimeWords$Row") (T := F_R) (N := 2) hx hb hw in_R hown hK hP 0 rfl rfl 1 (by decide) (hw _ fl_R_15) (fun _ h9 => h9) rfl d_R_isAheadOf_12 ?_
    refine lv_aload_n hx hb d_R_isAheadOf_15 rfl (lv_at hl 1 rfl) ?_
    refine va_get (D := D) (ci := 1) (v := .int (nI kq)) (C := "TimeWords$Row") (T := F_R) (N := 2) hx hb hw in_R hown hK hP 2 rfl rfl 1 (by decide) (hw _ fl_R_15) (fun _ h9 => h9) rfl d_R_isAheadOf_16 ?_
    refine lv_icmp_ge (tgt := 26) hx hb d_R_isAheadOf_19 (by decide) (fun c9 => ?_) (fun c9 => ?_)
    · have c9 := nc_le (a := kq) (b := k) c9 (by omega) (by omega)
      refine lv_iconst (v := 0) hx hb d_R_isAheadOf_26 (by decide) ?_
      exact W.zret (v := 0) hx hb hr rfl (fun t ht hW => ⟨0, rfl, (Or.inr ⟨rfl, fun q => by rcases q with q | ⟨q, -⟩ <;> omega⟩), ht⟩) (fun _ h => nomatch h) d_R_isAheadOf_27
    · have c9 := nc_nle (a := kq) (b := k) c9 (by omega) (by omega)
      refine lv_iconst (v := 1) hx hb d_R_isAheadOf_22 (by decide) ?_
      refine lv_goto (tgt := 27) hx hb d_R_isAheadOf_23 (by decide) ?_
      exact W.zret (v := 1) hx hb hr rfl (fun t ht hW => ⟨1, rfl, (Or.inl ⟨rfl, Or.inl (by omega)⟩), ht⟩) (fun _ h => nomatch h) d_R_isAheadOf_27
