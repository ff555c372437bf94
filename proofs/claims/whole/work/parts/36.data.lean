/-! OWN KIT: the class's data; worlds with a tail; calls that take the whole world in another order -/
/-- a list: its address, its array's, how often it was changed, the array's room, what stands there -/
abbrev liD : Type := Nat × Nat × Int32 × Nat × (Nat → Option Nat)
def liO (d : liD) (k : Nat) : Nat × va_E := (d.1, .inr (0, [.ref d.2.1, .int (nI k), .int d.2.2.1]))
def liA (T : gT) (d : liD) : Nat × va_E := (d.2.1, .inl (T.2.2.2, d.2.2.2.1, .inr (.inr (.inr (.inr d.2.2.2.2)))))
def liB (T : gT) (d : liD) (k : Nat) : va_W := if k = 0 then [] else [liA T d]
def liOk (κ : gS) (d : liD) (xs : List Nat) : Prop := (xs = [] → d.2.1 = κ.2.2.1) ∧ (xs ≠ [] → xs.length ≤ d.2.2.2.1 ∧ 10 ≤ d.2.2.2.1 ∧ d.2.2.2.1 ≤ 90 ∧ ∀ i, i < xs.length → d.2.2.2.2 i = xs[i]?)
/-- a phase: its address, place, day, its years' address, from, to -/
abbrev phD : Type := Nat × Int32 × Int32 × Nat × Int32 × Int32
def phO (q : phD) : Nat × va_E := (q.1, .inr (3, [.int q.2.1, .int q.2.2.1, .ref q.2.2.2.1]))
def phY (q : phD) : Nat × va_E := (q.2.2.2.1, .inr (2, [.int q.2.2.2.2.1, .int q.2.2.2.2.2, .int 0, .int 0]))
/-- a name: its address; its letters' row, array, number, signs; its phases' list; its reign's address, from, to; its phases -/
abbrev nmD : Type := Nat × (Nat × Nat × Nat × (Nat → Int32)) × liD × Option (Nat × Int32 × Int32) × List phD
abbrev nA (n : nmD) : Nat := n.1
abbrev nR (n : nmD) : Nat := n.2.1.1
abbrev nV (n : nmD) : Nat := n.2.1.2.1
abbrev nK (n : nmD) : Nat := n.2.1.2.2.1
abbrev nF (n : nmD) : Nat → Int32 := n.2.1.2.2.2
abbrev nL (n : nmD) : liD := n.2.2.1
abbrev nG (n : nmD) : Option (Nat × Int32 × Int32) := n.2.2.2.1
abbrev nH (n : nmD) : List phD := n.2.2.2.2
def nmO (n : nmD) : Nat × va_E := (nA n, .inr (4, [.ref (nR n), .ref (nL n).1, va_rf ((nG n).map (fun r => r.1))]))
def nmR (n : nmD) : Nat × va_E := (nR n, .inr (1, [.ref (nV n), .int (nI (nK n))]))
def nmV (T : gT) (n : nmD) : Nat × va_E := (nV n, .inl (T.1, 8, .inl (nF n)))
def rgY (r : Nat × Int32 × Int32) : Nat × va_E := (r.1, .inr (2, [.int r.2.1, .int r.2.2, .int 0, .int 0]))
def nmG (n : nmD) : va_W := (nG n).toList.map rgY
def nmW (T : gT) (n : nmD) : va_W := nmO n :: nmR n :: nmV T n :: liO (nL n) (nH n).length :: (liB T (nL n) (nH n).length ++ (nmG n ++ ((nH n).map phO ++ (nH n).map phY)))
/-- a span: its address, from, to, open there -/
abbrev spD : Type := Nat × Int32 × Int32 × Bool × Bool
def spW (q : spD) : Nat × va_E := (q.1, .inr (2, [.int q.2.1, .int q.2.2.1, .int (b2i q.2.2.2.1), .int (b2i q.2.2.2.2)]))
/-- names' list, names, spans' list, spans -/
abbrev tS : Type := liD × List nmD × liD × List spD
def tl (T : gT) (S : tS) : va_W := liB T S.1 S.2.1.length ++ (S.2.1.flatMap (nmW T) ++ (liB T S.2.2.1 S.2.2.2.length ++ S.2.2.2.map spW))
def nmOk (κ : gS) (n : nmD) : Prop := nK n ≤ 8 ∧ (nH n).length ≤ 6 ∧ liOk κ (nL n) ((nH n).map (fun q => q.1))
def tOk (κ : gS) (S : tS) : Prop := liOk κ S.1 (S.2.1.map (fun n => n.1)) ∧ (∀ n ∈ S.2.1, nmOk κ n) ∧ liOk κ S.2.2.1 (S.2.2.2.map (fun q => q.1)) ∧ S.2.1.length ≤ 24 ∧ S.2.2.2.length ≤ 60
theorem liA_mem {T : gT} {d : liD} {k : Nat} (h : 0 < k) : liA T d ∈ liB T d k := by rw [liB, if_neg (by omega)]; exact List.mem_singleton.mpr rfl
theorem tl_na {T : gT} {S : tS} (h : 0 < S.2.1.length) : liA T S.1 ∈ tl T S := List.mem_append_left _ (liA_mem h)
theorem tl_nm {T : gT} {S : tS} {n : nmD} (hn : n ∈ S.2.1) {q : Nat × va_E} (hq : q ∈ nmW T n) : q ∈ tl T S := List.mem_append_right _ (List.mem_append_left _ (List.mem_flatMap.mpr ⟨n, hn, hq⟩))
theorem tl_sa {T : gT} {S : tS} (h : 0 < S.2.2.2.length) : liA T S.2.2.1 ∈ tl T S := List.mem_append_right _ (List.mem_append_right _ (List.mem_append_left _ (liA_mem h)))
theorem tl_sp {T : gT} {S : tS} {q : spD} (h : q ∈ S.2.2.2) : spW q ∈ tl T S := List.mem_append_right _ (List.mem_append_right _ (List.mem_append_right _ (List.mem_map.mpr ⟨q, h, rfl⟩)))
theorem nmm_o {T : gT} {n : nmD} : nmO n ∈ nmW T n := by simp [nmW]
theorem nmm_r {T : gT} {n : nmD} : nmR n ∈ nmW T n := by simp [nmW]
theorem nmm_v {T : gT} {n : nmD} : nmV T n ∈ nmW T n := by simp [nmW]
theorem nmm_l {T : gT} {n : nmD} : liO (nL n) (nH n).length ∈ nmW T n := by simp [nmW]
theorem nmm_a {T : gT} {n : nmD} (h : 0 < (nH n).length) : liA T (nL n) ∈ nmW T n := by
  have := liA_mem (T := T) (d := nL n) h
  simp [nmW, this]
theorem nmm_g {T : gT} {n : nmD} {r : Nat × Int32 × Int32} (h : nG n = some r) : rgY r ∈ nmW T n := by simp [nmW, nmG, h]
theorem nmm_p {T : gT} {n : nmD} {q : phD} (h : q ∈ nH n) : phO q ∈ nmW T n := by
  have : phO q ∈ (nH n).map phO := List.mem_map.mpr ⟨q, h, rfl⟩
  simp only [nmW, List.mem_cons, List.mem_append, this, true_or, or_true]
theorem nmm_y {T : gT} {n : nmD} {q : phD} (h : q ∈ nH n) : phY q ∈ nmW T n := by
  have : phY q ∈ (nH n).map phY := List.mem_map.mpr ⟨q, h, rfl⟩
  simp only [nmW, List.mem_cons, List.mem_append, this, true_or, or_true]
/-! opening and closing the tail -/
theorem pm_of {α : Type} {q : α} {l : List α} (h : q ∈ l) : ∃ r, l.Perm (q :: r) := by
  obtain ⟨s, t, rfl⟩ := List.append_of_mem h
  exact ⟨s ++ t, List.perm_middle⟩
theorem pm_in {α : Type} {X l r : List α} {q : α} (h : l.Perm (q :: r)) : ((X ++ [q]) ++ r).Perm (X ++ l) := by
  rw [List.append_assoc]
  exact List.Perm.append_left X h.symm
theorem op_1 {A : Nat → Prop} {D : va_G} {X pl : va_W} {H : Heap} {q : Nat × va_E} (hP : va_P D gC (X ++ pl) H) (hD : va_D A (X ++ pl)) (hm : q ∈ pl) : ∃ rs : va_W, pl.Perm (q :: rs) ∧ va_P D gC ((X ++ [q]) ++ rs) H ∧ va_D A ((X ++ [q]) ++ rs) := by
  obtain ⟨rs, h⟩ := pm_of hm
  exact ⟨rs, h, hP.perm (pm_in h), hD.perm (pm_in h)⟩
theorem op_2 {A : Nat → Prop} {D : va_G} {X pl : va_W} {H : Heap} {q r : Nat × va_E} (hP : va_P D gC (X ++ pl) H) (hD : va_D A (X ++ pl)) (hm : q ∈ pl) (hr : r ∈ pl) (hne : r ≠ q) : ∃ rs : va_W, pl.Perm (q :: r :: rs) ∧ va_P D gC ((X ++ [q, r]) ++ rs) H ∧ va_D A ((X ++ [q, r]) ++ rs) := by
  obtain ⟨rs, h⟩ := pm_of hm
  have h2 : r ∈ rs := by
    rcases List.mem_cons.mp (h.mem_iff.mp hr) with e | e
    · exact absurd e hne
    · exact e
  obtain ⟨rs2, h3⟩ := pm_of h2
  have h4 : pl.Perm (q :: r :: rs2) := h.trans (h3.cons q)
  have h5 : ((X ++ [q, r]) ++ rs2).Perm (X ++ pl) := by
    rw [List.append_assoc]
    exact List.Perm.append_left X h4.symm
  exact ⟨rs2, h4, hP.perm h5, hD.perm h5⟩
theorem cl_P1 {D : va_G} {X pl rs : va_W} {H : Heap} {q : Nat × va_E} (h : pl.Perm (q :: rs)) (hP : va_P D gC ((X ++ [q]) ++ rs) H) : va_P D gC (X ++ pl) H := hP.perm (pm_in h).symm
theorem cl_D1 {A : Nat → Prop} {X pl rs : va_W} {q : Nat × va_E} (h : pl.Perm (q :: rs)) (hD : va_D A ((X ++ [q]) ++ rs)) : va_D A (X ++ pl) := hD.perm (pm_in h).symm
theorem cl_P2 {D : va_G} {X pl rs : va_W} {H : Heap} {q r : Nat × va_E} (h : pl.Perm (q :: r :: rs)) (hP : va_P D gC ((X ++ [q, r]) ++ rs) H) : va_P D gC (X ++ pl) H := hP.perm (by rw [List.append_assoc]; exact List.Perm.append_left X h)
theorem cl_D2 {A : Nat → Prop} {X pl rs : va_W} {q r : Nat × va_E} (h : pl.Perm (q :: r :: rs)) (hD : va_D A ((X ++ [q, r]) ++ rs)) : va_D A (X ++ pl) := hD.perm (by rw [List.append_assoc]; exact List.Perm.append_left X h)
/-- what is new goes ahead of the tail -/
theorem nw_pm {X pl : va_W} {q : Nat × va_E} : ((X ++ [q]) ++ pl).Perm ((X ++ pl) ++ [q]) := by
  rw [List.append_assoc, List.append_assoc]
  exact List.Perm.append_left X List.perm_append_comm
/-- an object that may lie in a list -/
def isOb (pl : va_W) (y : Nat) : Prop := ∃ (ci : Nat) (fs : List Value) (r : vw_C), (y, .inr (ci, fs)) ∈ pl ∧ gC[ci]? = some r ∧ Cond.castable r.1 "java/lang/Object" ∈ sC
theorem ob_any {κ : gS} {A : Nat → Prop} {D : va_G} {T : gT} {s : State} {H : Heap} {ws pl : va_W} {y : Nat} (hK : gK D T s) (hF : sF κ A s) (hP : va_P D gC ws H) (hs : ∀ q ∈ pl, q ∈ ws) (h : isOb pl y) : va_Any "java/lang/Object" s H y := by
  obtain ⟨ci, fs, r, h1, h2, h3⟩ := h
  obtain ⟨k, hk⟩ := List.mem_iff_getElem?.mp (hs _ h1)
  exact va_rAny hK hP hk h2 (fun comp c0 f1 f2 => vb_asgC (hF.2.2.2.1 _ h3) comp c0 f1 f2)
section MyTail
variable {p : Program} {l : Launch} {e : Env} {R : Room} {s : State} {m : MethodId} {args : Array Value} {below : List Frame} {meth : Method} {c : Code} {H : Heap} {locs : List Loc} {cells slots : Nat} {Q : State → Prop}
variable {cc : ByteArray} {pc : Nat} {ls : Array Slot} {rest st0 : List Value} {a : Array Value} {A0 A : Nat → Prop} {H0 : Heap} {mc ms : Nat} {D : va_G} {T : gT} {ws : va_W}
theorem g_callr {S : Type} {post : S → Prop} {f : S → Nat → va_W} (hr : va_Run p l e R s m args below meth c H locs cells slots mc ms (F0 m pc ls st0) rest (va_Qr post (fun u ra t => qB D T (va_A ws H.size) (fun x => f x ra) u t) (va_A ws H.size) a) (va_A ws H.size)) (hD : va_D A0 ws) (hS : va_S A0 H0 H locs) (hA : ∀ q, H0.size ≤ q → A0 q)
    (kk : ∀ (u : S) (ra : Nat) (H1 : Heap) (locs1 : List Loc), post u → va_P D gC (f u ra) H1 → va_D A0 (f u ra) → va_S A0 H0 H1 locs1 → W p l e R s m args below meth c H1 locs1 (cells + mc) (slots + ms) Q (F0 m (pc + 3) ls (.ref ra :: rest))) : W p l e R s m args below meth c H locs cells slots Q (F0 m pc ls st0) :=
  va_callr hr hS (fun q _ h => g_free hD hS hA q h) (g_free hD hS hA) (fun u ra t H1 locs1 ht _ hw hB _ _ hS1 => kk u ra H1 locs1 hw (by rw [← ht]; exact hB.1) (g_up hB.2.2 (g_free hD hS hA)) hS1)
theorem g_newq (hexec : p.tables.exec = Jvm.exec) (hb : c.code = cc) {own : String} {index : Nat} (hown : s.vm.findClass own = some m.cls) (hclink : (Cond.classLink own index "java/lang/Object").before args s = true) (hover : va_AO "java/lang/Object" s) (hK : gK D T s) (hP : va_P D gC ws H) (hD : va_D A ws) (hS : va_S A H0 H locs) (hA : ∀ q, H0.size ≤ q → A q)
    {n : Int32} {N' : Nat} (hn : ¬ n < 0) (hN : n.toNatClampNeg = N') (hbytes : N' * 4 ≤ 536870912) (hcells : cells + 1 ≤ R.cells) (hslots : slots + N' ≤ R.slots) (hdg : decode cc pc = .ok (.anewarray index, 3))
    (kk : ∀ (q : Nat) (H1 : Heap), va_P D gC (ws ++ [(q, .inl (T.2.2.2, N', .inr (.inr (.inr (.inr (fun _ => none))))))]) H1 → va_D A (ws ++ [(q, .inl (T.2.2.2, N', .inr (.inr (.inr (.inr (fun _ => none))))))]) → va_S A H0 H1 locs → W p l e R s m args below meth c H1 locs (cells + 1) (slots + N') Q (F0 m (pc + 3) ls (.ref q :: rest))) : W p l e R s m args below meth c H locs cells slots Q (F0 m pc ls (.int n :: rest)) := by
  refine va_newq hexec hb hown hclink hover hK hP hD hS hA hn hN hbytes hcells hslots hdg (fun q cA H1 hK1 hP1 hD1 hS1 => ?_)
  obtain ⟨-, -, -, -, -, e1⟩ := (hK.2 3 _ rfl).2
  obtain ⟨-, -, -, -, -, e2⟩ := (hK1.2 4 _ rfl).2
  have e3 : cA = T.2.2.2 := Option.some.inj (e2.symm.trans e1)
  subst e3
  exact kk q H1 hP1 hD1 hS1
end MyTail
/-! calls that throw, and leave all as it was -/
def xE (E : String) (sz : Nat) : String → State → State → Prop := vx_X (fun _ : Unit => True) (fun E' _ _ => E' = E) (fun q => sz ≤ q)
def xN : Array Value → State → Outcome → State → Prop := fun _ _ _ _ => False
def xPf (κ : gS) (A : Nat → Prop) (D : va_G) (T : gT) (ws : va_W) (av : List Value) (sz : Nat) : Array Value → State → Prop := va_Pc av (fun U => U.heap.size = sz ∧ va_P D gC ws U.heap ∧ gK D T U ∧ sF κ A U)
theorem xPf_b {κ : gS} {A : Nat → Prop} {D : va_G} {T : gT} {ws : va_W} {av : List Value} {sz : Nat} : FrameBlind (xPf κ A D T ws av sz) := fun a U g mk q => ⟨q.1, q.2.1, q.2.2.1, va_K.moved (u := U) (U := U.calling g mk a) (Vm.Alike.refl U.vm) q.2.2.2.1, q.2.2.2.2.same rfl rfl⟩
theorem xPf_p {κ : gS} {A : Nat → Prop} {s : State} {H : Heap} {locs : List Loc} {D : va_G} {T : gT} {ws : va_W} {av : List Value} (hP : va_P D gC ws H) (hK : gK D T s) (hF : sF κ A s) (hS : va_S A s.heap H locs) : ∀ U : State, U.heap = H → s.WarmedH U.vm → xPf κ A D T ws av H.size av.toArray U := fun U hU hW => ⟨rfl, by rw [hU], by rw [hU]; exact hP, va_K.moved hW.alike hK, hF.go hW hU hS (fun _ h => h)⟩
section MyThrow
variable {p : Program} {l : Launch} {e : Env} {R : Room} {s : State} {m : MethodId} {args : Array Value} {below : List Frame} {meth : Method} {c : Code}
theorem x_call {pc : Nat} {ls : Array Slot} {rest st0 : List Value} {E : String} {a : Array Value} (hr : vx_Run p l e R s m args below meth c s.heap [] 0 0 1 6 (F0 m pc ls st0) rest (xN a) (xE E s.heap.size) (fun q => s.heap.size ≤ q))
    (hout : ∀ x ∈ c.exceptionTable.toList, False) (hlocks : meth.locks = false) : W p l e R s m args below meth c s.heap [] 0 0 (vx_MQ below xN (xE E s.heap.size) args s 1 6 (fun q => s.heap.size ≤ q)) (F0 m pc ls st0) := by
  intro T hT X
  rcases hr T hT X with ⟨v, st₀, t, T', L, h0, X', hL, e1, e2, hn, st⟩ | ⟨q, st₀, t, T', L, E', ce, h0, X', hL, e1, e2, ⟨u, -, hE, hF⟩, hce, hcv, hcl, st⟩
  · exact hn.elim
  · subst hE
    have h2 : va_F (fun q => s.heap.size ≤ q) s t := by
      refine ⟨by rw [← h0]; exact hF.1, fun q h1 h2 => ?_⟩
      rw [hF.2 q (by rw [h0]; exact h1) h2, h0]
    obtain ⟨t2, a1, b1⟩ := vx_out (R := R) (Qc := xN) (XC := xE E' s.heap.size) (rest := rest) (ls := ls) (pc := pc) (H := T'.heap) (locs := [] ++ L) (mc := 1) (ms := 6) (free := fun q => s.heap.size ≤ q) (fun x h => (hout x h).elim) hlocks (by rw [e1]; exact hce) hcv hcl
      (fun t9 ht9 _ => ⟨(), trivial, rfl, by
        refine ⟨by rw [ht9, e1]; exact h2.1, fun q h1 h3 => ?_⟩
        rw [ht9, e1]
        exact h2.2 q h1 h3⟩) (by simpa using hL) (Nat.le_refl _) (Nat.le_refl _) T' rfl X'
    exact ⟨t2, st.trans a1, b1⟩
end MyThrow
