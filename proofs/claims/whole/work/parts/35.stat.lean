/-! OWN KIT: what lies in the heap ahead of all: texts, statics, casts -/
/-- places: texts by their entry, their byte arrays, the empty list's array, the days of the months, the class object of Object[] -/
abbrev gS : Type := (Nat → Nat) × (Nat → Nat) × Nat × Nat × Nat
def sB : List (List Int32) := [[101, 97, 114, 108, 121, 32], [109, 105, 100, 32], [108, 97, 116, 101, 32], [97, 98, 111, 117, 116, 32], [98, 101, 102, 111, 114, 101, 32], [97, 102, 116, 101, 114, 32], []]
def sL : List Nat := [6, 4, 5, 6, 7, 6, 0]
def dM : List Int32 := [31, 28, 31, 30, 31, 30, 31, 31, 30, 31, 30, 31]
def sC : List Cond := [.castable "java/lang/IllegalArgumentException" "java/lang/IllegalArgumentException", .castable "java/lang/IllegalStateException" "java/lang/IllegalStateException", .castable "java/lang/IndexOutOfBoundsException" "java/lang/IndexOutOfBoundsException", .castable "TimeWords$Name" "TimeWords$Name", .castable "TimeWords$Phase" "TimeWords$Phase", .castable "TimeWords$Years" "TimeWords$Years", .castable "TimeWords" "java/lang/Object", .castable "TimeWords$Row" "java/lang/Object", .castable "TimeWords$Years" "java/lang/Object", .castable "TimeWordsModel" "java/lang/Object", .castable "TimeWords$Name" "java/lang/Object", .castable "TimeWords$Phase" "java/lang/Object", .castable "java/lang/String" "java/lang/Object", .declares ⟨"java/lang/RuntimeException", "<init>", "()V"⟩, .declares ⟨"java/lang/RuntimeException", "<init>", "(Ljava/lang/String;)V"⟩, .declares ⟨"java/lang/Exception", "<init>", "()V"⟩, .declares ⟨"java/lang/Exception", "<init>", "(Ljava/lang/String;)V"⟩, .declares ⟨"java/lang/Throwable", "<init>", "()V"⟩, .declares ⟨"java/lang/Throwable", "<init>", "(Ljava/lang/String;)V"⟩, .declares ⟨"java/lang/Object", "getClass", "()Ljava/lang/Class;"⟩]
def sN : List (String × String) := [("java/lang/IllegalArgumentException", "java/lang/IllegalStateException"), ("java/lang/IllegalArgumentException", "java/lang/IndexOutOfBoundsException"), ("java/lang/IllegalStateException", "java/lang/IllegalArgumentException"), ("java/lang/IllegalStateException", "java/lang/IndexOutOfBoundsException"), ("java/lang/IndexOutOfBoundsException", "java/lang/IllegalArgumentException"), ("java/lang/IndexOutOfBoundsException", "java/lang/IllegalStateException")]
def sR : List (Nat × String) := [(57, "no sign"), (67, "the pad is full"), (80, "the pad is no row of 1 to 8 letters"), (90, "no room for another name"), (119, "no room for another phase"), (126, "no width"), (151, "the span is open there"), (176, "a span is open"), (186, "no such sign"), (209, "no year, month or day of the week"), (211, "no such one of the month"), (225, "no year of a reign"), (229, "no reign, or one that is too short"), (231, "nothing to count"), (233, "no such name"), (235, "no such span"), (237, "no room for another span"), (239, "no such place"), (241, "no such end"), (243, "no years from one to another"), (246, "no day"), (282, "early "), (284, "mid "), (286, "late "), (288, "about "), (290, "before "), (292, "after "), (294, "")]
def sT (κ : gS) (A : Nat → Prop) (U : State) (H : Heap) : Prop := ∀ i : Nat, i < 7 → va_O "java/lang/String" (κ.1 (282 + 2 * i)) A U H ∧ va_OF "java/lang/String" "coder" "B" (.int 0) (κ.1 (282 + 2 * i)) A U H ∧ va_OF "java/lang/String" "value" "[B" (.ref (κ.2.1 i)) (κ.1 (282 + 2 * i)) A U H ∧ va_T .byte (κ.2.1 i) (sL.getD i 0) (fun j => .int ((sB.getD i []).getD j 0)) A U H
def sZ (κ : gS) (A : Nat → Prop) (U : State) (H : Heap) : Prop := va_Z "java/lang/String" "COMPACT_STRINGS" "Z" (.int 1) A U H ∧ va_Z "java/util/ArrayList" "DEFAULTCAPACITY_EMPTY_ELEMENTDATA" "[Ljava/lang/Object;" (.ref κ.2.2.1) A U H ∧ va_T (.object "java/lang/Object") κ.2.2.1 0 (fun _ => .null) A U H ∧ va_Z "TimeWords" "MONTH_DAYS" "[I" (.ref κ.2.2.2.1) A U H ∧ va_T .int κ.2.2.2.1 12 (fun j => .int (dM.getD j 0)) A U H ∧ va_Zq "jdk/internal/util/Preconditions" "SIOOBE_FORMATTER" "Ljava/util/function/BiFunction;" A U H ∧ vx_Zq Bundle.tN "UNASSIGNED_STACK" Bundle.steD A U H ∧ vx_Zq Bundle.tN "SUPPRESSED_SENTINEL" Bundle.listD A U H
def sK (κ : gS) (U : State) : Prop := va_Mi "[Ljava/lang/Object;" κ.2.2.2.2 U ∧ va_AO "java/lang/Object" U ∧ va_Dc U ∧ (∀ q ∈ sN, va_Nc q.1 q.2 U)
def sW (κ : gS) (U : State) : Prop := (∀ w ∈ sC, va_Nw w U) ∧ ∀ q ∈ sR, vk_R "TimeWords" q.1 q.2 (κ.1 q.1) U
/-- all of it -/
def sF (κ : gS) (A : Nat → Prop) (U : State) : Prop := sT κ A U U.heap ∧ sZ κ A U U.heap ∧ sK κ U ∧ sW κ U
theorem sT.go {κ : gS} {A B : Nat → Prop} {u U : State} {H H1 : Heap} (h : sT κ A u H) (hvm : u.vm.Alike U.vm) (hq : ∀ a : Nat, a < H.size → ¬ A a → H1[a]? = H[a]?) (hAB : ∀ q, B q → A q) : sT κ B U H1 := fun i hi => by
  obtain ⟨h1, h2, h3, h4⟩ := h i hi
  exact ⟨((h1.moved hvm).kept hq).narrow hAB, ((h2.moved hvm).kept hq).narrow hAB, ((h3.moved hvm).kept hq).narrow hAB, ((h4.moved hvm).kept hq).narrow hAB⟩
theorem sZ.go {κ : gS} {A B : Nat → Prop} {u U : State} {H H1 : Heap} (h : sZ κ A u H) (hvm : u.vm.Alike U.vm) (hq : ∀ a : Nat, a < H.size → ¬ A a → H1[a]? = H[a]?) (hAB : ∀ q, B q → A q) : sZ κ B U H1 := by
  obtain ⟨h1, h2, h3, h4, h5, h6, h7, h8⟩ := h
  exact ⟨((h1.moved hvm).kept hq).narrow hAB, ((h2.moved hvm).kept hq).narrow hAB, ((h3.moved hvm).kept hq).narrow hAB, ((h4.moved hvm).kept hq).narrow hAB, ((h5.moved hvm).kept hq).narrow hAB, ((h6.moved hvm).kept hq).narrow hAB, ((h7.moved hvm).kept hq).narrow hAB, ((h8.moved hvm).kept hq).narrow hAB⟩
theorem sK.moved {κ : gS} {u U : State} (h : sK κ u) (hvm : u.vm.Alike U.vm) : sK κ U := ⟨h.1.moved hvm, h.2.1.moved hvm, h.2.2.1.moved hvm, fun q hq => (h.2.2.2 q hq).moved hvm⟩
theorem sC_form : ∀ w ∈ sC, (∃ a b : String, w = .castable a b) ∨ ∃ x : MethodName, w = .declares x := by
  intro w h
  simp only [sC, List.mem_cons, List.not_mem_nil, or_false] at h
  rcases h with rfl | rfl | rfl | rfl | rfl | rfl | rfl | rfl | rfl | rfl | rfl | rfl | rfl | rfl | rfl | rfl | rfl | rfl | rfl | rfl <;> first | exact Or.inl ⟨_, _, rfl⟩ | exact Or.inr ⟨_, rfl⟩
theorem sW.warm {κ : gS} {u U : State} (h : sW κ u) (hW : u.WarmedH U.vm) : sW κ U := ⟨fun w hw => by
  rcases sC_form w hw with ⟨a, b, e⟩ | ⟨x, e⟩
  · subst e
    exact va_Nw.warmC hW (h.1 _ hw)
  · subst e
    exact va_Nw.warmD hW (h.1 _ hw), fun q hq => (h.2 q hq).warm hW⟩
/-- on to a callee's start, or to its end -/
theorem sF.go {κ : gS} {A B : Nat → Prop} {u U : State} {locs : List Loc} {H : Heap} (h : sF κ A u) (hW : u.WarmedH U.vm) (hH : U.heap = H) (hS : va_S A u.heap H locs) (hAB : ∀ q, B q → A q) : sF κ B U :=
  ⟨by rw [hH]; exact h.1.go hW.alike hS.2.1 hAB, by rw [hH]; exact h.2.1.go hW.alike hS.2.1 hAB, h.2.2.1.moved hW.alike, h.2.2.2.warm hW⟩
theorem sF.same {κ : gS} {A : Nat → Prop} {u U : State} (h : sF κ A u) (hv : U.vm = u.vm) (hH : U.heap = u.heap) : sF κ A U := by
  obtain ⟨h1, h2, h3, h4⟩ := h
  have hvm : u.vm.Alike U.vm := by rw [hv]; exact Vm.Alike.refl _
  refine ⟨by rw [hH]; exact h1.go hvm (fun _ _ _ => rfl) (fun _ h => h), by rw [hH]; exact h2.go hvm (fun _ _ _ => rfl) (fun _ h => h), h3.moved hvm, fun w hw => ?_, fun q hq => (h4.2 q hq).same hv⟩
  rcases sC_form w hw with ⟨a, b, e⟩ | ⟨x, e⟩
  · subst e
    exact va_Nw.same rfl hv.symm (h4.1 _ hw)
  · subst e
    exact va_Nw.same rfl hv.symm (h4.1 _ hw)
/-- a start that reads a world and what lies there ahead of all -/
def sPf (κ : gS) (A : Nat → Prop) (D : va_G) (T : gT) (ws : va_W) (av : List Value) : Array Value → State → Prop := va_Pc av (fun U => va_P D gC ws U.heap ∧ gK D T U ∧ sF κ A U)
def qPf (κ : gS) (D : va_G) (T : gT) (ws : va_W) (av : List Value) (sz : Nat) : Array Value → State → Prop := va_Pc av (fun U => U.heap.size = sz ∧ va_P D gC ws U.heap ∧ gK D T U ∧ va_D (fun _ => True) ws ∧ sF κ (va_A ws sz) U)
theorem sPf_b {κ : gS} {A : Nat → Prop} {D : va_G} {T : gT} {ws : va_W} {av : List Value} : FrameBlind (sPf κ A D T ws av) := fun a U g mk q => ⟨q.1, q.2.1, va_K.moved (u := U) (U := U.calling g mk a) (Vm.Alike.refl U.vm) q.2.2.1, q.2.2.2.same rfl rfl⟩
theorem qPf_b {κ : gS} {D : va_G} {T : gT} {ws : va_W} {av : List Value} {sz : Nat} : FrameBlind (qPf κ D T ws av sz) := fun a U g mk q => ⟨q.1, q.2.1, q.2.2.1, va_K.moved (u := U) (U := U.calling g mk a) (Vm.Alike.refl U.vm) q.2.2.2.1, q.2.2.2.2.1, q.2.2.2.2.2.same rfl rfl⟩
theorem sPf_p {κ : gS} {A : Nat → Prop} {s : State} {H : Heap} {locs : List Loc} {D : va_G} {T : gT} {ws : va_W} {av : List Value} (hP : va_P D gC ws H) (hK : gK D T s) (hF : sF κ A s) (hS : va_S A s.heap H locs) : ∀ U : State, U.heap = H → s.WarmedH U.vm → sPf κ A D T ws av av.toArray U := fun U hU hW => ⟨rfl, by rw [hU]; exact hP, va_K.moved hW.alike hK, hF.go hW hU hS (fun _ h => h)⟩
theorem qPf_p {κ : gS} {s : State} {H : Heap} {locs : List Loc} {D : va_G} {T : gT} {ws : va_W} {av : List Value} {A B : Nat → Prop} (hP : va_P D gC ws H) (hK : gK D T s) (hD : va_D B ws) (hF : sF κ A s) (hS : va_S A s.heap H locs) (hf : ∀ q, va_A ws H.size q → A q) : ∀ U : State, U.heap = H → s.WarmedH U.vm → qPf κ D T ws av H.size av.toArray U := fun U hU hW => ⟨rfl, by rw [hU], by rw [hU]; exact hP, va_K.moved hW.alike hK, hD.weaken (fun _ _ _ _ => trivial), hF.go hW hU hS hf⟩
/-! worlds by what is in them: the order of the cells doesn't matter -/
theorem va_P.mem {D : va_G} {cl : List vw_C} {ws : va_W} {H : Heap} (h : va_P D cl ws H) {q : Nat × va_E} (hq : q ∈ ws) : va_at D cl q H := by
  obtain ⟨k, hk⟩ := List.mem_iff_getElem?.mp hq
  exact h k q hk
theorem va_P.of {D : va_G} {cl : List vw_C} {ws : va_W} {H : Heap} (h : ∀ q ∈ ws, va_at D cl q H) : va_P D cl ws H := fun k q hk => h q (List.mem_of_getElem? hk)
theorem va_P.perm {D : va_G} {cl : List vw_C} {ws ws' : va_W} {H : Heap} (h : va_P D cl ws H) (hp : ws'.Perm ws) : va_P D cl ws' H := va_P.of (fun q hq => h.mem (hp.mem_iff.mp hq))
theorem va_D_iff {A : Nat → Prop} {ws : va_W} : va_D A ws ↔ (ws.map Prod.fst).Nodup ∧ ∀ q ∈ ws, A q.1 := by
  constructor
  · intro h
    refine ⟨?_, fun q hq => ?_⟩
    · refine List.pairwise_iff_getElem.mpr (fun i j hi hj hij e => ?_)
      rw [List.length_map] at hi hj
      rw [List.getElem_map, List.getElem_map] at e
      have := h.1 i j _ _ (List.getElem?_eq_getElem hi) (List.getElem?_eq_getElem hj) e
      omega
    · obtain ⟨k, hk⟩ := List.mem_iff_getElem?.mp hq
      exact h.2 k q hk
  · intro h
    refine ⟨fun i j p q hi hj e => ?_, fun k q hk => h.2 q (List.mem_of_getElem? hk)⟩
    obtain ⟨li, ei⟩ := List.getElem?_eq_some_iff.mp hi
    obtain ⟨lj, ej⟩ := List.getElem?_eq_some_iff.mp hj
    have hn := List.pairwise_iff_getElem.mp h.1
    rcases Nat.lt_trichotomy i j with q1 | q1 | q1
    · exact absurd (by rw [List.getElem_map, List.getElem_map, ei, ej]; exact e) (hn i j (by rw [List.length_map]; exact li) (by rw [List.length_map]; exact lj) q1)
    · exact q1
    · exact absurd (by rw [List.getElem_map, List.getElem_map, ei, ej]; exact e.symm) (hn j i (by rw [List.length_map]; exact lj) (by rw [List.length_map]; exact li) q1)
theorem va_D.perm {A : Nat → Prop} {ws ws' : va_W} (h : va_D A ws) (hp : ws'.Perm ws) : va_D A ws' := by
  rw [va_D_iff] at h ⊢
  exact ⟨(hp.map Prod.fst).nodup_iff.mpr h.1, fun q hq => h.2 q (hp.mem_iff.mp hq)⟩
