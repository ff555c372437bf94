/-! OWN KIT: one list of words, one table of array classes; contracts that only read (sP), contracts over a world (qP, qB) -/
/-- the classes of arrays: int, boolean, long, Object -/
abbrev gT : Type := ClassId × ClassId × ClassId × ClassId
abbrev gY (T : gT) : List (ClassId × FieldType) := [(T.1, .int), (T.2.1, .boolean), (T.2.2.1, .long), (T.2.2.2, .object "java/lang/Object")]
abbrev gK (D : va_G) (T : gT) (U : State) : Prop := va_K D gC (gY T) U
/-- a start that asks nothing of the heap -/
def nP (av : List Value) : Array Value → State → Prop := va_Pc av (fun _ => True)
/-- a start that reads a world -/
def sP (D : va_G) (T : gT) (ws : va_W) (av : List Value) : Array Value → State → Prop := va_Pc av (fun U => va_P D gC ws U.heap ∧ gK D T U)
/-- a start that may change a world -/
def qP (D : va_G) (T : gT) (ws : va_W) (av : List Value) (sz : Nat) : Array Value → State → Prop := va_Pc av (fun U => U.heap.size = sz ∧ va_P D gC ws U.heap ∧ gK D T U ∧ va_D (fun _ => True) ws)
/-- the world behind a method -/
def qB {S : Type} (D : va_G) (T : gT) (A : Nat → Prop) (f : S → va_W) (u : S) (t : State) : Prop := va_P D gC (f u) t.heap ∧ gK D T t ∧ va_D A (f u)
theorem nP_b {av : List Value} : FrameBlind (nP av) := fun _ _ _ _ q => q
theorem sP_b {D : va_G} {T : gT} {ws : va_W} {av : List Value} : FrameBlind (sP D T ws av) := fun a U g mk q => ⟨q.1, q.2.1, va_K.moved (u := U) (U := U.calling g mk a) (Vm.Alike.refl U.vm) q.2.2⟩
theorem qP_b {D : va_G} {T : gT} {ws : va_W} {av : List Value} {sz : Nat} : FrameBlind (qP D T ws av sz) := fun a U g mk q => ⟨q.1, q.2.1, q.2.2.1, va_K.moved (u := U) (U := U.calling g mk a) (Vm.Alike.refl U.vm) q.2.2.2.1, q.2.2.2.2⟩
theorem nP_p {s : State} {H : Heap} {av : List Value} : ∀ U : State, U.heap = H → s.WarmedH U.vm → nP av av.toArray U := fun _ _ _ => ⟨rfl, trivial⟩
theorem sP_p {s : State} {H : Heap} {D : va_G} {T : gT} {ws : va_W} {av : List Value} (hP : va_P D gC ws H) (hK : gK D T s) : ∀ U : State, U.heap = H → s.WarmedH U.vm → sP D T ws av av.toArray U := fun U hU hW => ⟨rfl, by rw [hU]; exact hP, va_K.moved hW.alike hK⟩
theorem qP_p {s : State} {H : Heap} {D : va_G} {T : gT} {ws : va_W} {av : List Value} {A : Nat → Prop} (hP : va_P D gC ws H) (hK : gK D T s) (hD : va_D A ws) : ∀ U : State, U.heap = H → s.WarmedH U.vm → qP D T ws av H.size av.toArray U := fun U hU hW => ⟨rfl, by rw [hU], by rw [hU]; exact hP, va_K.moved hW.alike hK, hD.weaken (fun _ _ _ _ => trivial)⟩
theorem g_free {A0 : Nat → Prop} {ws : va_W} {H0 H : Heap} {locs : List Loc} (hD : va_D A0 ws) (hS : va_S A0 H0 H locs) (hA : ∀ q, H0.size ≤ q → A0 q) : ∀ q, va_A ws H.size q → A0 q := by
  intro q h
  rcases h with ⟨k, e, h⟩ | h
  · exact hD.2 k _ h
  · exact hA q (Nat.le_trans hS.1 h)
theorem g_up {A B : Nat → Prop} {ws : va_W} (h : va_D A ws) (hAB : ∀ q, A q → B q) : va_D B ws := h.weaken (fun _ q _ hq => hAB _ hq)
section MyCalls
variable {p : Program} {l : Launch} {e : Env} {R : Room} {s : State} {m : MethodId} {args : Array Value} {below : List Frame} {meth : Method} {c : Code} {H : Heap} {locs : List Loc} {cells slots : Nat} {Q : State → Prop}
variable {pc : Nat} {ls : Array Slot} {rest st0 : List Value} {a : Array Value} {A0 : Nat → Prop} {H0 : Heap} {mc ms : Nat} {D : va_G} {T : gT} {ws : va_W}
/-- a call that takes the whole world and answers an int -/
theorem g_calli {S : Type} {post : Int32 → S → Prop} {f : S → va_W} (hr : va_Run p l e R s m args below meth c H locs cells slots mc ms (F0 m pc ls st0) rest (va_Qi post (qB D T (va_A ws H.size) f) (va_A ws H.size) a) (va_A ws H.size)) (hD : va_D A0 ws) (hS : va_S A0 H0 H locs) (hA : ∀ q, H0.size ≤ q → A0 q)
    (kk : ∀ (r : Int32) (u : S) (H1 : Heap) (locs1 : List Loc), post r u → va_P D gC (f u) H1 → va_D A0 (f u) → va_S A0 H0 H1 locs1 → W p l e R s m args below meth c H1 locs1 (cells + mc) (slots + ms) Q (F0 m (pc + 3) ls (.int r :: rest))) : W p l e R s m args below meth c H locs cells slots Q (F0 m pc ls st0) :=
  va_calli hr hS (fun q _ h => g_free hD hS hA q h) (g_free hD hS hA) (fun r u t H1 locs1 ht _ hw hB _ _ hS1 => kk r u H1 locs1 hw (by rw [← ht]; exact hB.1) (g_up hB.2.2 (g_free hD hS hA)) hS1)
theorem g_callv {S : Type} {post : S → Prop} {f : S → va_W} (hr : va_Run p l e R s m args below meth c H locs cells slots mc ms (F0 m pc ls st0) rest (va_Qv post (qB D T (va_A ws H.size) f) (va_A ws H.size) a) (va_A ws H.size)) (hD : va_D A0 ws) (hS : va_S A0 H0 H locs) (hA : ∀ q, H0.size ≤ q → A0 q)
    (kk : ∀ (u : S) (H1 : Heap) (locs1 : List Loc), post u → va_P D gC (f u) H1 → va_D A0 (f u) → va_S A0 H0 H1 locs1 → W p l e R s m args below meth c H1 locs1 (cells + mc) (slots + ms) Q (F0 m (pc + 3) ls rest)) : W p l e R s m args below meth c H locs cells slots Q (F0 m pc ls st0) :=
  va_callv hr hS (fun q _ h => g_free hD hS hA q h) (g_free hD hS hA) (fun u t H1 locs1 ht _ hw hB _ _ hS1 => kk u H1 locs1 hw (by rw [← ht]; exact hB.1) (g_up hB.2.2 (g_free hD hS hA)) hS1)
end MyCalls
/-! the reference: its object and its arrays, by the places of the fields -/
def mX (T : gT) (o : Nat) (a : Nat → Nat) (z0 z2 z3 z14 z18 z19 z20 z21 z24 z26 : Int32) (f1 f4 f5 f6 f7 f8 f9 f10 f11 f12 f13 f15 f16 f17 f22 f23 f25 f27 : Nat → Int32) : va_W :=
  [(o, .inr (6, [.int z0, .ref (a 1), .int z2, .int z3, .ref (a 4), .ref (a 5), .ref (a 6), .ref (a 7), .ref (a 8), .ref (a 9), .ref (a 10), .ref (a 11), .ref (a 12), .ref (a 13), .int z14, .ref (a 15), .ref (a 16), .ref (a 17), .int z18, .int z19, .int z20, .int z21, .ref (a 22), .ref (a 23), .int z24, .ref (a 25), .int z26, .ref (a 27)])),
   (a 1, .inl (T.1, 24, .inl f1)), (a 4, .inl (T.1, 192, .inl f4)), (a 5, .inl (T.1, 24, .inl f5)), (a 6, .inl (T.2.1, 24, .inl f6)), (a 7, .inl (T.1, 24, .inl f7)), (a 8, .inl (T.1, 24, .inl f8)), (a 9, .inl (T.1, 24, .inl f9)),
   (a 10, .inl (T.1, 144, .inl f10)), (a 11, .inl (T.1, 144, .inl f11)), (a 12, .inl (T.1, 144, .inl f12)), (a 13, .inl (T.1, 144, .inl f13)), (a 15, .inl (T.1, 60, .inl f15)), (a 16, .inl (T.1, 60, .inl f16)), (a 17, .inl (T.1, 60, .inl f17)),
   (a 22, .inl (T.1, 6, .inl f22)), (a 23, .inl (T.1, 40, .inl f23)), (a 25, .inl (T.1, 40, .inl f25)), (a 27, .inl (T.1, 25, .inl f27))]
/-- true and false as the machine holds them -/
def b2i (b : Bool) : Int32 := if b = true then 1 else 0
theorem b2i_t {b : Bool} (h : ¬ b2i b = 0) : b = true := by
  cases b with
  | true => rfl
  | false => exact absurd rfl h
theorem b2i_f {b : Bool} (h : b2i b = 0) : b = false := by
  cases b with
  | false => rfl
  | true => exact absurd h (by decide)
theorem b2i_n (b : Bool) : narrow .boolean (.int (b2i b)) = .int (b2i b) := by cases b <;> rfl
theorem b2i_1 {b : Bool} (h : b = true) : 1 = b2i b := by rw [h]; rfl
theorem b2i_0 {b : Bool} (h : b = false) : 0 = b2i b := by rw [h]; rfl
