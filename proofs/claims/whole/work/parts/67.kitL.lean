/-! OWN KIT: worlds of two blocks; throws that are caught -/
theorem va_P.rt {D : va_G} {cl : List vw_C} {B C : va_W} {H : Heap} (h : va_P D cl (B ++ C) H) : va_P D cl C H := va_P.of (fun q hq => h.mem (List.mem_append_right _ hq))
theorem va_P.lt {D : va_G} {cl : List vw_C} {B C : va_W} {H : Heap} (h : va_P D cl (B ++ C) H) : va_P D cl B H := va_P.of (fun q hq => h.mem (List.mem_append_left _ hq))
theorem va_D.rt {A : Nat → Prop} {B C : va_W} (h : va_D A (B ++ C)) : va_D A C := by
  rw [va_D_iff] at h ⊢
  rw [List.map_append] at h
  exact ⟨(List.nodup_append.mp h.1).2.1, fun q hq => h.2 q (List.mem_append_right _ hq)⟩
theorem va_D.lt {A : Nat → Prop} {B C : va_W} (h : va_D A (B ++ C)) : va_D A B := by
  rw [va_D_iff] at h ⊢
  rw [List.map_append] at h
  exact ⟨(List.nodup_append.mp h.1).1, fun q hq => h.2 q (List.mem_append_left _ hq)⟩
theorem va_D.apart {A : Nat → Prop} {B C : va_W} (h : va_D A (B ++ C)) {p q : Nat × va_E} (hp : p ∈ B) (hq : q ∈ C) : p.1 ≠ q.1 := by
  rw [va_D_iff, List.map_append] at h
  exact (List.nodup_append.mp h.1).2.2 p.1 (List.mem_map.mpr ⟨p, hp, rfl⟩) q.1 (List.mem_map.mpr ⟨q, hq, rfl⟩)
theorem va_A_mem {ws : va_W} {sz : Nat} {q : Nat} (h : va_A ws sz q) : (∃ p ∈ ws, p.1 = q) ∨ sz ≤ q := by
  rcases h with ⟨k, e, h⟩ | h
  · exact Or.inl ⟨(q, e), List.mem_of_getElem? h, rfl⟩
  · exact Or.inr h
/-- behind a call on the block C: the block B is as it was, C is W1 -/
theorem blk_join {A0 : Nat → Prop} {D : va_G} {B C W1 : va_W} {H H1 : Heap} (hP : va_P D gC (B ++ C) H) (hD : va_D A0 (B ++ C)) (hk : ∀ q : Nat, q < H.size → ¬ va_A C H.size q → H1[q]? = H[q]?) (hF : ∀ q, va_A C H.size q → A0 q) (hP1 : va_P D gC W1 H1) (hD1 : va_D (va_A C H.size) W1) : va_P D gC (B ++ W1) H1 ∧ va_D A0 (B ++ W1) := by
  have hno : ∀ p ∈ B, ¬ va_A C H.size p.1 := fun p hp h => by
    rcases va_A_mem h with ⟨q, hq, e⟩ | h
    · exact hD.apart hp hq e.symm
    · have := (hP.mem (List.mem_append_left _ hp)).lt
      omega
  refine ⟨va_P.of (fun q hq => ?_), ?_⟩
  · rcases List.mem_append.mp hq with h | h
    · have hq := hP.mem (List.mem_append_left C h)
      exact hq.kept (hk _ hq.lt (hno q h))
    · exact hP1.mem h
  · have hB := hD.lt
    rw [va_D_iff] at hB hD1 ⊢
    rw [List.map_append]
    refine ⟨List.nodup_append.mpr ⟨hB.1, hD1.1, fun a ha b hb e => ?_⟩, fun q hq => ?_⟩
    · obtain ⟨p, hp, rfl⟩ := List.mem_map.mp ha
      obtain ⟨q, hq, rfl⟩ := List.mem_map.mp hb
      exact hno p hp (by rw [e]; exact hD1.2 q hq)
    · rcases List.mem_append.mp hq with h | h
      · exact hB.2 q h
      · exact hF _ (hD1.2 q h)
theorem blk_perm {B C : va_W} : (B ++ C).Perm (C ++ B) := List.perm_append_comm
def xF : String → State → State → Prop := fun _ _ _ => False
section MyBlocks
variable {p : Program} {l : Launch} {e : Env} {R : Room} {s : State} {m : MethodId} {args : Array Value} {below : List Frame} {meth : Method} {c : Code} {H : Heap} {locs : List Loc} {cells slots : Nat} {Q : State → Prop}
variable {pc : Nat} {ls : Array Slot} {rest st0 : List Value} {a : Array Value} {A0 : Nat → Prop} {H0 : Heap} {mc ms : Nat} {D : va_G} {T : gT} {B C : va_W}
theorem g_blki {S : Type} {post : Int32 → S → Prop} {f : S → va_W} (hr : va_Run p l e R s m args below meth c H locs cells slots mc ms (F0 m pc ls st0) rest (va_Qi post (qB D T (va_A C H.size) f) (va_A C H.size) a) (va_A C H.size)) (hP : va_P D gC (B ++ C) H) (hD : va_D A0 (B ++ C)) (hS : va_S A0 H0 H locs) (hA : ∀ q, H0.size ≤ q → A0 q)
    (kk : ∀ (r : Int32) (u : S) (H1 : Heap) (locs1 : List Loc), post r u → va_P D gC (B ++ f u) H1 → va_D A0 (B ++ f u) → va_S A0 H0 H1 locs1 → W p l e R s m args below meth c H1 locs1 (cells + mc) (slots + ms) Q (F0 m (pc + 3) ls (.int r :: rest))) : W p l e R s m args below meth c H locs cells slots Q (F0 m pc ls st0) :=
  va_calli hr hS (fun q _ h => g_free hD.rt hS hA q h) (g_free hD.rt hS hA) (fun r u t H1 locs1 ht _ hw hB _ hk hS1 => by
    obtain ⟨j1, j2⟩ := blk_join hP hD hk (g_free hD.rt hS hA) (by rw [← ht]; exact hB.1) hB.2.2
    exact kk r u H1 locs1 hw j1 j2 hS1)
theorem g_blkv {S : Type} {post : S → Prop} {f : S → va_W} (hr : va_Run p l e R s m args below meth c H locs cells slots mc ms (F0 m pc ls st0) rest (va_Qv post (qB D T (va_A C H.size) f) (va_A C H.size) a) (va_A C H.size)) (hP : va_P D gC (B ++ C) H) (hD : va_D A0 (B ++ C)) (hS : va_S A0 H0 H locs) (hA : ∀ q, H0.size ≤ q → A0 q)
    (kk : ∀ (u : S) (H1 : Heap) (locs1 : List Loc), post u → va_P D gC (B ++ f u) H1 → va_D A0 (B ++ f u) → va_S A0 H0 H1 locs1 → W p l e R s m args below meth c H1 locs1 (cells + mc) (slots + ms) Q (F0 m (pc + 3) ls rest)) : W p l e R s m args below meth c H locs cells slots Q (F0 m pc ls st0) :=
  va_callv hr hS (fun q _ h => g_free hD.rt hS hA q h) (g_free hD.rt hS hA) (fun u t H1 locs1 ht _ hw hB _ hk hS1 => by
    obtain ⟨j1, j2⟩ := blk_join hP hD hk (g_free hD.rt hS hA) (by rw [← ht]; exact hB.1) hB.2.2
    exact kk u H1 locs1 hw j1 j2 hS1)
/-- the other way round: the call takes the block that stands ahead -/
theorem g_blqi {S : Type} {post : Int32 → S → Prop} {f : S → va_W} (hr : va_Run p l e R s m args below meth c H locs cells slots mc ms (F0 m pc ls st0) rest (va_Qi post (qB D T (va_A C H.size) f) (va_A C H.size) a) (va_A C H.size)) (hP : va_P D gC (C ++ B) H) (hD : va_D A0 (C ++ B)) (hS : va_S A0 H0 H locs) (hA : ∀ q, H0.size ≤ q → A0 q)
    (kk : ∀ (r : Int32) (u : S) (H1 : Heap) (locs1 : List Loc), post r u → va_P D gC (f u ++ B) H1 → va_D A0 (f u ++ B) → va_S A0 H0 H1 locs1 → W p l e R s m args below meth c H1 locs1 (cells + mc) (slots + ms) Q (F0 m (pc + 3) ls (.int r :: rest))) : W p l e R s m args below meth c H locs cells slots Q (F0 m pc ls st0) :=
  g_blki hr (hP.perm blk_perm) (hD.perm blk_perm) hS hA (fun r u H1 locs1 hw h1 h2 h3 => kk r u H1 locs1 hw (h1.perm blk_perm) (h2.perm blk_perm) h3)
theorem g_blqv {S : Type} {post : S → Prop} {f : S → va_W} (hr : va_Run p l e R s m args below meth c H locs cells slots mc ms (F0 m pc ls st0) rest (va_Qv post (qB D T (va_A C H.size) f) (va_A C H.size) a) (va_A C H.size)) (hP : va_P D gC (C ++ B) H) (hD : va_D A0 (C ++ B)) (hS : va_S A0 H0 H locs) (hA : ∀ q, H0.size ≤ q → A0 q)
    (kk : ∀ (u : S) (H1 : Heap) (locs1 : List Loc), post u → va_P D gC (f u ++ B) H1 → va_D A0 (f u ++ B) → va_S A0 H0 H1 locs1 → W p l e R s m args below meth c H1 locs1 (cells + mc) (slots + ms) Q (F0 m (pc + 3) ls rest)) : W p l e R s m args below meth c H locs cells slots Q (F0 m pc ls st0) :=
  g_blkv hr (hP.perm blk_perm) (hD.perm blk_perm) hS hA (fun u H1 locs1 hw h1 h2 h3 => kk u H1 locs1 hw (h1.perm blk_perm) (h2.perm blk_perm) h3)
/-- one that never throws -/
theorem vx_va {Qa : State → Outcome → State → Prop} {free : Addr → Prop} {g : JFrame} (h : vx_Run p l e R s m args below meth c H locs cells slots mc ms g rest Qa xF free) : va_Run p l e R s m args below meth c H locs cells slots mc ms g rest Qa free := by
  intro T hT X
  rcases h T hT X with h | ⟨q, st₀, t, T', L, E, ce, h0, X', hL, e1, e2, hn, -⟩
  · exact h
  · exact hn.elim
/-- a call that throws and leaves all as it was -/
theorem x_try {E : String} {ws : va_W} (hr : vx_Run p l e R s m args below meth c H locs cells slots 1 6 (F0 m pc ls st0) rest (xN a) (xE E H.size) (fun q => H.size ≤ q)) (hP : va_P D gC ws H) (hS : va_S A0 H0 H locs) (hA : ∀ q, H0.size ≤ q → A0 q)
    (kx : ∀ (ce : Cell) (q9 : Addr) (H1 : Heap) (locs1 : List Loc), va_P D gC ws H1 → va_S A0 H0 H1 locs1 → H1[q9]? = some ce → ce.vm = .none → s.vm.findClass E = some ce.cls → vx_W p l e R s m args below meth c H1 locs1 (cells + 1) (slots + 6) Q (F0 m pc ls rest) q9) : W p l e R s m args below meth c H locs cells slots Q (F0 m pc ls st0) := by
  intro T hT X
  rcases hr T hT X with ⟨v, st₀, t, T', L, h0, X', hL, e1, e2, hn, -⟩ | ⟨q, st₀, t, T', L, E', ce, h0, X', hL, e1, e2, ⟨u, -, hE, hF⟩, hce, hcv, hcl, st⟩
  · exact hn.elim
  · have hE2 : E' = E := hE
    subst hE2
    obtain ⟨k1, k2, k3⟩ := vx_keep (A0 := A0) (H0 := H0) h0 e1 hS (fun q h1 h2 => absurd h2 (Nat.not_le_of_lt h1)) (fun q h => hA q (Nat.le_trans hS.1 h)) hL hF
    obtain ⟨t2, a1, b1⟩ := kx ce q T'.heap (locs ++ L) (hP.kept (fun k z hk => k2 _ (hP k z hk).lt (Nat.not_le_of_lt (hP k z hk).lt))) k3 (by rw [e1]; exact hce) hcv hcl T' rfl X'
    exact ⟨t2, st.trans a1, b1⟩
/-- a call that throws behind changes -/
theorem y_try {S : Type} {E : String} {f : S → va_W} (hr : vx_Run p l e R s m args below meth c H locs cells slots 1 6 (F0 m pc ls st0) rest (xN a) (xQ E D T (va_A C H.size) f) (va_A C H.size)) (hP : va_P D gC (B ++ C) H) (hD : va_D A0 (B ++ C)) (hS : va_S A0 H0 H locs) (hA : ∀ q, H0.size ≤ q → A0 q)
    (kx : ∀ (u : S) (ce : Cell) (q9 : Addr) (H1 : Heap) (locs1 : List Loc), va_P D gC (B ++ f u) H1 → va_D A0 (B ++ f u) → va_S A0 H0 H1 locs1 → H1[q9]? = some ce → ce.vm = .none → s.vm.findClass E = some ce.cls → vx_W p l e R s m args below meth c H1 locs1 (cells + 1) (slots + 6) Q (F0 m pc ls rest) q9) : W p l e R s m args below meth c H locs cells slots Q (F0 m pc ls st0) := by
  intro T1 hT X
  rcases hr T1 hT X with ⟨v, st₀, t, T', L, h0, X', hL, e1, e2, hn, -⟩ | ⟨q, st₀, t, T', L, E', ce, h0, X', hL, e1, e2, ⟨u, -, ⟨hE, hB⟩, hF⟩, hce, hcv, hcl, st⟩
  · exact hn.elim
  · have hE2 : E' = E := hE
    subst hE2
    obtain ⟨k1, k2, k3⟩ := vx_keep (A0 := A0) (H0 := H0) h0 e1 hS (fun q _ h => g_free hD.rt hS hA q h) (g_free hD.rt hS hA) hL hF
    obtain ⟨j1, j2⟩ := blk_join hP hD k2 (g_free hD.rt hS hA) (by rw [e1]; exact hB.1) hB.2.2
    obtain ⟨t2, a1, b1⟩ := kx u ce q T'.heap (locs ++ L) j1 j2 k3 (by rw [e1]; exact hce) hcv hcl T' rfl X'
    exact ⟨t2, st.trans a1, b1⟩
end MyBlocks
theorem bg_SW {own : String} {i n : Nat} {y : MethodName} {b : ByteArray} {r : Option FieldType} {hh : List (Nat × Nat × Nat × Nat)} (h1 : Cond.methodLink own i y ∈ bg_W) (h2 : Cond.static y ∈ bg_W) (h4 : Cond.initialized y.cls ∈ bg_W) (h5 : Cond.codeWith y b n r hh ∈ bg_W) : GoodIn bg_W (va_wsS own i y (Cond.codeWith y b n r hh :: bg_W)) :=
  bg_G (List.forall_mem_append.mpr ⟨List.forall_mem_cons.mpr ⟨h1, List.forall_mem_cons.mpr ⟨h2, List.forall_mem_cons.mpr ⟨h4, fun _ h => absurd h List.not_mem_nil⟩⟩⟩, List.forall_mem_cons.mpr ⟨h5, fun _ h => h⟩⟩)
theorem lup0 {f : Nat → Int64} {v : Int64} : vp_updL f 0 v 0 = v := by simp [vp_updL]
theorem Nw_at {w : Cond} {s : State} {args : Array Value} (h : va_Nw w s) (hc : w.onTables = true) : w.before args s = true := va_tabs hc rfl h
