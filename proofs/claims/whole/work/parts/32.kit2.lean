/-! OWN KIT: calls that take a part of the world; worlds with a pool behind the fixed cells -/
theorem pc0 {D : va_G} {cl : List vw_C} {H : Heap} : va_P D cl [] H := fun k q h => by simp at h
theorem pc1 {D : va_G} {cl : List vw_C} {H : Heap} {q : Nat × va_E} {ws : va_W} (h : va_at D cl q H) (h2 : va_P D cl ws H) : va_P D cl (q :: ws) H := by
  intro k x hk
  cases k with
  | zero => cases hk; exact h
  | succ k => exact h2 k x hk
theorem pw1 {D : va_G} {cl : List vw_C} {X : va_W} {L : List Nat} {F : Nat → va_E} {H : Heap} {a : Nat} {e : va_E} (hP : va_P D cl (X ++ va_pl L F) H) (ha : a ∈ L) (hf : F a = e) : va_at D cl (a, e) H := by
  obtain ⟨k, hk⟩ := va_pl_get (X := X) (f := F) ha
  rw [← hf]
  exact hP k _ hk
theorem g_freeX {A0 : Nat → Prop} {X cx pl : va_W} {H0 H : Heap} {locs : List Loc} (hD : va_D A0 (X ++ pl)) (hS : va_S A0 H0 H locs) (hA : ∀ q, H0.size ≤ q → A0 q) (isC : List Nat) (hC : isC.map (fun i => X[i]?) = cx.map some) : ∀ q, va_A cx H.size q → A0 q := by
  intro q h
  rcases h with ⟨k, e, h⟩ | h
  · obtain ⟨i, -, hi⟩ := va_in_of isC hC h
    refine hD.2 i (q, e) ?_
    rw [List.getElem?_append_left (List.getElem?_eq_some_iff.mp hi).1]
    exact hi
  · exact hA q (Nat.le_trans hS.1 h)
section MySub
variable {p : Program} {l : Launch} {e : Env} {R : Room} {s : State} {m : MethodId} {args : Array Value} {below : List Frame} {meth : Method} {c : Code} {H : Heap} {locs : List Loc} {cells slots : Nat} {Q : State → Prop}
variable {pc : Nat} {ls : Array Slot} {rest st0 : List Value} {a : Array Value} {A0 : Nat → Prop} {H0 : Heap} {mc ms : Nat} {D : va_G} {T : gT} {X cx wr pl : va_W}
theorem g_subi {S : Type} {post : Int32 → S → Prop} {f : S → va_W} (hr : va_Run p l e R s m args below meth c H locs cells slots mc ms (F0 m pc ls st0) rest (va_Qi post (qB D T (va_A cx H.size) f) (va_A cx H.size) a) (va_A cx H.size)) (hP : va_P D gC (X ++ pl) H) (hD : va_D A0 (X ++ pl)) (hS : va_S A0 H0 H locs) (hA : ∀ q, H0.size ≤ q → A0 q)
    (isC isR : List Nat) (hC : isC.map (fun i => X[i]?) = cx.map some) (hR : isR.map (fun i => X[i]?) = wr.map some) (hn : va_nd isR = true) (hdis : ∀ i ∈ isR, i ∉ isC)
    (kk : ∀ (r : Int32) (u : S) (H1 : Heap) (locs1 : List Loc), post r u → va_P D gC ((wr ++ f u) ++ pl) H1 → va_D A0 ((wr ++ f u) ++ pl) → va_S A0 H0 H1 locs1 → W p l e R s m args below meth c H1 locs1 (cells + mc) (slots + ms) Q (F0 m (pc + 3) ls (.int r :: rest))) : W p l e R s m args below meth c H locs cells slots Q (F0 m pc ls st0) :=
  va_calli hr hS (fun q _ h => g_freeX hD hS hA isC hC q h) (g_freeX hD hS hA isC hC) (fun r u t H1 locs1 ht _ hw hB _ hk hS1 => by
    obtain ⟨h1, h2⟩ := va_joinQ hP hD isC isR hC hR hn hdis hk (g_freeX hD hS hA isC hC) (by rw [← ht]; exact hB.1) hB.2.2
    exact kk r u H1 locs1 hw h1 h2 hS1)
theorem g_subv {S : Type} {post : S → Prop} {f : S → va_W} (hr : va_Run p l e R s m args below meth c H locs cells slots mc ms (F0 m pc ls st0) rest (va_Qv post (qB D T (va_A cx H.size) f) (va_A cx H.size) a) (va_A cx H.size)) (hP : va_P D gC (X ++ pl) H) (hD : va_D A0 (X ++ pl)) (hS : va_S A0 H0 H locs) (hA : ∀ q, H0.size ≤ q → A0 q)
    (isC isR : List Nat) (hC : isC.map (fun i => X[i]?) = cx.map some) (hR : isR.map (fun i => X[i]?) = wr.map some) (hn : va_nd isR = true) (hdis : ∀ i ∈ isR, i ∉ isC)
    (kk : ∀ (u : S) (H1 : Heap) (locs1 : List Loc), post u → va_P D gC ((wr ++ f u) ++ pl) H1 → va_D A0 ((wr ++ f u) ++ pl) → va_S A0 H0 H1 locs1 → W p l e R s m args below meth c H1 locs1 (cells + mc) (slots + ms) Q (F0 m (pc + 3) ls rest)) : W p l e R s m args below meth c H locs cells slots Q (F0 m pc ls st0) :=
  va_callv hr hS (fun q _ h => g_freeX hD hS hA isC hC q h) (g_freeX hD hS hA isC hC) (fun u t H1 locs1 ht _ hw hB _ hk hS1 => by
    obtain ⟨h1, h2⟩ := va_joinQ hP hD isC isR hC hR hn hdis hk (g_freeX hD hS hA isC hC) (by rw [← ht]; exact hB.1) hB.2.2
    exact kk u H1 locs1 hw h1 h2 hS1)
end MySub
/-- a sign of a row, or none -/
def j_at (k : Nat) (f : Nat → Int32) (i : Int32) : Int32 := if i < 0 then -1 else if nI k ≤ i then -1 else f i.toNatClampNeg
theorem at_in {k j : Nat} {f : Nat → Int32} (h : j < k) (hk : k < 2147483648) : j_at k f (nI j) = f j := by
  rw [j_at, if_neg (nI_pos (by omega)), if_neg (nI_ge h hk), nI_clamp (by omega)]
theorem at_out {k j : Nat} {f : Nat → Int32} (h : k ≤ j) (hj : j < 2147483648) : j_at k f (nI j) = -1 := by
  rw [j_at, if_neg (nI_pos (by omega)), if_pos (nI_le h hj)]
theorem vp_big {x : Int32} {n : Nat} (h : ¬ x < 0) (h2 : n ≤ x.toNatClampNeg) : nI n ≤ x := by
  rw [Int32.le_iff_toInt_le]
  rw [Int32.lt_iff_toInt_lt] at h
  have e2 : (0 : Int32).toInt = 0 := by decide
  have e3 : x.toInt < 2147483648 := Int32.toInt_lt x
  have e4 : (x.toNatClampNeg : Int) = x.toInt := by
    rw [Int32.toNatClampNeg, Int.toNat_of_nonneg (by omega)]
  rw [nI_toInt (by omega)]
  omega
theorem b2i_fits (b : Bool) : fits .boolean (.int (b2i b)) = true := by cases b <;> rfl
