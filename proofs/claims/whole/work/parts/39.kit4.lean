/-! OWN KIT: a call that takes a part of the world and answers a reference -/
section MySub2
variable {p : Program} {l : Launch} {e : Env} {R : Room} {s : State} {m : MethodId} {args : Array Value} {below : List Frame} {meth : Method} {c : Code} {H : Heap} {locs : List Loc} {cells slots : Nat} {Q : State → Prop}
variable {pc : Nat} {ls : Array Slot} {rest st0 : List Value} {a : Array Value} {A0 : Nat → Prop} {H0 : Heap} {mc ms : Nat} {D : va_G} {T : gT} {X cx wr pl : va_W}
theorem g_subr {S : Type} {post : S → Prop} {f : S → Nat → va_W} (hr : va_Run p l e R s m args below meth c H locs cells slots mc ms (F0 m pc ls st0) rest (va_Qr post (fun u ra t => qB D T (va_A cx H.size) (fun x => f x ra) u t) (va_A cx H.size) a) (va_A cx H.size)) (hP : va_P D gC (X ++ pl) H) (hD : va_D A0 (X ++ pl)) (hS : va_S A0 H0 H locs) (hA : ∀ q, H0.size ≤ q → A0 q)
    (isC isR : List Nat) (hC : isC.map (fun i => X[i]?) = cx.map some) (hR : isR.map (fun i => X[i]?) = wr.map some) (hn : va_nd isR = true) (hdis : ∀ i ∈ isR, i ∉ isC)
    (kk : ∀ (u : S) (ra : Nat) (H1 : Heap) (locs1 : List Loc), post u → va_P D gC ((wr ++ f u ra) ++ pl) H1 → va_D A0 ((wr ++ f u ra) ++ pl) → va_S A0 H0 H1 locs1 → W p l e R s m args below meth c H1 locs1 (cells + mc) (slots + ms) Q (F0 m (pc + 3) ls (.ref ra :: rest))) : W p l e R s m args below meth c H locs cells slots Q (F0 m pc ls st0) :=
  va_callr hr hS (fun q _ h => g_freeX hD hS hA isC hC q h) (g_freeX hD hS hA isC hC) (fun u ra t H1 locs1 ht _ hw hB _ hk hS1 => by
    obtain ⟨h1, h2⟩ := va_joinQ hP hD isC isR hC hR hn hdis hk (g_freeX hD hS hA isC hC) (by rw [← ht]; exact hB.1) hB.2.2
    exact kk u ra H1 locs1 hw h1 h2 hS1)
end MySub2
theorem nl_shr {n : Nat} (h : n ≤ 100) : nI n >>> ((1 : Int32) &&& 31) = nI (n / 2) := by
  have k := pk_shrN (n := n) (by omega) ((1 : Int32) &&& 31) 1 (by decide)
  rw [Nat.pow_one] at k
  exact k
theorem nl_sub {n : Nat} : nI (n + 1) - nI n = 1 := by
  have k := pk_sub (a := n + 1) (b := n) (by omega)
  rw [Nat.add_sub_cancel_left] at k
  exact k
theorem nl_max {n : Nat} (h : 10 ≤ n) (h2 : n ≤ 100) : (if (1 : Int32) < nI (n / 2) then nI (n / 2) else (1 : Int32)) = nI (n / 2) := if_pos (show nI 1 < nI (n / 2) from nI_lt (by omega) (by omega))
theorem nl_min {n m : Nat} (h : n ≤ m) (h2 : m ≤ 1000) : (if nI m < nI n then nI m else nI n) = nI n := if_neg (nI_nlt (by omega) (by omega))
theorem cpy_lt {f g : Nat → Option Nat} {n j : Nat} (h : j < n) : va_cpy f g 0 0 n j = f j := by
  simp [va_cpy, h]
/-- what a list holds, once it has one more -/
theorem li_up {f : Nat → Option Nat} {xs : List Nat} {q : Nat} (h : ∀ i, i < xs.length → f i = xs[i]?) : ∀ i, i < (xs ++ [q]).length → va_up f xs.length (some q) i = (xs ++ [q])[i]? := by
  intro i hi
  rw [List.length_append] at hi
  by_cases e : i = xs.length
  · subst e
    simp [va_up]
  · have hl : i < xs.length := by simp at hi; omega
    rw [List.getElem?_append_left hl, ← h i hl]
    simp [va_up, e]
