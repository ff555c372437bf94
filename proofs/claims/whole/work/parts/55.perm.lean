/-! the order of the cells: lists that grow -/
theorem pmc {α : Type} {l r : List α} (h : ∀ (d : DecidableEq α) (z : α), l.count z = r.count z) : l.Perm r := by
  have d : DecidableEq α := fun a b => Classical.propDecidable (a = b)
  exact List.perm_iff_count.mpr (h d)
theorem pm_s {α : Type} (A B N F L M Q : List α) : (B ++ (L ++ ((A ++ Q) ++ (N ++ (F ++ M))))).Perm (((A ++ B) ++ Q) ++ (N ++ (F ++ (L ++ M)))) := pmc (fun d z => by simp only [List.count_append]; omega)
theorem pm_t {α : Type} (A B N F L M Q : List α) : ((A ++ B) ++ (N ++ (F ++ (L ++ (M ++ Q))))).Perm (B ++ (L ++ ((A ++ Q) ++ (N ++ (F ++ M))))) := pmc (fun d z => by simp only [List.count_append]; omega)
/-- a span more -/
def spP (κ : gS) (S : tS) (x y : Int32) (b c : Bool) (S1 : tS) : Prop := tOk κ S1 ∧ ∃ (q9 : Nat) (d1 : liD), S1 = (S.1, S.2.1, d1, S.2.2.2 ++ [(q9, x, y, b, c)])
abbrev c10 (T : gT) (aa : Nat → Nat) (zw : Int32) (kp : Nat) (fp : Nat → Int32) (e0 e1 : Int32) (oF oT : Bool) (kt : Nat) (ft : Nat → Int32) (ks : Nat) (fs fc : Nat → Int32) (S : tS) : va_W :=
  [(aa 0, .inr (5, [.ref (aa 1), .ref S.1.1, .ref S.2.2.1.1, .int zw, .ref (aa 3), .ref (aa 4), .ref (aa 6), .ref (aa 8)])),
   (aa 1, .inr (1, [.ref (aa 2), .int (nI kp)])), (aa 2, .inl (T.1, 24, .inl fp)), (aa 3, .inr (2, [.int e0, .int e1, .int (b2i oF), .int (b2i oT)])),
   (aa 4, .inr (1, [.ref (aa 5), .int (nI kt)])), (aa 5, .inl (T.1, 24, .inl ft)), (aa 6, .inr (1, [.ref (aa 7), .int (nI ks)])), (aa 7, .inl (T.1, 24, .inl fs)), (aa 8, .inl (T.1, 9, .inl fc)),
   (S.1.1, .inr (0, [.ref S.1.2.1, .int (nI S.2.1.length), .int S.1.2.2.1]))]
section SpPerm
variable {T : gT} {aa : Nat → Nat} {zw : Int32} {kp : Nat} {fp : Nat → Int32} {e0 e1 : Int32} {oF oT : Bool} {kt : Nat} {ft : Nat → Int32} {ks : Nat} {fs fc : Nat → Int32} {S : tS}
theorem sp_go {q : spD} : (liO S.2.2.1 (S.2.2.2.map (fun q => q.1)).length :: (liB T S.2.2.1 (S.2.2.2.map (fun q => q.1)).length ++ ((c10 T aa zw kp fp e0 e1 oF oT kt ft ks fs fc S ++ [spW q]) ++ (liB T S.1 S.2.1.length ++ (S.2.1.flatMap (nmW T) ++ S.2.2.2.map spW))))).Perm ((cX T aa zw kp fp e0 e1 oF oT kt ft ks fs fc S ++ [spW q]) ++ tl T S) := by
  rw [List.length_map]
  exact pm_s (c10 T aa zw kp fp e0 e1 oF oT kt ft ks fs fc S) [liO S.2.2.1 S.2.2.2.length] (liB T S.1 S.2.1.length) (S.2.1.flatMap (nmW T)) (liB T S.2.2.1 S.2.2.2.length) (S.2.2.2.map spW) [spW q]
theorem sp_back {q : spD} {d1 : liD} (hd : d1.1 = S.2.2.1.1) : (cX T aa zw kp fp e0 e1 oF oT kt ft ks fs fc (S.1, S.2.1, d1, S.2.2.2 ++ [q]) ++ tl T (S.1, S.2.1, d1, S.2.2.2 ++ [q])).Perm (liO d1 ((S.2.2.2.map (fun q => q.1)).length + 1) :: (liB T d1 ((S.2.2.2.map (fun q => q.1)).length + 1) ++ ((c10 T aa zw kp fp e0 e1 oF oT kt ft ks fs fc S ++ [spW q]) ++ (liB T S.1 S.2.1.length ++ (S.2.1.flatMap (nmW T) ++ S.2.2.2.map spW))))) := by
  rw [List.length_map]
  have e : (S.2.2.2 ++ [q]).length = S.2.2.2.length + 1 := by rw [List.length_append]; rfl
  have e1' : cX T aa zw kp fp e0 e1 oF oT kt ft ks fs fc (S.1, S.2.1, d1, S.2.2.2 ++ [q]) = c10 T aa zw kp fp e0 e1 oF oT kt ft ks fs fc S ++ [liO d1 (S.2.2.2.length + 1)] := by
    simp only [cX, c10, liO, e, hd, List.cons_append, List.nil_append]
  have e2 : tl T (S.1, S.2.1, d1, S.2.2.2 ++ [q]) = liB T S.1 S.2.1.length ++ (S.2.1.flatMap (nmW T) ++ (liB T d1 (S.2.2.2.length + 1) ++ (S.2.2.2.map spW ++ [spW q]))) := by
    simp only [tl, e, List.map_append, List.map_cons, List.map_nil]
  rw [e1', e2]
  exact pm_t (c10 T aa zw kp fp e0 e1 oF oT kt ft ks fs fc S) [liO d1 (S.2.2.2.length + 1)] (liB T S.1 S.2.1.length) (S.2.1.flatMap (nmW T)) (liB T d1 (S.2.2.2.length + 1)) (S.2.2.2.map spW) [spW q]
end SpPerm
theorem ob_y {pl : va_W} {a : Nat} {fs : List Value} (h : (a, .inr (2, fs)) ∈ pl) : isOb pl a := ⟨2, fs, _, h, rfl, by simp [sC]⟩
theorem ob_n {pl : va_W} {a : Nat} {fs : List Value} (h : (a, .inr (4, fs)) ∈ pl) : isOb pl a := ⟨4, fs, _, h, rfl, by simp [sC]⟩
theorem ob_p {pl : va_W} {a : Nat} {fs : List Value} (h : (a, .inr (3, fs)) ∈ pl) : isOb pl a := ⟨3, fs, _, h, rfl, by simp [sC]⟩
theorem ob_sp {pl : va_W} {xs : List spD} (h : ∀ q ∈ xs.map spW, q ∈ pl) : ∀ x ∈ xs.map (fun q => q.1), isOb pl x := by
  intro x hx
  obtain ⟨q, h1, rfl⟩ := List.mem_map.mp hx
  exact ob_y (h (spW q) (List.mem_map.mpr ⟨q, h1, rfl⟩))
theorem sp_ok {κ : gS} {S : tS} {q : spD} {d1 : liD} (h : tOk κ S) (hl : S.2.2.2.length < 60) (hd : liOk κ d1 (S.2.2.2.map (fun q => q.1) ++ [q.1])) : tOk κ (S.1, S.2.1, d1, S.2.2.2 ++ [q]) := by
  refine ⟨h.1, h.2.1, ?_, h.2.2.2.1, ?_⟩
  · show liOk κ d1 ((S.2.2.2 ++ [q]).map (fun q => q.1))
    rw [List.map_append]; exact hd
  · show (S.2.2.2 ++ [q]).length ≤ 60
    rw [List.length_append]; exact hl
