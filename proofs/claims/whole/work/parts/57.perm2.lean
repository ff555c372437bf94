/-! the order of the cells: a name more, a reign, a phase more -/
theorem fm_app {α β : Type} (f : α → List β) (xs ys : List α) : (xs ++ ys).flatMap f = xs.flatMap f ++ ys.flatMap f := by
  induction xs with
  | nil => rfl
  | cons x xs ih => simp only [List.cons_append, List.flatMap_cons, ih, List.append_assoc]
theorem fm_one {α β : Type} (f : α → List β) (x : α) : [x].flatMap f = f x := by
  simp only [List.flatMap_cons, List.flatMap_nil, List.append_nil]
theorem tk_dr {α : Type} {xs : List α} {j : Nat} {n : α} (h : xs[j]? = some n) : xs = xs.take j ++ (n :: xs.drop (j + 1)) := by
  obtain ⟨hj, he⟩ := List.getElem?_eq_some_iff.mp h
  rw [← he, ← List.drop_eq_getElem_cons hj, List.take_append_drop]
theorem st_dr {α : Type} {xs : List α} {j : Nat} {n m : α} (h : xs[j]? = some n) : xs.set j m = xs.take j ++ (m :: xs.drop (j + 1)) := by
  obtain ⟨hj, -⟩ := List.getElem?_eq_some_iff.mp h
  exact List.set_eq_take_append_cons_drop.trans (if_pos hj)
theorem pl_l {D : va_G} {cl : List vw_C} {ws pl : va_W} {H : Heap} (h : va_P D cl (ws ++ pl) H) : va_P D cl ws H := va_P.of (fun q hq => h.mem (List.mem_append_left _ hq))
/-- what a new name is -/
def nmP (κ : gS) (S : tS) (fp : Nat → Int32) (kp : Nat) (S1 : tS) : Prop := tOk κ S1 ∧ ∃ (d1 : liD) (n1 : nmD), S1 = (d1, S.2.1 ++ [n1], S.2.2.1, S.2.2.2) ∧ nK n1 = kp ∧ (∀ i, i < kp → nF n1 i = fp i) ∧ nG n1 = none ∧ nH n1 = []
def rgP (κ : gS) (S : tS) (j : Nat) (n : nmD) (x y : Int32) (S1 : tS) : Prop := tOk κ S1 ∧ ∃ q9 : Nat, S1 = (S.1, S.2.1.set j (n.1, n.2.1, n.2.2.1, some (q9, x, y), n.2.2.2.2), S.2.2.1, S.2.2.2)
def phP (κ : gS) (S : tS) (j : Nat) (n : nmD) (pl dy x y : Int32) (S1 : tS) : Prop := tOk κ S1 ∧ ∃ (d1 : liD) (q9 y9 : Nat), S1 = (S.1, S.2.1.set j (n.1, n.2.1, d1, n.2.2.2.1, n.2.2.2.2 ++ [(q9, pl, dy, y9, x, y)]), S.2.2.1, S.2.2.2)
abbrev c9x (T : gT) (aa : Nat → Nat) (zw : Int32) (kp : Nat) (fp : Nat → Int32) (e0 e1 : Int32) (oF oT : Bool) (kt : Nat) (ft : Nat → Int32) (ks : Nat) (fs fc : Nat → Int32) (S : tS) : va_W :=
  [(aa 0, .inr (5, [.ref (aa 1), .ref S.1.1, .ref S.2.2.1.1, .int zw, .ref (aa 3), .ref (aa 4), .ref (aa 6), .ref (aa 8)])),
   (aa 1, .inr (1, [.ref (aa 2), .int (nI kp)])), (aa 2, .inl (T.1, 24, .inl fp)), (aa 3, .inr (2, [.int e0, .int e1, .int (b2i oF), .int (b2i oT)])),
   (aa 4, .inr (1, [.ref (aa 5), .int (nI kt)])), (aa 5, .inl (T.1, 24, .inl ft)), (aa 6, .inr (1, [.ref (aa 7), .int (nI ks)])), (aa 7, .inl (T.1, 24, .inl fs)), (aa 8, .inl (T.1, 9, .inl fc))]
theorem pm_n {α : Type} (A B C N F L Q : List α) : (B ++ (N ++ (((A ++ C) ++ Q) ++ (F ++ L)))).Perm (((A ++ (B ++ C)) ++ Q) ++ (N ++ (F ++ L))) := pmc (fun d z => by simp only [List.count_append]; omega)
theorem pm_m {α : Type} (A B C N F L Q : List α) : ((A ++ (B ++ C)) ++ (N ++ ((F ++ Q) ++ L))).Perm (B ++ (N ++ (((A ++ C) ++ Q) ++ (F ++ L)))) := pmc (fun d z => by simp only [List.count_append]; omega)
section NmPerm
variable {T : gT} {aa : Nat → Nat} {zw : Int32} {kp : Nat} {fp : Nat → Int32} {e0 e1 : Int32} {oF oT : Bool} {kt : Nat} {ft : Nat → Int32} {ks : Nat} {fs fc : Nat → Int32} {S : tS}
theorem nm_go {n1 : nmD} : (liO S.1 (S.2.1.map (fun n => n.1)).length :: (liB T S.1 (S.2.1.map (fun n => n.1)).length ++ (((c9x T aa zw kp fp e0 e1 oF oT kt ft ks fs fc S ++ [liO S.2.2.1 S.2.2.2.length]) ++ nmW T n1) ++ (S.2.1.flatMap (nmW T) ++ (liB T S.2.2.1 S.2.2.2.length ++ S.2.2.2.map spW))))).Perm ((cX T aa zw kp fp e0 e1 oF oT kt ft ks fs fc S ++ nmW T n1) ++ tl T S) := by
  rw [List.length_map]
  exact pm_n (c9x T aa zw kp fp e0 e1 oF oT kt ft ks fs fc S) [liO S.1 S.2.1.length] [liO S.2.2.1 S.2.2.2.length] (liB T S.1 S.2.1.length) (S.2.1.flatMap (nmW T)) (liB T S.2.2.1 S.2.2.2.length ++ S.2.2.2.map spW) (nmW T n1)
theorem nm_back {n1 : nmD} {d1 : liD} (hd : d1.1 = S.1.1) : (cX T aa zw kp fp e0 e1 oF oT kt ft ks fs fc (d1, S.2.1 ++ [n1], S.2.2.1, S.2.2.2) ++ tl T (d1, S.2.1 ++ [n1], S.2.2.1, S.2.2.2)).Perm (liO d1 ((S.2.1.map (fun n => n.1)).length + 1) :: (liB T d1 ((S.2.1.map (fun n => n.1)).length + 1) ++ (((c9x T aa zw kp fp e0 e1 oF oT kt ft ks fs fc S ++ [liO S.2.2.1 S.2.2.2.length]) ++ nmW T n1) ++ (S.2.1.flatMap (nmW T) ++ (liB T S.2.2.1 S.2.2.2.length ++ S.2.2.2.map spW))))) := by
  rw [List.length_map]
  have e : (S.2.1 ++ [n1]).length = S.2.1.length + 1 := by rw [List.length_append]; rfl
  have e1' : cX T aa zw kp fp e0 e1 oF oT kt ft ks fs fc (d1, S.2.1 ++ [n1], S.2.2.1, S.2.2.2) = c9x T aa zw kp fp e0 e1 oF oT kt ft ks fs fc S ++ ([liO d1 (S.2.1.length + 1)] ++ [liO S.2.2.1 S.2.2.2.length]) := by
    simp only [cX, c9x, liO, e, hd, List.cons_append, List.nil_append]
  have e2 : tl T (d1, S.2.1 ++ [n1], S.2.2.1, S.2.2.2) = liB T d1 (S.2.1.length + 1) ++ ((S.2.1.flatMap (nmW T) ++ nmW T n1) ++ (liB T S.2.2.1 S.2.2.2.length ++ S.2.2.2.map spW)) := by
    simp only [tl, e, fm_app, fm_one]
  rw [e1', e2]
  exact pm_m (c9x T aa zw kp fp e0 e1 oF oT kt ft ks fs fc S) [liO d1 (S.2.1.length + 1)] [liO S.2.2.1 S.2.2.2.length] (liB T d1 (S.2.1.length + 1)) (S.2.1.flatMap (nmW T)) (liB T S.2.2.1 S.2.2.2.length ++ S.2.2.2.map spW) (nmW T n1)
end NmPerm
theorem ob_nm {T : gT} {pl : va_W} {xs : List nmD} (h : ∀ q ∈ xs.flatMap (nmW T), q ∈ pl) : ∀ x ∈ xs.map (fun n => n.1), isOb pl x := by
  intro x hx
  obtain ⟨n, h1, rfl⟩ := List.mem_map.mp hx
  exact ob_n (h (nmO n) (List.mem_flatMap.mpr ⟨n, h1, nmm_o⟩))
theorem ob_ph {pl : va_W} {xs : List phD} (h : ∀ q ∈ xs.map phO, q ∈ pl) : ∀ x ∈ xs.map (fun q => q.1), isOb pl x := by
  intro x hx
  obtain ⟨q, h1, rfl⟩ := List.mem_map.mp hx
  exact ob_p (h (phO q) (List.mem_map.mpr ⟨q, h1, rfl⟩))
theorem nm_ok {κ : gS} {S : tS} {n1 : nmD} {d1 : liD} (h : tOk κ S) (hl : S.2.1.length < 24) (hd : liOk κ d1 (S.2.1.map (fun n => n.1) ++ [n1.1])) (hn : nmOk κ n1) : tOk κ (d1, S.2.1 ++ [n1], S.2.2.1, S.2.2.2) := by
  refine ⟨?_, ?_, h.2.2.1, ?_, h.2.2.2.2⟩
  · show liOk κ d1 ((S.2.1 ++ [n1]).map (fun n => n.1))
    rw [List.map_append]; exact hd
  · intro n hn'
    rcases List.mem_append.mp hn' with q | q
    · exact h.2.1 n q
    · rw [List.mem_singleton.mp q]; exact hn
  · show (S.2.1 ++ [n1]).length ≤ 24
    rw [List.length_append]; exact hl
theorem set_ok {κ : gS} {S : tS} {j : Nat} {n n' : nmD} (h : tOk κ S) (hn : S.2.1[j]? = some n) (ha : n'.1 = n.1) (hk : nmOk κ n') : tOk κ (S.1, S.2.1.set j n', S.2.2.1, S.2.2.2) := by
  refine ⟨?_, ?_, h.2.2.1, ?_, h.2.2.2.2⟩
  · show liOk κ S.1 ((S.2.1.set j n').map (fun n => n.1))
    have e : (S.2.1.set j n').map (fun n => n.1) = S.2.1.map (fun n => n.1) := by
      rw [st_dr (m := n') hn]
      conv => rhs; rw [tk_dr hn]
      simp only [List.map_append, List.map_cons, ha]
    rw [e]; exact h.1
  · intro m hm
    rcases List.mem_or_eq_of_mem_set hm with q | q
    · exact h.2.1 m q
    · rw [q]; exact hk
  · show (S.2.1.set j n').length ≤ 24
    rw [List.length_set]; exact h.2.2.2.1
/-! a name taken out of the tail -/
theorem pm_r {α : Type} (X N P O V I B G H R L : List α) : ((X ++ O) ++ (N ++ (P ++ (V ++ (I ++ (B ++ (G ++ (H ++ (R ++ L))))))))).Perm (X ++ (N ++ ((P ++ ((O ++ (V ++ (I ++ (B ++ (G ++ H))))) ++ R)) ++ L))) := pmc (fun d z => by simp only [List.count_append]; omega)
theorem pm_q {α : Type} (X N P O V I B G G' H R L : List α) : ((X ++ (N ++ ((P ++ ((O ++ (V ++ (I ++ (B ++ (G' ++ H))))) ++ R)) ++ L))) ++ G).Perm (((X ++ O) ++ G') ++ (N ++ (P ++ (V ++ (I ++ (B ++ (G ++ (H ++ (R ++ L)))))))) ) := pmc (fun d z => by simp only [List.count_append]; omega)
/-- the rest of the tail -/
def tr (T : gT) (S : tS) (j : Nat) (n : nmD) : va_W := liB T S.1 S.2.1.length ++ ((S.2.1.take j).flatMap (nmW T) ++ ([nmR n, nmV T n] ++ ([liO (nL n) (nH n).length] ++ (liB T (nL n) (nH n).length ++ (nmG n ++ (((nH n).map phO ++ (nH n).map phY) ++ ((S.2.1.drop (j + 1)).flatMap (nmW T) ++ (liB T S.2.2.1 S.2.2.2.length ++ S.2.2.2.map spW))))))))
theorem tl_set {T : gT} {S : tS} {j : Nat} {n n' : nmD} (hn : S.2.1[j]? = some n) : tl T (S.1, S.2.1.set j n', S.2.2.1, S.2.2.2) = liB T S.1 S.2.1.length ++ (((S.2.1.take j).flatMap (nmW T) ++ (nmW T n' ++ (S.2.1.drop (j + 1)).flatMap (nmW T))) ++ (liB T S.2.2.1 S.2.2.2.length ++ S.2.2.2.map spW)) := by
  simp only [tl, List.length_set]
  rw [st_dr (m := n') hn, fm_app, List.flatMap_cons]
theorem tl_at {T : gT} {S : tS} {j : Nat} {n : nmD} (hn : S.2.1[j]? = some n) : tl T S = liB T S.1 S.2.1.length ++ (((S.2.1.take j).flatMap (nmW T) ++ (nmW T n ++ (S.2.1.drop (j + 1)).flatMap (nmW T))) ++ (liB T S.2.2.1 S.2.2.2.length ++ S.2.2.2.map spW)) := by
  have h := tl_set (T := T) (n' := n) hn
  rw [show S.2.1.set j n = S.2.1 from (st_dr hn).trans (tk_dr hn).symm] at h
  exact h
theorem rg_go {T : gT} {S : tS} {j : Nat} {n : nmD} {X : va_W} (hn : S.2.1[j]? = some n) : ((X ++ [nmO n]) ++ tr T S j n).Perm (X ++ tl T S) := by
  rw [tl_at hn]
  exact pm_r X _ _ [nmO n] [nmR n, nmV T n] [liO (nL n) (nH n).length] (liB T (nL n) (nH n).length) (nmG n) ((nH n).map phO ++ (nH n).map phY) _ _
theorem rg_back {T : gT} {S : tS} {j : Nat} {n : nmD} {X : va_W} {r : Nat × Int32 × Int32} (hn : S.2.1[j]? = some n) : ((X ++ tl T (S.1, S.2.1.set j (n.1, n.2.1, n.2.2.1, some r, n.2.2.2.2), S.2.2.1, S.2.2.2)) ++ nmG n).Perm (((X ++ [(nA n, .inr (4, [.ref (nR n), .ref (nL n).1, .ref r.1]))]) ++ [rgY r]) ++ tr T S j n) := by
  rw [tl_set hn]
  exact pm_q X _ _ [(nA n, .inr (4, [.ref (nR n), .ref (nL n).1, .ref r.1]))] [nmR n, nmV T n] [liO (nL n) (nH n).length] (liB T (nL n) (nH n).length) (nmG n) [rgY r] ((nH n).map phO ++ (nH n).map phY) _ _
theorem cX_set {T : gT} {aa : Nat → Nat} {zw : Int32} {kp : Nat} {fp : Nat → Int32} {e0 e1 : Int32} {oF oT : Bool} {kt : Nat} {ft : Nat → Int32} {ks : Nat} {fs fc : Nat → Int32} {S : tS} {j : Nat} {n' : nmD} : cX T aa zw kp fp e0 e1 oF oT kt ft ks fs fc (S.1, S.2.1.set j n', S.2.2.1, S.2.2.2) = cX T aa zw kp fp e0 e1 oF oT kt ft ks fs fc S := by
  simp only [cX, List.length_set]
/-! a phase more -/
theorem pm_u {α : Type} (X N P O V I B G H1 H2 R L Q Y : List α) : (I ++ (B ++ (((X ++ Q) ++ Y) ++ (N ++ (P ++ (O ++ (V ++ (G ++ (H1 ++ (H2 ++ (R ++ L))))))))))).Perm (((X ++ Q) ++ Y) ++ (N ++ ((P ++ ((O ++ (V ++ (I ++ (B ++ (G ++ (H1 ++ H2)))))) ++ R)) ++ L))) := pmc (fun d z => by simp only [List.count_append]; omega)
theorem pm_v {α : Type} (X N P O V I B G H1 H2 R L Q Y : List α) : (X ++ (N ++ ((P ++ ((O ++ (V ++ (I ++ (B ++ (G ++ ((H1 ++ Q) ++ (H2 ++ Y))))))) ++ R)) ++ L))).Perm (I ++ (B ++ (((X ++ Q) ++ Y) ++ (N ++ (P ++ (O ++ (V ++ (G ++ (H1 ++ (H2 ++ (R ++ L))))))))))) := pmc (fun d z => by simp only [List.count_append]; omega)
def tq (T : gT) (S : tS) (j : Nat) (n : nmD) : va_W := liB T S.1 S.2.1.length ++ ((S.2.1.take j).flatMap (nmW T) ++ ([nmO n] ++ ([nmR n, nmV T n] ++ (nmG n ++ ((nH n).map phO ++ ((nH n).map phY ++ ((S.2.1.drop (j + 1)).flatMap (nmW T) ++ (liB T S.2.2.1 S.2.2.2.length ++ S.2.2.2.map spW))))))))
theorem ph_go {T : gT} {S : tS} {j : Nat} {n : nmD} {X : va_W} {q : phD} (hn : S.2.1[j]? = some n) : (liO (nL n) ((nH n).map (fun q => q.1)).length :: (liB T (nL n) ((nH n).map (fun q => q.1)).length ++ (((X ++ [phO q]) ++ [phY q]) ++ tq T S j n))).Perm (((X ++ [phO q]) ++ [phY q]) ++ tl T S) := by
  rw [tl_at hn, List.length_map]
  exact pm_u X _ _ [nmO n] [nmR n, nmV T n] [liO (nL n) (nH n).length] (liB T (nL n) (nH n).length) (nmG n) ((nH n).map phO) ((nH n).map phY) _ _ [phO q] [phY q]
theorem ph_back {T : gT} {S : tS} {j : Nat} {n : nmD} {X : va_W} {q : phD} {d1 : liD} (hn : S.2.1[j]? = some n) (hd : d1.1 = (nL n).1) : (X ++ tl T (S.1, S.2.1.set j (n.1, n.2.1, d1, n.2.2.2.1, n.2.2.2.2 ++ [q]), S.2.2.1, S.2.2.2)).Perm (liO d1 (((nH n).map (fun q => q.1)).length + 1) :: (liB T d1 (((nH n).map (fun q => q.1)).length + 1) ++ (((X ++ [phO q]) ++ [phY q]) ++ tq T S j n))) := by
  rw [tl_set hn, List.length_map]
  have e : (nH n ++ [q]).length = (nH n).length + 1 := by rw [List.length_append]; rfl
  have e2 : nmW T (n.1, n.2.1, d1, n.2.2.2.1, n.2.2.2.2 ++ [q]) = [nmO n] ++ ([nmR n, nmV T n] ++ ([liO d1 ((nH n).length + 1)] ++ (liB T d1 ((nH n).length + 1) ++ (nmG n ++ (((nH n).map phO ++ [phO q]) ++ ((nH n).map phY ++ [phY q])))))) := by
    have hd' : d1.1 = n.2.2.1.1 := hd
    have e' : (n.2.2.2.2 ++ [q]).length = n.2.2.2.2.length + 1 := e
    simp only [nmW, nmO, nmR, nmV, nmG, nA, nR, nV, nK, nF, nL, nG, nH, hd', e', List.map_append, List.map_cons, List.map_nil, List.cons_append, List.nil_append]
  rw [e2]
  exact pm_v X _ _ [nmO n] [nmR n, nmV T n] [liO d1 ((nH n).length + 1)] (liB T d1 ((nH n).length + 1)) (nmG n) ((nH n).map phO) ((nH n).map phY) _ _ [phO q] [phY q]
