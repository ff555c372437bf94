/-! the law: what stays, what goes from step to step -/
def lawC (p : Program) (l : Launch) (s : State) (m : MethodId) (c : Code) (b L : Nat) (xs : Nat → Int32) (D : va_G) (T : gT) (κ : gS) : Prop :=
  l.stackTraces = false ∧ p.tables.exec = Jvm.exec ∧ c.code = b_L_law ∧ c.maxLocals = 7 ∧ s.vm.findClass "TimeWordsLaw" = some m.cls ∧ (∀ w ∈ bg_W, w.before #[Value.ref b] s = true) ∧ va_X b L xs s s.heap ∧ b < s.heap.size ∧ gK D T s ∧ sF κ (fun q : Nat => s.heap.size ≤ q) s ∧ L ≤ 3072
def lawK (p : Program) (l : Launch) (e : Env) (s : State) (m : MethodId) (below : List Frame) (meth : Method) (c : Code) (b : Nat) (D : va_G) (T : gT) (κ : gS) (aa : Nat → Nat) (ox o : Nat) (a : Nat → Nat) (t : Nat) (Q : State → Prop) : Prop :=
  ∀ (H : Heap) (locs : List Loc) (ls : Array Slot) (ov : Nat → Int64) (zw : Int32) (kp : Nat) (fp : Nat → Int32) (e0 e1 : Int32) (oF oT : Bool) (kt : Nat) (ft : Nat → Int32) (ks : Nat) (fs fc : Nat → Int32) (S : tS) (z0 : Int32) (pn nn sn : Nat) (z18 z19 z20 z21 z24 z26 : Int32) (f1 f4 f5 f6 f7 f8 f9 f10 f11 f12 f13 f15 f16 f17 f22 f23 f25 f27 : Nat → Int32) (ln ck : Nat → Nat), lawR κ zw kp fp S pn nn sn z18 f1 f4 f5 f6 f7 f8 f9 f10 f11 f12 f13 f15 f16 f17 ln ck → va_P D gC (mX T o a z0 (nI pn) (nI nn) (nI sn) z18 z19 z20 z21 z24 z26 f1 f4 f5 f6 f7 f8 f9 f10 f11 f12 f13 f15 f16 f17 f22 f23 f25 f27 ++ ([(ox, .inl (T.2.2.1, 1, .inr (.inl ov)))] ++ (cX T aa zw kp fp e0 e1 oF oT kt ft ks fs fc S ++ tl T S))) H → va_D (fun q : Nat => s.heap.size ≤ q) (mX T o a z0 (nI pn) (nI nn) (nI sn) z18 z19 z20 z21 z24 z26 f1 f4 f5 f6 f7 f8 f9 f10 f11 f12 f13 f15 f16 f17 f22 f23 f25 f27 ++ ([(ox, .inl (T.2.2.1, 1, .inr (.inl ov)))] ++ (cX T aa zw kp fp e0 e1 oF oT kt ft ks fs fc S ++ tl T S))) → va_S (fun q : Nat => s.heap.size ≤ q) s.heap H locs → lv_has ls 7 [(0, .ref b), (1, .ref (aa 0)), (2, .ref o), (3, .ref ox), (4, .int (nI (6 * t)))] → W p l e room_1 s m #[Value.ref b] below meth c H locs (40 + 8 * (t + 1)) (1400 + 200 * (t + 1)) Q (F0 m 1268 ls [])
theorem lgc (a : Int64) : lg_cmp a a = 0 := by simp [lg_cmp]
theorem nr_congr {d d' : Nat → Nat} {n : Nat} (h : ∀ i, i < n → d i = d' i) : j_nr d n = j_nr d' n := by
  induction n with
  | zero => rfl
  | succ n ih => rw [j_nr, j_nr, ih (fun i hi => h i (by omega)), h n (by omega)]
theorem ed_congr {p w w' : Nat → Int32} : ∀ i j, (∀ k, k < j → w k = w' k) → ed_st p w i j = ed_st p w' i j := by
  intro i
  induction i with
  | zero => intro j _; rfl
  | succ i ih =>
    intro j
    induction j with
    | zero => intro _; rw [ed_i0, ed_i0]
    | succ j jh =>
      intro h
      rw [ed_ss, ed_ss, ih j (fun k hk => h k (by omega)), ih (j + 1) h, jh (fun k hk => h k (by omega)), h j (by omega)]
theorem tie_near {κ : gS} {zw : Int32} {kp : Nat} {fp : Nat → Int32} {S : tS} {pn : Nat} {nn : Nat} {sn : Nat} {z18 : Int32} {f1 : Nat → Int32} {f4 : Nat → Int32} {f5 : Nat → Int32} {f6 : Nat → Int32} {f7 : Nat → Int32} {f8 : Nat → Int32} {f9 : Nat → Int32} {f10 : Nat → Int32} {f11 : Nat → Int32} {f12 : Nat → Int32} {f13 : Nat → Int32} {f15 : Nat → Int32} {f16 : Nat → Int32} {f17 : Nat → Int32} {ln : Nat → Nat} {ck : Nat → Nat} (hR : lawR κ zw kp fp S pn nn sn z18 f1 f4 f5 f6 f7 f8 f9 f10 f11 f12 f13 f15 f16 f17 ln ck) : (j_nr (nd S fp kp) S.2.1.length).1 = (j_nr (fun i => ed_st f1 (fun k => f4 (8 * i + k)) pn (ln i)) nn).1 := by
  have hth := fun (i : Nat) (hi : i < nn) => hR.nth hi
  obtain ⟨⟨-, -, e1, e2, -⟩, hN, -⟩ := hR
  subst e1; subst e2
  rw [hN.1]
  congr 1
  refine nr_congr (fun i hi => ?_)
  obtain ⟨n, hn⟩ := hth i hi
  obtain ⟨⟨t1, t2, -⟩, -⟩ := hN.2.2.2.1 i n hn
  rw [nd_at hn, ← t1]
  exact ed_congr _ _ t2
theorem tie_clear {κ : gS} {zw : Int32} {kp : Nat} {fp : Nat → Int32} {S : tS} {pn : Nat} {nn : Nat} {sn : Nat} {z18 : Int32} {f1 : Nat → Int32} {f4 : Nat → Int32} {f5 : Nat → Int32} {f6 : Nat → Int32} {f7 : Nat → Int32} {f8 : Nat → Int32} {f9 : Nat → Int32} {f10 : Nat → Int32} {f11 : Nat → Int32} {f12 : Nat → Int32} {f13 : Nat → Int32} {f15 : Nat → Int32} {f16 : Nat → Int32} {f17 : Nat → Int32} {ln : Nat → Nat} {ck : Nat → Nat} (hR : lawR κ zw kp fp S pn nn sn z18 f1 f4 f5 f6 f7 f8 f9 f10 f11 f12 f13 f15 f16 f17 ln ck) : nI kp = nI pn ∧ lawR κ zw 0 fp S 0 nn sn z18 f1 f4 f5 f6 f7 f8 f9 f10 f11 f12 f13 f15 f16 f17 ln ck := by
  obtain ⟨⟨h1, h2, h3, h4, h5⟩, hN, hS⟩ := hR
  exact ⟨by rw [h3], ⟨h1, Nat.zero_le _, rfl, h4, h5⟩, hN, hS⟩