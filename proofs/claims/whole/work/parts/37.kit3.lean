/-! OWN KIT: words without a name of their own; what a throw wants; the class's fixed cells -/
theorem wx_66 : Cond.sameField "java/util/ArrayList" "java/util/AbstractList" "modCount" "I" ∈ bg_W := bg_t 66 (by decide +kernel) (by decide +kernel)
theorem wx_365 : Cond.native ⟨"java/lang/Object", "getClass", "()Ljava/lang/Class;"⟩ ∈ bg_W := bg_t 365 (by decide +kernel) (by decide +kernel)
theorem wx_375 : Cond.native ⟨"java/lang/System", "arraycopy", "(Ljava/lang/Object;ILjava/lang/Object;II)V"⟩ ∈ bg_W := bg_t 375 (by decide +kernel) (by decide +kernel)
theorem wx_1058 : Cond.selects "[Ljava/lang/Object;" ⟨"java/lang/Object", "getClass", "()Ljava/lang/Class;"⟩ ⟨"java/lang/Object", "getClass", "()Ljava/lang/Class;"⟩ ∈ bg_W := bg_t 1058 (by decide +kernel) (by decide +kernel)
theorem dl_l {A : Nat → Prop} {cx pl : va_W} (h : va_D A (cx ++ pl)) : va_D A cx := by
  rw [va_D_iff] at h ⊢
  rw [List.map_append] at h
  exact ⟨(List.nodup_append.mp h.1).1, fun q hq => h.2 q (List.mem_append_left _ hq)⟩
theorem va_rfor (r : Option Nat) : va_rf r = .null ∨ ∃ a, va_rf r = .ref a := by
  cases r with
  | none => exact Or.inl rfl
  | some a => exact Or.inr ⟨a, rfl⟩
def tX : List String := ["java/lang/RuntimeException", "java/lang/Exception"]
theorem th_IA_f : Bundle.fit "java/lang/IllegalArgumentException" = true := by decide +kernel
theorem th_IS_f : Bundle.fit "java/lang/IllegalStateException" = true := by decide +kernel
theorem th_IO_f : Bundle.fit "java/lang/IndexOutOfBoundsException" = true := by decide +kernel
theorem th_n : ∀ n ∈ tX, Bundle.fit n = true := by decide +kernel
def cX (T : gT) (aa : Nat → Nat) (zw : Int32) (kp : Nat) (fp : Nat → Int32) (e0 e1 : Int32) (oF oT : Bool) (kt : Nat) (ft : Nat → Int32) (ks : Nat) (fs fc : Nat → Int32) (S : tS) : va_W :=
  [(aa 0, .inr (5, [.ref (aa 1), .ref S.1.1, .ref S.2.2.1.1, .int zw, .ref (aa 3), .ref (aa 4), .ref (aa 6), .ref (aa 8)])),
   (aa 1, .inr (1, [.ref (aa 2), .int (nI kp)])), (aa 2, .inl (T.1, 24, .inl fp)), (aa 3, .inr (2, [.int e0, .int e1, .int (b2i oF), .int (b2i oT)])),
   (aa 4, .inr (1, [.ref (aa 5), .int (nI kt)])), (aa 5, .inl (T.1, 24, .inl ft)), (aa 6, .inr (1, [.ref (aa 7), .int (nI ks)])), (aa 7, .inl (T.1, 24, .inl fs)), (aa 8, .inl (T.1, 9, .inl fc)),
   (S.1.1, .inr (0, [.ref S.1.2.1, .int (nI S.2.1.length), .int S.1.2.2.1])), (S.2.2.1.1, .inr (0, [.ref S.2.2.1.2.1, .int (nI S.2.2.2.length), .int S.2.2.1.2.2.1]))]
theorem wz_IA : Cond.initialized "java/lang/IllegalArgumentException" ∈ bg_W := bg_t 11 (by decide +kernel) (by decide +kernel)
theorem wz_IS : Cond.initialized "java/lang/IllegalStateException" ∈ bg_W := bg_t 12 (by decide +kernel) (by decide +kernel)
theorem wz_IO : Cond.initialized "java/lang/IndexOutOfBoundsException" ∈ bg_W := bg_t 20 (by decide +kernel) (by decide +kernel)
theorem th_IA_m : ∀ w ∈ (vx_atS "TimeWords" 59 "java/lang/IllegalArgumentException" tX).filter goodWord, w ∈ bg_W := by decide +kernel
theorem th_IS_m : ∀ w ∈ (vx_atS "TimeWords" 69 "java/lang/IllegalStateException" tX).filter goodWord, w ∈ bg_W := by decide +kernel
theorem th_IO_m : ∀ w ∈ (vx_atS "TimeWords" 188 "java/lang/IndexOutOfBoundsException" tX).filter goodWord, w ∈ bg_W := by decide +kernel
theorem th_IA_b : ∀ w ∈ (vx_atS "TimeWords" 59 "java/lang/IllegalArgumentException" tX).filter (fun w => !goodWord w), w ∈ [Cond.castable "java/lang/IllegalArgumentException" "java/lang/IllegalArgumentException", .declares ⟨"java/lang/RuntimeException", "<init>", "(Ljava/lang/String;)V"⟩, .declares ⟨"java/lang/Exception", "<init>", "(Ljava/lang/String;)V"⟩, .declares ⟨"java/lang/Throwable", "<init>", "(Ljava/lang/String;)V"⟩] := by decide +kernel
theorem th_IS_b : ∀ w ∈ (vx_atS "TimeWords" 69 "java/lang/IllegalStateException" tX).filter (fun w => !goodWord w), w ∈ [Cond.castable "java/lang/IllegalStateException" "java/lang/IllegalStateException", .declares ⟨"java/lang/RuntimeException", "<init>", "(Ljava/lang/String;)V"⟩, .declares ⟨"java/lang/Exception", "<init>", "(Ljava/lang/String;)V"⟩, .declares ⟨"java/lang/Throwable", "<init>", "(Ljava/lang/String;)V"⟩] := by decide +kernel
theorem th_IO_b : ∀ w ∈ (vx_atS "TimeWords" 188 "java/lang/IndexOutOfBoundsException" tX).filter (fun w => !goodWord w), w ∈ [Cond.castable "java/lang/IndexOutOfBoundsException" "java/lang/IndexOutOfBoundsException", .declares ⟨"java/lang/RuntimeException", "<init>", "(Ljava/lang/String;)V"⟩, .declares ⟨"java/lang/Exception", "<init>", "(Ljava/lang/String;)V"⟩, .declares ⟨"java/lang/Throwable", "<init>", "(Ljava/lang/String;)V"⟩] := by decide +kernel
theorem th_IA_g : ∀ w ∈ Cond.classLink "TimeWords" 55 "java/lang/IllegalArgumentException" :: Cond.initialized "java/lang/IllegalArgumentException" :: vx_atS "TimeWords" 59 "java/lang/IllegalArgumentException" tX, vx_ot w = true := by decide +kernel
theorem th_IS_g : ∀ w ∈ Cond.classLink "TimeWords" 65 "java/lang/IllegalStateException" :: Cond.initialized "java/lang/IllegalStateException" :: vx_atS "TimeWords" 69 "java/lang/IllegalStateException" tX, vx_ot w = true := by decide +kernel
theorem th_IO_g : ∀ w ∈ Cond.classLink "TimeWords" 184 "java/lang/IndexOutOfBoundsException" :: Cond.initialized "java/lang/IndexOutOfBoundsException" :: vx_atS "TimeWords" 188 "java/lang/IndexOutOfBoundsException" tX, vx_ot w = true := by decide +kernel
theorem th_IA_w {κ : gS} {A : Nat → Prop} {s : State} {args : Array Value} (hw : ∀ w ∈ bg_W, w.before args s = true) (hF : sF κ A s) : ∀ w ∈ vx_atS "TimeWords" 59 "java/lang/IllegalArgumentException" tX, w.before args s = true := vx_hat (fun w h => hw w (th_IA_m w h)) th_IA_b (fun w h => by simp only [List.mem_cons, List.not_mem_nil, or_false] at h; rcases h with rfl | rfl | rfl | rfl <;> exact va_Nw.use rfl (hF.2.2.2.1 _ (by simp [sC])))
theorem th_IS_w {κ : gS} {A : Nat → Prop} {s : State} {args : Array Value} (hw : ∀ w ∈ bg_W, w.before args s = true) (hF : sF κ A s) : ∀ w ∈ vx_atS "TimeWords" 69 "java/lang/IllegalStateException" tX, w.before args s = true := vx_hat (fun w h => hw w (th_IS_m w h)) th_IS_b (fun w h => by simp only [List.mem_cons, List.not_mem_nil, or_false] at h; rcases h with rfl | rfl | rfl | rfl <;> exact va_Nw.use rfl (hF.2.2.2.1 _ (by simp [sC])))
theorem th_IO_w {κ : gS} {A : Nat → Prop} {s : State} {args : Array Value} (hw : ∀ w ∈ bg_W, w.before args s = true) (hF : sF κ A s) : ∀ w ∈ vx_atS "TimeWords" 188 "java/lang/IndexOutOfBoundsException" tX, w.before args s = true := vx_hat (fun w h => hw w (th_IO_m w h)) th_IO_b (fun w h => by simp only [List.mem_cons, List.not_mem_nil, or_false] at h; rcases h with rfl | rfl | rfl | rfl <;> exact va_Nw.use rfl (hF.2.2.2.1 _ (by simp [sC])))
