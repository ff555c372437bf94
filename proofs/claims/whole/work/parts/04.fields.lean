def F_R : u_T := fun k => match k with
  | 0 => ("TimeWords$Row", "signs", "[I", true)
  | _ => ("TimeWords$Row", "length", "I", false)
def ty_R : Nat → FieldType := fun k => match k with
  | 0 => .array .int
  | _ => .int
theorem n_R : ∀ a, a < 2 → ∀ b, b < 2 → a ≠ b → (F_R a).2.1 ≠ (F_R b).2.1 := by decide +kernel
theorem ty_R_ok : ∀ k, k < 2 → parseFieldDescriptor (F_R k).2.2.1 = some (ty_R k) := by decide +kernel
theorem in_R : ∀ w ∈ u_ws "TimeWords$Row" F_R 2, w ∈ bg_W := by
  show ∀ w ∈ [Cond.laysFinal "TimeWords$Row" "TimeWords$Row" "signs" "[I", Cond.lays "TimeWords$Row" "TimeWords$Row" "length" "I"], w ∈ bg_W
  exact List.forall_mem_cons.mpr ⟨wl_R_signs, List.forall_mem_cons.mpr ⟨wl_R_length, fun _ h => absurd h List.not_mem_nil⟩⟩
def F_A : u_T := fun k => match k with
  | 0 => ("java/util/ArrayList", "elementData", "[Ljava/lang/Object;", false)
  | 1 => ("java/util/ArrayList", "size", "I", false)
  | _ => ("java/util/AbstractList", "modCount", "I", false)
def ty_A : Nat → FieldType := fun k => match k with
  | 0 => .array (.object "java/lang/Object")
  | 1 => .int
  | _ => .int
theorem n_A : ∀ a, a < 3 → ∀ b, b < 3 → a ≠ b → (F_A a).2.1 ≠ (F_A b).2.1 := by decide +kernel
theorem ty_A_ok : ∀ k, k < 3 → parseFieldDescriptor (F_A k).2.2.1 = some (ty_A k) := by decide +kernel
theorem in_A : ∀ w ∈ u_ws "java/util/ArrayList" F_A 3, w ∈ bg_W := by
  show ∀ w ∈ [Cond.lays "java/util/ArrayList" "java/util/ArrayList" "elementData" "[Ljava/lang/Object;", Cond.lays "java/util/ArrayList" "java/util/ArrayList" "size" "I", Cond.lays "java/util/ArrayList" "java/util/AbstractList" "modCount" "I"], w ∈ bg_W
  exact List.forall_mem_cons.mpr ⟨wl_A_elementData, List.forall_mem_cons.mpr ⟨wl_A_size, List.forall_mem_cons.mpr ⟨wl_A_modCount, fun _ h => absurd h List.not_mem_nil⟩⟩⟩
def F_Y : u_T := fun k => match k with
  | 0 => ("TimeWords$Years", "from", "I", false)
  | 1 => ("TimeWords$Years", "to", "I", false)
  | 2 => ("TimeWords$Years", "openFrom", "Z", false)
  | _ => ("TimeWords$Years", "openTo", "Z", false)
def ty_Y : Nat → FieldType := fun k => match k with
  | 0 => .int
  | 1 => .int
  | 2 => .boolean
  | _ => .boolean
theorem n_Y : ∀ a, a < 4 → ∀ b, b < 4 → a ≠ b → (F_Y a).2.1 ≠ (F_Y b).2.1 := by decide +kernel
theorem ty_Y_ok : ∀ k, k < 4 → parseFieldDescriptor (F_Y k).2.2.1 = some (ty_Y k) := by decide +kernel
theorem in_Y : ∀ w ∈ u_ws "TimeWords$Years" F_Y 4, w ∈ bg_W := by
  show ∀ w ∈ [Cond.lays "TimeWords$Years" "TimeWords$Years" "from" "I", Cond.lays "TimeWords$Years" "TimeWords$Years" "to" "I", Cond.lays "TimeWords$Years" "TimeWords$Years" "openFrom" "Z", Cond.lays "TimeWords$Years" "TimeWords$Years" "openTo" "Z"], w ∈ bg_W
  exact List.forall_mem_cons.mpr ⟨wl_Y_from, List.forall_mem_cons.mpr ⟨wl_Y_to, List.forall_mem_cons.mpr ⟨wl_Y_openFrom, List.forall_mem_cons.mpr ⟨wl_Y_openTo, fun _ h => absurd h List.not_mem_nil⟩⟩⟩⟩
def F_T : u_T := fun k => match k with
  | 0 => ("TimeWords", "pad", "LTimeWords$Row;", true)
  | 1 => ("TimeWords", "names", "Ljava/util/ArrayList;", true)
  | 2 => ("TimeWords", "spans", "Ljava/util/ArrayList;", true)
  | 3 => ("TimeWords", "yearsAbout", "I", false)
  | 4 => ("TimeWords", "found", "LTimeWords$Years;", true)
  | 5 => ("TimeWords", "trial", "LTimeWords$Row;", true)
  | 6 => ("TimeWords", "shortest", "LTimeWords$Row;", true)
  | _ => ("TimeWords", "changes", "[I", true)
def ty_T : Nat → FieldType := fun k => match k with
  | 0 => .object "TimeWords$Row"
  | 1 => .object "java/util/ArrayList"
  | 2 => .object "java/util/ArrayList"
  | 3 => .int
  | 4 => .object "TimeWords$Years"
  | 5 => .object "TimeWords$Row"
  | 6 => .object "TimeWords$Row"
  | _ => .array .int
theorem n_T : ∀ a, a < 8 → ∀ b, b < 8 → a ≠ b → (F_T a).2.1 ≠ (F_T b).2.1 := by decide +kernel
theorem ty_T_ok : ∀ k, k < 8 → parseFieldDescriptor (F_T k).2.2.1 = some (ty_T k) := by decide +kernel
theorem in_T : ∀ w ∈ u_ws "TimeWords" F_T 8, w ∈ bg_W := by
  show ∀ w ∈ [Cond.laysFinal "TimeWords" "TimeWords" "pad" "LTimeWords$Row;", Cond.laysFinal "TimeWords" "TimeWords" "names" "Ljava/util/ArrayList;", Cond.laysFinal "TimeWords" "TimeWords" "spans" "Ljava/util/ArrayList;", Cond.lays "TimeWords" "TimeWords" "yearsAbout" "I", Cond.laysFinal "TimeWords" "TimeWords" "found" "LTimeWords$Years;", Cond.laysFinal "TimeWords" "TimeWords" "trial" "LTimeWords$Row;", Cond.laysFinal "TimeWords" "TimeWords" "shortest" "LTimeWords$Row;", Cond.laysFinal "TimeWords" "TimeWords" "changes" "[I"], w ∈ bg_W
  exact List.forall_mem_cons.mpr ⟨wl_T_pad, List.forall_mem_cons.mpr ⟨wl_T_names, List.forall_mem_cons.mpr ⟨wl_T_spans, List.forall_mem_cons.mpr ⟨wl_T_yearsAbout, List.forall_mem_cons.mpr ⟨wl_T_found, List.forall_mem_cons.mpr ⟨wl_T_trial, List.forall_mem_cons.mpr ⟨wl_T_shortest, List.forall_mem_cons.mpr ⟨wl_T_changes, fun _ h => absurd h List.not_mem_nil⟩⟩⟩⟩⟩⟩⟩⟩
def F_N : u_T := fun k => match k with
  | 0 => ("TimeWords$Name", "letters", "LTimeWords$Row;", true)
  | 1 => ("TimeWords$Name", "phases", "Ljava/util/ArrayList;", true)
  | _ => ("TimeWords$Name", "reigned", "LTimeWords$Years;", false)
def ty_N : Nat → FieldType := fun k => match k with
  | 0 => .object "TimeWords$Row"
  | 1 => .object "java/util/ArrayList"
  | _ => .object "TimeWords$Years"
theorem n_N : ∀ a, a < 3 → ∀ b, b < 3 → a ≠ b → (F_N a).2.1 ≠ (F_N b).2.1 := by decide +kernel
theorem ty_N_ok : ∀ k, k < 3 → parseFieldDescriptor (F_N k).2.2.1 = some (ty_N k) := by decide +kernel
theorem in_N : ∀ w ∈ u_ws "TimeWords$Name" F_N 3, w ∈ bg_W := by
  show ∀ w ∈ [Cond.laysFinal "TimeWords$Name" "TimeWords$Name" "letters" "LTimeWords$Row;", Cond.laysFinal "TimeWords$Name" "TimeWords$Name" "phases" "Ljava/util/ArrayList;", Cond.lays "TimeWords$Name" "TimeWords$Name" "reigned" "LTimeWords$Years;"], w ∈ bg_W
  exact List.forall_mem_cons.mpr ⟨wl_N_letters, List.forall_mem_cons.mpr ⟨wl_N_phases, List.forall_mem_cons.mpr ⟨wl_N_reigned, fun _ h => absurd h List.not_mem_nil⟩⟩⟩
def F_P : u_T := fun k => match k with
  | 0 => ("TimeWords$Phase", "place", "I", true)
  | 1 => ("TimeWords$Phase", "day", "I", true)
  | _ => ("TimeWords$Phase", "years", "LTimeWords$Years;", true)
def ty_P : Nat → FieldType := fun k => match k with
  | 0 => .int
  | 1 => .int
  | _ => .object "TimeWords$Years"
theorem n_P : ∀ a, a < 3 → ∀ b, b < 3 → a ≠ b → (F_P a).2.1 ≠ (F_P b).2.1 := by decide +kernel
theorem ty_P_ok : ∀ k, k < 3 → parseFieldDescriptor (F_P k).2.2.1 = some (ty_P k) := by decide +kernel
theorem in_P : ∀ w ∈ u_ws "TimeWords$Phase" F_P 3, w ∈ bg_W := by
  show ∀ w ∈ [Cond.laysFinal "TimeWords$Phase" "TimeWords$Phase" "place" "I", Cond.laysFinal "TimeWords$Phase" "TimeWords$Phase" "day" "I", Cond.laysFinal "TimeWords$Phase" "TimeWords$Phase" "years" "LTimeWords$Years;"], w ∈ bg_W
  exact List.forall_mem_cons.mpr ⟨wl_P_place, List.forall_mem_cons.mpr ⟨wl_P_day, List.forall_mem_cons.mpr ⟨wl_P_years, fun _ h => absurd h List.not_mem_nil⟩⟩⟩
def F_M : u_T := fun k => match k with
  | 0 => ("TimeWordsModel", "thrown", "I", false)
  | 1 => ("TimeWordsModel", "pad", "[I", true)
  | 2 => ("TimeWordsModel", "padSize", "I", false)
  | 3 => ("TimeWordsModel", "names", "I", false)
  | 4 => ("TimeWordsModel", "letters", "[I", true)
  | 5 => ("TimeWordsModel", "lengths", "[I", true)
  | 6 => ("TimeWordsModel", "hasReign", "[Z", true)
  | 7 => ("TimeWordsModel", "reignFrom", "[I", true)
  | 8 => ("TimeWordsModel", "reignTo", "[I", true)
  | 9 => ("TimeWordsModel", "phases", "[I", true)
  | 10 => ("TimeWordsModel", "phasePlace", "[I", true)
  | 11 => ("TimeWordsModel", "phaseFrom", "[I", true)
  | 12 => ("TimeWordsModel", "phaseTo", "[I", true)
  | 13 => ("TimeWordsModel", "phaseDay", "[I", true)
  | 14 => ("TimeWordsModel", "spans", "I", false)
  | 15 => ("TimeWordsModel", "from", "[I", true)
  | 16 => ("TimeWordsModel", "to", "[I", true)
  | 17 => ("TimeWordsModel", "open", "[I", true)
  | 18 => ("TimeWordsModel", "width", "I", false)
  | 19 => ("TimeWordsModel", "first", "I", false)
  | 20 => ("TimeWordsModel", "last", "I", false)
  | 21 => ("TimeWordsModel", "opened", "I", false)
  | 22 => ("TimeWordsModel", "begins", "[I", true)
  | 23 => ("TimeWordsModel", "made", "[I", true)
  | 24 => ("TimeWordsModel", "madeSize", "I", false)
  | 25 => ("TimeWordsModel", "best", "[I", true)
  | 26 => ("TimeWordsModel", "bestSize", "I", false)
  | _ => ("TimeWordsModel", "row", "[I", true)
def ty_M : Nat → FieldType := fun k => match k with
  | 0 => .int
  | 1 => .array .int
  | 2 => .int
  | 3 => .int
  | 4 => .array .int
  | 5 => .array .int
  | 6 => .array .boolean
  | 7 => .array .int
  | 8 => .array .int
  | 9 => .array .int
  | 10 => .array .int
  | 11 => .array .int
  | 12 => .array .int
  | 13 => .array .int
  | 14 => .int
  | 15 => .array .int
  | 16 => .array .int
  | 17 => .array .int
  | 18 => .int
  | 19 => .int
  | 20 => .int
  | 21 => .int
  | 22 => .array .int
  | 23 => .array .int
  | 24 => .int
  | 25 => .array .int
  | 26 => .int
  | _ => .array .int
theorem n_M : ∀ a, a < 28 → ∀ b, b < 28 → a ≠ b → (F_M a).2.1 ≠ (F_M b).2.1 := by decide +kernel
theorem ty_M_ok : ∀ k, k < 28 → parseFieldDescriptor (F_M k).2.2.1 = some (ty_M k) := by decide +kernel
theorem in_M : ∀ w ∈ u_ws "TimeWordsModel" F_M 28, w ∈ bg_W := by
  show ∀ w ∈ [Cond.lays "TimeWordsModel" "TimeWordsModel" "thrown" "I", Cond.laysFinal "TimeWordsModel" "TimeWordsModel" "pad" "[I", Cond.lays "TimeWordsModel" "TimeWordsModel" "padSize" "I", Cond.lays "TimeWordsModel" "TimeWordsModel" "names" "I", Cond.laysFinal "TimeWordsModel" "TimeWordsModel" "letters" "[I", Cond.laysFinal "TimeWordsModel" "TimeWordsModel" "lengths" "[I", Cond.laysFinal "TimeWordsModel" "TimeWordsModel" "hasReign" "[Z", Cond.laysFinal "TimeWordsModel" "TimeWordsModel" "reignFrom" "[I", Cond.laysFinal "TimeWordsModel" "TimeWordsModel" "reignTo" "[I", Cond.laysFinal "TimeWordsModel" "TimeWordsModel" "phases" "[I", Cond.laysFinal "TimeWordsModel" "TimeWordsModel" "phasePlace" "[I", Cond.laysFinal "TimeWordsModel" "TimeWordsModel" "phaseFrom" "[I", Cond.laysFinal "TimeWordsModel" "TimeWordsModel" "phaseTo" "[I", Cond.laysFinal "TimeWordsModel" "TimeWordsModel" "phaseDay" "[I", Cond.lays "TimeWordsModel" "TimeWordsModel" "spans" "I", Cond.laysFinal "TimeWordsModel" "TimeWordsModel" "from" "[I", Cond.laysFinal "TimeWordsModel" "TimeWordsModel" "to" "[I", Cond.laysFinal "TimeWordsModel" "TimeWordsModel" "open" "[I", Cond.lays "TimeWordsModel" "TimeWordsModel" "width" "I", Cond.lays "TimeWordsModel" "TimeWordsModel" "first" "I", Cond.lays "TimeWordsModel" "TimeWordsModel" "last" "I", Cond.lays "TimeWordsModel" "TimeWordsModel" "opened" "I", Cond.laysFinal "TimeWordsModel" "TimeWordsModel" "begins" "[I", Cond.laysFinal "TimeWordsModel" "TimeWordsModel" "made" "[I", Cond.lays "TimeWordsModel" "TimeWordsModel" "madeSize" "I", Cond.laysFinal "TimeWordsModel" "TimeWordsModel" "best" "[I", Cond.lays "TimeWordsModel" "TimeWordsModel" "bestSize" "I", Cond.laysFinal "TimeWordsModel" "TimeWordsModel" "row" "[I"], w ∈ bg_W
  exact List.forall_mem_cons.mpr ⟨wl_M_thrown, List.forall_mem_cons.mpr ⟨wl_M_pad, List.forall_mem_cons.mpr ⟨wl_M_padSize, List.forall_mem_cons.mpr ⟨wl_M_names, List.forall_mem_cons.mpr ⟨wl_M_letters, List.forall_mem_cons.mpr ⟨wl_M_lengths, List.forall_mem_cons.mpr ⟨wl_M_hasReign, List.forall_mem_cons.mpr ⟨wl_M_reignFrom, List.forall_mem_cons.mpr ⟨wl_M_reignTo, List.forall_mem_cons.mpr ⟨wl_M_phases, List.forall_mem_cons.mpr ⟨wl_M_phasePlace, List.forall_mem_cons.mpr ⟨wl_M_phaseFrom, List.forall_mem_cons.mpr ⟨wl_M_phaseTo, List.forall_mem_cons.mpr ⟨wl_M_phaseDay, List.forall_mem_cons.mpr ⟨wl_M_spans, List.forall_mem_cons.mpr ⟨wl_M_from, List.forall_mem_cons.mpr ⟨wl_M_to, List.forall_mem_cons.mpr ⟨wl_M_open, List.forall_mem_cons.mpr ⟨wl_M_width, List.forall_mem_cons.mpr ⟨wl_M_first, List.forall_mem_cons.mpr ⟨wl_M_last, List.forall_mem_cons.mpr ⟨wl_M_opened, List.forall_mem_cons.mpr ⟨wl_M_begins, List.forall_mem_cons.mpr ⟨wl_M_made, List.forall_mem_cons.mpr ⟨wl_M_madeSize, List.forall_mem_cons.mpr ⟨wl_M_best, List.forall_mem_cons.mpr ⟨wl_M_bestSize, List.forall_mem_cons.mpr ⟨wl_M_row, fun _ h => absurd h List.not_mem_nil⟩⟩⟩⟩⟩⟩⟩⟩⟩⟩⟩⟩⟩⟩⟩⟩⟩⟩⟩⟩⟩⟩⟩⟩⟩⟩⟩⟩
/-- the classes whose objects the worlds hold, by their places: 0 java/util/ArrayList, 1 TimeWords$Row, 2 TimeWords$Years, 3 TimeWords$Phase, 4 TimeWords$Name, 5 TimeWords, 6 TimeWordsModel -/
abbrev gC : List vw_C := [("java/util/ArrayList", F_A, 3), ("TimeWords$Row", F_R, 2), ("TimeWords$Years", F_Y, 4), ("TimeWords$Phase", F_P, 3), ("TimeWords$Name", F_N, 3), ("TimeWords", F_T, 8), ("TimeWordsModel", F_M, 28)]
