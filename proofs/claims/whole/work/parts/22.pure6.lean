/-! pure words: what is tried for the shortest word -/
theorem ls_put {g : Nat → Int32} {n : Nat} {s : Int32} : j_ls (upd g n s) (n + 1) = j_ls g n ++ [s] := by
  have h := ls_app (f := g) (g := fun _ => s) (h := upd g n s) (a := n) (b := 1) (fun k hk => pk_un (by omega)) (fun k hk => by rw [show n + k = n by omega]; exact pk_us)
  rw [h]
  rfl
theorem ls_cp {f g1 g2 : Nat → Int32} {n k : Nat} (h : cpI f g1 g2 n k) : j_ls g2 (n + k) = j_ls f n ++ j_ls g1 k := ls_app (fun i hi => h.2 i (Or.inl hi)) h.1
theorem ls_cp0 {f g1 g2 : Nat → Int32} {k : Nat} (h : cpI f g1 g2 0 k) : j_ls g2 k = j_ls g1 k := ls_congr (fun i hi => by have := h.1 i hi; rw [Nat.zero_add] at this; exact this)
theorem cpI_s0 {f g1 g2 : Nat → Int32} {k : Nat} (h : cpI f g1 g2 0 k) : cpI f g1 (upd g2 k (g1 k)) 0 (k + 1) := by
  have := cpI_s h
  simp only [Nat.zero_add] at this
  exact this
theorem up_yes {f25 g : Nat → Int32} {bn mn : Nat} {L bl : List Int32} (hb : j_ls f25 bn = bl) (hM : j_ls g mn = L) (h : bn = 0 ∨ j_sh g f25 mn bn) : j_up L bl = L := by
  rw [j_up, if_pos]
  rcases h with h | h
  · left; subst h; rw [← hb]; rfl
  · right; rw [← hb, ← hM]; exact sl_iff.mpr h
theorem up_no {f25 g : Nat → Int32} {bn mn : Nat} {L bl : List Int32} (hb : j_ls f25 bn = bl) (hM : j_ls g mn = L) (h : ¬ (bn = 0 ∨ j_sh g f25 mn bn)) : j_up L bl = bl := by
  rw [j_up, if_neg]
  rintro (q | q)
  · refine h (Or.inl ?_)
    have := congrArg List.length hb
    rw [ls_len, q] at this
    exact this
  · exact h (Or.inr (sl_iff.mp (by rw [hb, hM]; exact q)))
/-- the century's years -/
def j_qc (c : Nat) : jS := (100 * (nI c - 1) + 1, 100 * nI c, 0)
/-- its signs -/
def j_ct (c : Nat) : List Int32 := if 9 < c then [nI (48 + c / 10), nI (48 + c % 10), 99] else [nI (48 + c % 10), 99]
/-- what stands behind the beginning that may be wanting: a century, a third of one, a name -/
def j_src (wd : Int32) (th : Option Nat) (nv : Nat → Option jS) (c : Nat) : Option jS := if c ≤ 99 then j_oa wd th (j_qc c) else nv (c - 100)
def j_ss (wd : Int32) (bo : Option Nat) (s : Option jS) (b fr to : Int32) : Bool := match s with
  | none => false
  | some q => j_sb wd bo q b fr to
def j_tx (bo th : Option Nat) (f4 : Nat → Int32) (ln : Nat → Nat) (c : Nat) : List Int32 := j_ot bo ++ j_ot th ++ (if c ≤ 99 then j_ct c else j_ls (fun k => f4 (8 * (c - 100) + k)) (ln (c - 100)))
/-- one try -/
def j_try (ss : Bool) (w bl : List Int32) : List Int32 := if ss = true then j_up w bl else bl
