/-! A SHORE OF THE CLASS IS COPIED -/
def Fr2 (M M' : Mm) (b n : Nat) : Prop := mK M' = mK M ∧ mR M' = mR M ∧ mT M' = mT M ∧ ∀ x, x < b ∨ b + n ≤ x → mI M' x = mI M x ∧ mL M' x = mL M x
theorem Fr2.rf {M : Mm} {b n : Nat} : Fr2 M M b n := ⟨rfl, rfl, rfl, fun _ _ => ⟨rfl, rfl⟩⟩
theorem Fr2.tr {M M' M'' : Mm} {b n : Nat} (h : Fr2 M M' b n) (h2 : Fr2 M' M'' b n) : Fr2 M M'' b n := ⟨h2.1.trans h.1, h2.2.1.trans h.2.1, h2.2.2.1.trans h.2.2.1, fun x hx => ⟨(h2.2.2.2 x hx).1.trans (h.2.2.2 x hx).1, (h2.2.2.2 x hx).2.trans (h.2.2.2 x hx).2⟩⟩
theorem Fr2.wd {M M' : Mm} {b n b' n' : Nat} (h : Fr2 M M' b n) (h1 : b' ≤ b) (h2 : b + n ≤ b' + n') : Fr2 M M' b' n' := ⟨h.1, h.2.1, h.2.2.1, fun x hx => h.2.2.2 x (by omega)⟩
theorem Fr2.sI {M M' : Mm} {b n x k : Nat} {v : Int32} (h : Fr2 M M' b n) (h1 : b ≤ x) (h2 : x < b + n) : Fr2 M (sI M' x k v) b n := ⟨h.1, h.2.1, h.2.2.1, fun w hw => ⟨(mI_o (by omega)).trans (h.2.2.2 w hw).1, (h.2.2.2 w hw).2⟩⟩
theorem Fr2.sL {M M' : Mm} {b n x k : Nat} {v : Int64} (h : Fr2 M M' b n) (h1 : b ≤ x) (h2 : x < b + n) : Fr2 M (sL M' x k v) b n := ⟨h.1, h.2.1, h.2.2.1, fun w hw => ⟨(h.2.2.2 w hw).1, (mL_o (by omega)).trans (h.2.2.2 w hw).2⟩⟩
theorem Fr2.cp {M M' : Mm} {b n x y s d k : Nat} (h : Fr2 M M' b n) (h1 : b ≤ x) (h2 : x < b + n) : Fr2 M (cpI M' y s x d k) b n := ⟨h.1, h.2.1, h.2.2.1, fun w hw => ⟨(show mI (cpI M' y s x d k) w = mI M' w from funext fun j => if_neg (by omega)).trans (h.2.2.2 w hw).1, (h.2.2.2 w hw).2⟩⟩
section K
variable {M : Mm} {x y : Nat}
theorem c_X1_row0 (hne : x ≠ y) : mI (sL M x 0 (mL M y 0)) y = mI M y := by
  rfl
theorem c_X1_row1 (hne : x ≠ y) : mI (sI (sL M x 0 (mL M y 0)) x 1 (mI M y 1)) y = mI M y := by
  rw [mI_o (Ne.symm hne)]
  exact c_X1_row0 hne
theorem c_X1_row2 (hne : x ≠ y) : mI (sI (sI (sL M x 0 (mL M y 0)) x 1 (mI M y 1)) x 2 (mI M y 2)) y = mI M y := by
  rw [mI_o (Ne.symm hne)]
  exact c_X1_row1 hne
theorem c_X1_row3 (hne : x ≠ y) : mI (sI (sI (sI (sL M x 0 (mL M y 0)) x 1 (mI M y 1)) x 2 (mI M y 2)) x 3 (mI M y 3)) y = mI M y := by
  rw [mI_o (Ne.symm hne)]
  exact c_X1_row2 hne
theorem c_X1_row4 (hne : x ≠ y) : mI (sI (sI (sI (sI (sL M x 0 (mL M y 0)) x 1 (mI M y 1)) x 2 (mI M y 2)) x 3 (mI M y 3)) x 4 (mI M y 4)) y = mI M y := by
  rw [mI_o (Ne.symm hne)]
  exact c_X1_row3 hne
theorem c_X1_row5 (hne : x ≠ y) : mI (sI (sI (sI (sI (sI (sL M x 0 (mL M y 0)) x 1 (mI M y 1)) x 2 (mI M y 2)) x 3 (mI M y 3)) x 4 (mI M y 4)) x 5 (mI M y 5)) y = mI M y := by
  rw [mI_o (Ne.symm hne)]
  exact c_X1_row4 hne
theorem c_X1_row6 (hne : x ≠ y) : mI (sI (sI (sI (sI (sI (sI (sL M x 0 (mL M y 0)) x 1 (mI M y 1)) x 2 (mI M y 2)) x 3 (mI M y 3)) x 4 (mI M y 4)) x 5 (mI M y 5)) x 6 (mI M y 6)) y = mI M y := by
  rw [mI_o (Ne.symm hne)]
  exact c_X1_row5 hne
theorem c_X1_row7 (hne : x ≠ y) : mI (sI (sI (sI (sI (sI (sI (sI (sL M x 0 (mL M y 0)) x 1 (mI M y 1)) x 2 (mI M y 2)) x 3 (mI M y 3)) x 4 (mI M y 4)) x 5 (mI M y 5)) x 6 (mI M y 6)) x 7 (mI M y 7)) y = mI M y := by
  rw [mI_o (Ne.symm hne)]
  exact c_X1_row6 hne
theorem c_X1_row8 (hne : x ≠ y) : mI (sI (sI (sI (sI (sI (sI (sI (sI (sL M x 0 (mL M y 0)) x 1 (mI M y 1)) x 2 (mI M y 2)) x 3 (mI M y 3)) x 4 (mI M y 4)) x 5 (mI M y 5)) x 6 (mI M y 6)) x 7 (mI M y 7)) x 8 (mI M y 8)) y = mI M y := by
  rw [mI_o (Ne.symm hne)]
  exact c_X1_row7 hne
theorem c_X1 (hx : (mK M x).1 = 1) (hy : (mK M y).1 = 1) (hne : x ≠ y) (hz : mI M y 8 = 0 ∨ mI M y 8 = 1) : ∃ M', f_X1_copyFrom M (some x) (some y) = some M' ∧ Fr2 M M' x 1 ∧ (∀ f, 1 ≤ f → f ≤ 8 → mI M' x f = mI M y f) ∧ mL M' x 0 = mL M y 0 := by
  refine ⟨sI (sI (sI (sI (sI (sI (sI (sI (sL M x 0 (mL M y 0)) x 1 (mI M y 1)) x 2 (mI M y 2)) x 3 (mI M y 3)) x 4 (mI M y 4)) x 5 (mI M y 5)) x 6 (mI M y 6)) x 7 (mI M y 7)) x 8 (mI M y 8), ?_, ((((((((Fr2.rf.sL (by omega) (by omega)).sI (by omega) (by omega)).sI (by omega) (by omega)).sI (by omega) (by omega)).sI (by omega) (by omega)).sI (by omega) (by omega)).sI (by omega) (by omega)).sI (by omega) (by omega)).sI (by omega) (by omega), fun f h1 h2 => ?_, ?_⟩
  · unfold f_X1_copyFrom
    rw [gfL_s hy, pfL_s hx]
    rw [gfI_s (M := sL M x 0 (mL M y 0)) hy, show mI (sL M x 0 (mL M y 0)) y 1 = mI M y 1 from congrFun (c_X1_row0 hne) 1, pfI_s (M := sL M x 0 (mL M y 0)) hx]
    rw [gfI_s (M := sI (sL M x 0 (mL M y 0)) x 1 (mI M y 1)) hy, show mI (sI (sL M x 0 (mL M y 0)) x 1 (mI M y 1)) y 2 = mI M y 2 from congrFun (c_X1_row1 hne) 2, pfI_s (M := sI (sL M x 0 (mL M y 0)) x 1 (mI M y 1)) hx]
    rw [gfI_s (M := sI (sI (sL M x 0 (mL M y 0)) x 1 (mI M y 1)) x 2 (mI M y 2)) hy, show mI (sI (sI (sL M x 0 (mL M y 0)) x 1 (mI M y 1)) x 2 (mI M y 2)) y 3 = mI M y 3 from congrFun (c_X1_row2 hne) 3, pfI_s (M := sI (sI (sL M x 0 (mL M y 0)) x 1 (mI M y 1)) x 2 (mI M y 2)) hx]
    rw [gfI_s (M := sI (sI (sI (sL M x 0 (mL M y 0)) x 1 (mI M y 1)) x 2 (mI M y 2)) x 3 (mI M y 3)) hy, show mI (sI (sI (sI (sL M x 0 (mL M y 0)) x 1 (mI M y 1)) x 2 (mI M y 2)) x 3 (mI M y 3)) y 4 = mI M y 4 from congrFun (c_X1_row3 hne) 4, pfI_s (M := sI (sI (sI (sL M x 0 (mL M y 0)) x 1 (mI M y 1)) x 2 (mI M y 2)) x 3 (mI M y 3)) hx]
    rw [gfI_s (M := sI (sI (sI (sI (sL M x 0 (mL M y 0)) x 1 (mI M y 1)) x 2 (mI M y 2)) x 3 (mI M y 3)) x 4 (mI M y 4)) hy, show mI (sI (sI (sI (sI (sL M x 0 (mL M y 0)) x 1 (mI M y 1)) x 2 (mI M y 2)) x 3 (mI M y 3)) x 4 (mI M y 4)) y 5 = mI M y 5 from congrFun (c_X1_row4 hne) 5, pfI_s (M := sI (sI (sI (sI (sL M x 0 (mL M y 0)) x 1 (mI M y 1)) x 2 (mI M y 2)) x 3 (mI M y 3)) x 4 (mI M y 4)) hx]
    rw [gfI_s (M := sI (sI (sI (sI (sI (sL M x 0 (mL M y 0)) x 1 (mI M y 1)) x 2 (mI M y 2)) x 3 (mI M y 3)) x 4 (mI M y 4)) x 5 (mI M y 5)) hy, show mI (sI (sI (sI (sI (sI (sL M x 0 (mL M y 0)) x 1 (mI M y 1)) x 2 (mI M y 2)) x 3 (mI M y 3)) x 4 (mI M y 4)) x 5 (mI M y 5)) y 6 = mI M y 6 from congrFun (c_X1_row5 hne) 6, pfI_s (M := sI (sI (sI (sI (sI (sL M x 0 (mL M y 0)) x 1 (mI M y 1)) x 2 (mI M y 2)) x 3 (mI M y 3)) x 4 (mI M y 4)) x 5 (mI M y 5)) hx]
    rw [gfI_s (M := sI (sI (sI (sI (sI (sI (sL M x 0 (mL M y 0)) x 1 (mI M y 1)) x 2 (mI M y 2)) x 3 (mI M y 3)) x 4 (mI M y 4)) x 5 (mI M y 5)) x 6 (mI M y 6)) hy, show mI (sI (sI (sI (sI (sI (sI (sL M x 0 (mL M y 0)) x 1 (mI M y 1)) x 2 (mI M y 2)) x 3 (mI M y 3)) x 4 (mI M y 4)) x 5 (mI M y 5)) x 6 (mI M y 6)) y 7 = mI M y 7 from congrFun (c_X1_row6 hne) 7, pfI_s (M := sI (sI (sI (sI (sI (sI (sL M x 0 (mL M y 0)) x 1 (mI M y 1)) x 2 (mI M y 2)) x 3 (mI M y 3)) x 4 (mI M y 4)) x 5 (mI M y 5)) x 6 (mI M y 6)) hx]
    rw [gfI_s (M := sI (sI (sI (sI (sI (sI (sI (sL M x 0 (mL M y 0)) x 1 (mI M y 1)) x 2 (mI M y 2)) x 3 (mI M y 3)) x 4 (mI M y 4)) x 5 (mI M y 5)) x 6 (mI M y 6)) x 7 (mI M y 7)) hy, show mI (sI (sI (sI (sI (sI (sI (sI (sL M x 0 (mL M y 0)) x 1 (mI M y 1)) x 2 (mI M y 2)) x 3 (mI M y 3)) x 4 (mI M y 4)) x 5 (mI M y 5)) x 6 (mI M y 6)) x 7 (mI M y 7)) y 8 = mI M y 8 from congrFun (c_X1_row7 hne) 8, pfZ_s (M := sI (sI (sI (sI (sI (sI (sI (sL M x 0 (mL M y 0)) x 1 (mI M y 1)) x 2 (mI M y 2)) x 3 (mI M y 3)) x 4 (mI M y 4)) x 5 (mI M y 5)) x 6 (mI M y 6)) x 7 (mI M y 7)) hx hz]
  · rcases (show f = 1 ∨ f = 2 ∨ f = 3 ∨ f = 4 ∨ f = 5 ∨ f = 6 ∨ f = 7 ∨ f = 8 by omega) with rfl | rfl | rfl | rfl | rfl | rfl | rfl | rfl
    · rw [mI_f (by decide), mI_f (by decide), mI_f (by decide), mI_f (by decide), mI_f (by decide), mI_f (by decide), mI_f (by decide), mI_sI_s]
    · rw [mI_f (by decide), mI_f (by decide), mI_f (by decide), mI_f (by decide), mI_f (by decide), mI_f (by decide), mI_sI_s]
    · rw [mI_f (by decide), mI_f (by decide), mI_f (by decide), mI_f (by decide), mI_f (by decide), mI_sI_s]
    · rw [mI_f (by decide), mI_f (by decide), mI_f (by decide), mI_f (by decide), mI_sI_s]
    · rw [mI_f (by decide), mI_f (by decide), mI_f (by decide), mI_sI_s]
    · rw [mI_f (by decide), mI_f (by decide), mI_sI_s]
    · rw [mI_f (by decide), mI_sI_s]
    · rw [mI_sI_s]
  · exact mL_s _ _ _ _
theorem c_X0_row0 (hne : x ≠ y) : mI (sL M x 0 (mL M y 0)) y = mI M y := by
  rfl
theorem c_X0_row1 (hne : x ≠ y) : mI (sI (sL M x 0 (mL M y 0)) x 1 (mI M y 1)) y = mI M y := by
  rw [mI_o (Ne.symm hne)]
  exact c_X0_row0 hne
theorem c_X0_row2 (hne : x ≠ y) : mI (sI (sI (sL M x 0 (mL M y 0)) x 1 (mI M y 1)) x 2 (mI M y 2)) y = mI M y := by
  rw [mI_o (Ne.symm hne)]
  exact c_X0_row1 hne
theorem c_X0_row3 (hne : x ≠ y) : mI (sI (sI (sI (sL M x 0 (mL M y 0)) x 1 (mI M y 1)) x 2 (mI M y 2)) x 3 (mI M y 3)) y = mI M y := by
  rw [mI_o (Ne.symm hne)]
  exact c_X0_row2 hne
theorem c_X0_row4 (hne : x ≠ y) : mI (sI (sI (sI (sI (sL M x 0 (mL M y 0)) x 1 (mI M y 1)) x 2 (mI M y 2)) x 3 (mI M y 3)) x 4 (mI M y 4)) y = mI M y := by
  rw [mI_o (Ne.symm hne)]
  exact c_X0_row3 hne
theorem c_X0_row5 (hne : x ≠ y) : mI (sI (sI (sI (sI (sI (sL M x 0 (mL M y 0)) x 1 (mI M y 1)) x 2 (mI M y 2)) x 3 (mI M y 3)) x 4 (mI M y 4)) x 5 (mI M y 5)) y = mI M y := by
  rw [mI_o (Ne.symm hne)]
  exact c_X0_row4 hne
theorem c_X0_row6 (hne : x ≠ y) : mI (sI (sI (sI (sI (sI (sI (sL M x 0 (mL M y 0)) x 1 (mI M y 1)) x 2 (mI M y 2)) x 3 (mI M y 3)) x 4 (mI M y 4)) x 5 (mI M y 5)) x 6 (mI M y 6)) y = mI M y := by
  rw [mI_o (Ne.symm hne)]
  exact c_X0_row5 hne
theorem c_X0_row7 (hne : x ≠ y) : mI (sI (sI (sI (sI (sI (sI (sI (sL M x 0 (mL M y 0)) x 1 (mI M y 1)) x 2 (mI M y 2)) x 3 (mI M y 3)) x 4 (mI M y 4)) x 5 (mI M y 5)) x 6 (mI M y 6)) x 7 (mI M y 7)) y = mI M y := by
  rw [mI_o (Ne.symm hne)]
  exact c_X0_row6 hne
theorem c_X0 (hx : (mK M x).1 = 0) (hy : (mK M y).1 = 0) (hne : x ≠ y) : ∃ M', f_X0_copyFrom M (some x) (some y) = some M' ∧ Fr2 M M' x 1 ∧ (∀ f, 1 ≤ f → f ≤ 7 → mI M' x f = mI M y f) ∧ mL M' x 0 = mL M y 0 := by
  refine ⟨sI (sI (sI (sI (sI (sI (sI (sL M x 0 (mL M y 0)) x 1 (mI M y 1)) x 2 (mI M y 2)) x 3 (mI M y 3)) x 4 (mI M y 4)) x 5 (mI M y 5)) x 6 (mI M y 6)) x 7 (mI M y 7), ?_, (((((((Fr2.rf.sL (by omega) (by omega)).sI (by omega) (by omega)).sI (by omega) (by omega)).sI (by omega) (by omega)).sI (by omega) (by omega)).sI (by omega) (by omega)).sI (by omega) (by omega)).sI (by omega) (by omega), fun f h1 h2 => ?_, ?_⟩
  · unfold f_X0_copyFrom
    rw [gfL_s hy, pfL_s hx]
    rw [gfI_s (M := sL M x 0 (mL M y 0)) hy, show mI (sL M x 0 (mL M y 0)) y 1 = mI M y 1 from congrFun (c_X0_row0 hne) 1, pfI_s (M := sL M x 0 (mL M y 0)) hx]
    rw [gfI_s (M := sI (sL M x 0 (mL M y 0)) x 1 (mI M y 1)) hy, show mI (sI (sL M x 0 (mL M y 0)) x 1 (mI M y 1)) y 2 = mI M y 2 from congrFun (c_X0_row1 hne) 2, pfI_s (M := sI (sL M x 0 (mL M y 0)) x 1 (mI M y 1)) hx]
    rw [gfI_s (M := sI (sI (sL M x 0 (mL M y 0)) x 1 (mI M y 1)) x 2 (mI M y 2)) hy, show mI (sI (sI (sL M x 0 (mL M y 0)) x 1 (mI M y 1)) x 2 (mI M y 2)) y 3 = mI M y 3 from congrFun (c_X0_row2 hne) 3, pfI_s (M := sI (sI (sL M x 0 (mL M y 0)) x 1 (mI M y 1)) x 2 (mI M y 2)) hx]
    rw [gfI_s (M := sI (sI (sI (sL M x 0 (mL M y 0)) x 1 (mI M y 1)) x 2 (mI M y 2)) x 3 (mI M y 3)) hy, show mI (sI (sI (sI (sL M x 0 (mL M y 0)) x 1 (mI M y 1)) x 2 (mI M y 2)) x 3 (mI M y 3)) y 4 = mI M y 4 from congrFun (c_X0_row3 hne) 4, pfI_s (M := sI (sI (sI (sL M x 0 (mL M y 0)) x 1 (mI M y 1)) x 2 (mI M y 2)) x 3 (mI M y 3)) hx]
    rw [gfI_s (M := sI (sI (sI (sI (sL M x 0 (mL M y 0)) x 1 (mI M y 1)) x 2 (mI M y 2)) x 3 (mI M y 3)) x 4 (mI M y 4)) hy, show mI (sI (sI (sI (sI (sL M x 0 (mL M y 0)) x 1 (mI M y 1)) x 2 (mI M y 2)) x 3 (mI M y 3)) x 4 (mI M y 4)) y 5 = mI M y 5 from congrFun (c_X0_row4 hne) 5, pfI_s (M := sI (sI (sI (sI (sL M x 0 (mL M y 0)) x 1 (mI M y 1)) x 2 (mI M y 2)) x 3 (mI M y 3)) x 4 (mI M y 4)) hx]
    rw [gfI_s (M := sI (sI (sI (sI (sI (sL M x 0 (mL M y 0)) x 1 (mI M y 1)) x 2 (mI M y 2)) x 3 (mI M y 3)) x 4 (mI M y 4)) x 5 (mI M y 5)) hy, show mI (sI (sI (sI (sI (sI (sL M x 0 (mL M y 0)) x 1 (mI M y 1)) x 2 (mI M y 2)) x 3 (mI M y 3)) x 4 (mI M y 4)) x 5 (mI M y 5)) y 6 = mI M y 6 from congrFun (c_X0_row5 hne) 6, pfI_s (M := sI (sI (sI (sI (sI (sL M x 0 (mL M y 0)) x 1 (mI M y 1)) x 2 (mI M y 2)) x 3 (mI M y 3)) x 4 (mI M y 4)) x 5 (mI M y 5)) hx]
    rw [gfI_s (M := sI (sI (sI (sI (sI (sI (sL M x 0 (mL M y 0)) x 1 (mI M y 1)) x 2 (mI M y 2)) x 3 (mI M y 3)) x 4 (mI M y 4)) x 5 (mI M y 5)) x 6 (mI M y 6)) hy, show mI (sI (sI (sI (sI (sI (sI (sL M x 0 (mL M y 0)) x 1 (mI M y 1)) x 2 (mI M y 2)) x 3 (mI M y 3)) x 4 (mI M y 4)) x 5 (mI M y 5)) x 6 (mI M y 6)) y 7 = mI M y 7 from congrFun (c_X0_row6 hne) 7, pfI_s (M := sI (sI (sI (sI (sI (sI (sL M x 0 (mL M y 0)) x 1 (mI M y 1)) x 2 (mI M y 2)) x 3 (mI M y 3)) x 4 (mI M y 4)) x 5 (mI M y 5)) x 6 (mI M y 6)) hx]
  · rcases (show f = 1 ∨ f = 2 ∨ f = 3 ∨ f = 4 ∨ f = 5 ∨ f = 6 ∨ f = 7 by omega) with rfl | rfl | rfl | rfl | rfl | rfl | rfl
    · rw [mI_f (by decide), mI_f (by decide), mI_f (by decide), mI_f (by decide), mI_f (by decide), mI_f (by decide), mI_sI_s]
    · rw [mI_f (by decide), mI_f (by decide), mI_f (by decide), mI_f (by decide), mI_f (by decide), mI_sI_s]
    · rw [mI_f (by decide), mI_f (by decide), mI_f (by decide), mI_f (by decide), mI_sI_s]
    · rw [mI_f (by decide), mI_f (by decide), mI_f (by decide), mI_sI_s]
    · rw [mI_f (by decide), mI_f (by decide), mI_sI_s]
    · rw [mI_f (by decide), mI_sI_s]
    · rw [mI_sI_s]
  · exact mL_s _ _ _ _
theorem c_X8_row0 (hne : x ≠ y) : mI (sL M x 0 (mL M y 0)) y = mI M y := by
  rfl
theorem c_X8_row1 (hne : x ≠ y) : mI (sI (sL M x 0 (mL M y 0)) x 1 (mI M y 1)) y = mI M y := by
  rw [mI_o (Ne.symm hne)]
  exact c_X8_row0 hne
theorem c_X8_row2 (hne : x ≠ y) : mI (sI (sI (sL M x 0 (mL M y 0)) x 1 (mI M y 1)) x 2 (mI M y 2)) y = mI M y := by
  rw [mI_o (Ne.symm hne)]
  exact c_X8_row1 hne
theorem c_X8 (hx : (mK M x).1 = 8) (hy : (mK M y).1 = 8) (hne : x ≠ y) : ∃ M', f_X8_copyFrom M (some x) (some y) = some M' ∧ Fr2 M M' x 1 ∧ (∀ f, 1 ≤ f → f ≤ 2 → mI M' x f = mI M y f) ∧ mL M' x 0 = mL M y 0 := by
  refine ⟨sI (sI (sL M x 0 (mL M y 0)) x 1 (mI M y 1)) x 2 (mI M y 2), ?_, ((Fr2.rf.sL (by omega) (by omega)).sI (by omega) (by omega)).sI (by omega) (by omega), fun f h1 h2 => ?_, ?_⟩
  · unfold f_X8_copyFrom
    rw [gfL_s hy, pfL_s hx]
    rw [gfI_s (M := sL M x 0 (mL M y 0)) hy, show mI (sL M x 0 (mL M y 0)) y 1 = mI M y 1 from congrFun (c_X8_row0 hne) 1, pfI_s (M := sL M x 0 (mL M y 0)) hx]
    rw [gfI_s (M := sI (sL M x 0 (mL M y 0)) x 1 (mI M y 1)) hy, show mI (sI (sL M x 0 (mL M y 0)) x 1 (mI M y 1)) y 2 = mI M y 2 from congrFun (c_X8_row1 hne) 2, pfI_s (M := sI (sL M x 0 (mL M y 0)) x 1 (mI M y 1)) hx]
  · rcases (show f = 1 ∨ f = 2 by omega) with rfl | rfl
    · rw [mI_f (by decide), mI_sI_s]
    · rw [mI_sI_s]
  · exact mL_s _ _ _ _
end K
section P
variable {M0 M : Mm} {a b : Nat} {c : Nat → Int32}
/-- the first j houses, gangs, winds are copied -/
def cpd (M0 M : Mm) (a b jh jg jw : Nat) : Prop := Fr2 M0 M b 31 ∧ (mI M b 3 = mI M0 a 3 ∧ mI M b 4 = mI M0 a 4 ∧ mI M b 5 = mI M0 a 5 ∧ mI M b 7 = mI M0 a 7 ∧ mI M b 8 = mI M0 a 8) ∧ (∀ i, i < jh → (∀ f, 1 ≤ f → f ≤ 8 → mI M (b + 13 + i) f = mI M0 (a + 13 + i) f) ∧ mL M (b + 13 + i) 0 = mL M0 (a + 13 + i) 0 ∧ ∀ k, k < 8 → mI M (b + 5 + i) k = mI M0 (a + 5 + i) k) ∧ (∀ i, i < jg → (∀ f, 1 ≤ f → f ≤ 7 → mI M (b + 21 + i) f = mI M0 (a + 21 + i) f) ∧ mL M (b + 21 + i) 0 = mL M0 (a + 21 + i) 0) ∧ ∀ i, i < jw → (∀ f, 1 ≤ f → f ≤ 2 → mI M (b + 25 + i) f = mI M0 (a + 25 + i) f) ∧ mL M (b + 25 + i) 0 = mL M0 (a + 25 + i) 0
/-- one row changed: what was copied stays -/
theorem cpd_row {M' : Mm} {jh jg jw x : Nat} (h : cpd M0 M a b jh jg jw) (F : Fr2 M M' x 1) (hx : b + 5 ≤ x) (hx2 : x < b + 31) (h1 : ∀ i, i < jh → x ≠ b + 13 + i ∧ x ≠ b + 5 + i) (h2 : ∀ i, i < jg → x ≠ b + 21 + i) (h3 : ∀ i, i < jw → x ≠ b + 25 + i) : cpd M0 M' a b jh jg jw := by
  obtain ⟨p1, p2, p3, p4, p5⟩ := h
  have e : ∀ w, w ≠ x → mI M' w = mI M w ∧ mL M' w = mL M w := fun w hw => F.2.2.2 w (by omega)
  refine ⟨p1.tr (F.wd (by omega) (by omega)), by rw [(e b (by omega)).1]; exact p2, fun i hi => ?_, fun i hi => ?_, fun i hi => ?_⟩
  · rw [(e _ (h1 i hi).1.symm).1, (e _ (h1 i hi).1.symm).2, (e _ (h1 i hi).2.symm).1]; exact p3 i hi
  · rw [(e _ (h2 i hi).symm).1, (e _ (h2 i hi).symm).2]; exact p4 i hi
  · rw [(e _ (h3 i hi).symm).1, (e _ (h3 i hi).symm).2]; exact p5 i hi
theorem src_same (hd : a + 31 ≤ b ∨ b + 31 ≤ a) {jh jg jw : Nat} (h : cpd M0 M a b jh jg jw) {x : Nat} (h1 : a ≤ x) (h2 : x < a + 31) : mI M x = mI M0 x ∧ mL M x = mL M0 x := h.1.2.2.2 x (by omega)
theorem cp_top (S : shO M0 a c) (Lb : shL M0 b) (hd : a + 31 ≤ b ∨ b + 31 ≤ a) : ∃ M, cpd M0 M a b 0 0 0 ∧ f_X4_copyFrom M0 (some b) (some a) = f_X4_copyFrom_42 fu M (some b) (some a) 0 := by
  have La := S.1
  refine ⟨sI (sI (sI (sI (sI M0 b 3 (mI M0 a 3)) b 4 (mI M0 a 4)) b 5 (mI M0 a 5)) b 7 (mI M0 a 7)) b 8 (mI M0 a 8), ⟨((((Fr2.rf.sI (by omega) (by omega)).sI (by omega) (by omega)).sI (by omega) (by omega)).sI (by omega) (by omega)).sI (by omega) (by omega), ⟨?_, ?_, ?_, ?_, ?_⟩, fun i hi => absurd hi (by omega), fun i hi => absurd hi (by omega), fun i hi => absurd hi (by omega)⟩, ?_⟩
  · rw [mI_f (by decide), mI_f (by decide), mI_f (by decide), mI_f (by decide), mI_sI_s]
  · rw [mI_f (by decide), mI_f (by decide), mI_f (by decide), mI_sI_s]
  · rw [mI_f (by decide), mI_f (by decide), mI_sI_s]
  · rw [mI_f (by decide), mI_sI_s]
  · rw [mI_sI_s]
  · have ka := lk_s La
    have kb := lk_s Lb
    have hne : a ≠ b := by omega
    unfold f_X4_copyFrom
    rw [gfI_s ka, pfI_s kb]
    rw [gfI_s (M := sI M0 b 3 (mI M0 a 3)) ka, mI_o hne, pfI_s (M := sI M0 b 3 (mI M0 a 3)) kb]
    rw [gfI_s (M := sI (sI M0 b 3 (mI M0 a 3)) b 4 (mI M0 a 4)) ka, mI_o hne, mI_o hne, pfI_s (M := sI (sI M0 b 3 (mI M0 a 3)) b 4 (mI M0 a 4)) kb]
    rw [gfI_s (M := sI (sI (sI M0 b 3 (mI M0 a 3)) b 4 (mI M0 a 4)) b 5 (mI M0 a 5)) ka, mI_o hne, mI_o hne, mI_o hne, pfI_s (M := sI (sI (sI M0 b 3 (mI M0 a 3)) b 4 (mI M0 a 4)) b 5 (mI M0 a 5)) kb]
    rw [gfI_s (M := sI (sI (sI (sI M0 b 3 (mI M0 a 3)) b 4 (mI M0 a 4)) b 5 (mI M0 a 5)) b 7 (mI M0 a 7)) ka, mI_o hne, mI_o hne, mI_o hne, mI_o hne, pfI_s (M := sI (sI (sI (sI M0 b 3 (mI M0 a 3)) b 4 (mI M0 a 4)) b 5 (mI M0 a 5)) b 7 (mI M0 a 7)) kb]
theorem acI_s {ρ : Type} {M : Mm} {x y n m s d k : Nat} {K : Mm → Option ρ} (hx : mK M x = (21, n)) (hy : mK M y = (21, m)) (h1 : s + k ≤ n) (h2 : d + k ≤ m) (hn : n < 2147483648) (hm : m < 2147483648) : acI M (some x) (nI s) (some y) (nI d) (nI k) K = K (cpI M x s y d k) := by
  show (if _ then _ else _) = _
  rw [hx, hy, nI_cl (by omega), nI_cl (by omega), nI_cl (by omega)]
  exact if_pos ⟨rfl, rfl, nI_pos' (by omega), nI_pos' (by omega), nI_pos' (by omega), h1, h2⟩
theorem cp_h (S : shO M0 a c) (Lb : shL M0 b) (hd : a + 31 ≤ b ∨ b + 31 ≤ a) (h0 : cpd M0 M a b 0 0 0) : ∀ {j : Nat}, j ≤ hN c → ∃ M', cpd M0 M' a b j 0 0 ∧ ∀ f, f_X4_copyFrom_42 (f + j) M (some b) (some a) 0 = f_X4_copyFrom_42 f M' (some b) (some a) (nI j)
  | 0, _ => ⟨M, h0, fun f => rfl⟩
  | j + 1, hj => by
    obtain ⟨M1, h1, k1⟩ := cp_h S Lb hd h0 (j := j) (by omega)
    have O := S.2.2
    have h8 := (ok_h O).2
    have L1a : shL M1 a := shL_same S.1 h1.1.1 h1.1.2.1
    have L1b : shL M1 b := shL_same Lb h1.1.1 h1.1.2.1
    have hz : mI M1 (a + 13 + j) 8 = 0 ∨ mI M1 (a + 13 + j) 8 = 1 := by
      rw [(src_same hd h1 (x := a + 13 + j) (by omega) (by omega)).1, (S.2.1.2.1 j (by omega)).2.2.2.2.2.2.2]
      have p8 := (O.2.2.2.2.2.1 j (by omega)).2.2.2.2.2.2.2.1
      rw [p8.1]
      have := p8.2.2
      rcases (show na c (61 + j) = 0 ∨ na c (61 + j) = 1 by omega) with z | z <;> rw [z]
      · exact Or.inl rfl
      · exact Or.inr rfl
    obtain ⟨M2, e2, F2, r2, l2⟩ := c_X1 (M := M1) (x := b + 13 + j) (y := a + 13 + j) (lk_h L1b (by omega)) (lk_h L1a (by omega)) (by omega) hz
    have h2 : cpd M0 M2 a b j 0 0 := cpd_row h1 F2 (by omega) (by omega) (fun i hi => by omega) (fun i hi => absurd hi (by omega)) (fun i hi => absurd hi (by omega))
    have L2a : shL M2 a := shL_same S.1 h2.1.1 h2.1.2.1
    have L2b : shL M2 b := shL_same Lb h2.1.1 h2.1.2.1
    have F3 : Fr2 M2 (cpI M2 (a + 5 + j) 0 (b + 5 + j) 0 8) (b + 5 + j) 1 := Fr2.rf.cp (by omega) (by omega)
    have h3 : cpd M0 (cpI M2 (a + 5 + j) 0 (b + 5 + j) 0 8) a b j 0 0 := cpd_row h2 F3 (by omega) (by omega) (fun i hi => by omega) (fun i hi => absurd hi (by omega)) (fun i hi => absurd hi (by omega))
    refine ⟨_, ⟨h3.1, h3.2.1, fun i hi => ?_, h3.2.2.2.1, h3.2.2.2.2⟩, fun f => ?_⟩
    · by_cases q : i = j
      · subst q
        have e13 := F3.2.2.2 (b + 13 + i) (by omega)
        refine ⟨fun f f1 f2 => ?_, ?_, fun k hk => ?_⟩
        · rw [e13.1, r2 f f1 f2, (src_same hd h1 (x := a + 13 + i) (by omega) (by omega)).1]
        · rw [e13.2, l2, (src_same hd h1 (x := a + 13 + i) (by omega) (by omega)).2]
        · show (if b + 5 + i = b + 5 + i then (if 0 ≤ k ∧ k < 0 + 8 then mI M2 (a + 5 + i) (0 + (k - 0)) else mI M2 (b + 5 + i) k) else mI M2 (b + 5 + i) k) = _
          rw [if_pos rfl, if_pos (by omega), show 0 + (k - 0) = k by omega, (src_same hd h2 (x := a + 5 + i) (by omega) (by omega)).1]
      · exact h3.2.2.1 i (by omega)
    · have hc : ¬ mI M1 b 3 ≤ nI j := by
        rw [h1.2.1.1, S.2.1.1.1]
        exact hc_in O (by omega)
      rw [show f + (j + 1) = (f + 1) + j by omega, k1, f_X4_copyFrom_42, gfI_s (lk_s L1b), if_neg hc, l_hs L1b, l_h L1b (by omega), l_hs L1a, l_h L1a (by omega), lc_h L1b (by omega), e2, bv_s, l_ds L2a, l_d L2a (by omega), l_ds L2b, l_d L2b (by omega)]
      rw [show (0 : Int32) = nI 0 from rfl, show (8 : Int32) = nI 8 from rfl, acI_s (lk_d L2a (by omega)) (lk_d L2b (by omega)) (by omega) (by omega) (by omega) (by omega), nI_1]
theorem cp_g (S : shO M0 a c) (Lb : shL M0 b) (hd : a + 31 ≤ b ∨ b + 31 ≤ a) (h0 : cpd M0 M a b (hN c) 0 0) : ∀ {j : Nat}, j ≤ gN c → ∃ M', cpd M0 M' a b (hN c) j 0 ∧ ∀ f, f_X4_copyFrom_92 (f + j) M (some b) (some a) 0 = f_X4_copyFrom_92 f M' (some b) (some a) (nI j)
  | 0, _ => ⟨M, h0, fun f => rfl⟩
  | j + 1, hj => by
    obtain ⟨M1, h1, k1⟩ := cp_g S Lb hd h0 (j := j) (by omega)
    have O := S.2.2
    have h8 := (ok_h O).2
    have g4 := (ok_g O).2
    have L1a : shL M1 a := shL_same S.1 h1.1.1 h1.1.2.1
    have L1b : shL M1 b := shL_same Lb h1.1.1 h1.1.2.1
    obtain ⟨M2, e2, F2, r2, l2⟩ := c_X0 (M := M1) (x := b + 21 + j) (y := a + 21 + j) (lk_g L1b (by omega)) (lk_g L1a (by omega)) (by omega)
    have h2 : cpd M0 M2 a b (hN c) j 0 := cpd_row h1 F2 (by omega) (by omega) (fun i hi => by omega) (fun i hi => by omega) (fun i hi => absurd hi (by omega))
    refine ⟨M2, ⟨h2.1, h2.2.1, h2.2.2.1, fun i hi => ?_, h2.2.2.2.2⟩, fun f => ?_⟩
    · by_cases q : i = j
      · subst q
        refine ⟨fun f f1 f2 => ?_, ?_⟩
        · rw [r2 f f1 f2, (src_same hd h1 (x := a + 21 + i) (by omega) (by omega)).1]
        · rw [l2, (src_same hd h1 (x := a + 21 + i) (by omega) (by omega)).2]
      · exact h2.2.2.2.1 i (by omega)
    · have hc : ¬ mI M1 b 4 ≤ nI j := by
        rw [h1.2.1.2.1, S.2.1.1.2.1]
        exact gc_in O (by omega)
      rw [show f + (j + 1) = (f + 1) + j by omega, k1, f_X4_copyFrom_92, gfI_s (lk_s L1b), if_neg hc, l_gs L1b, l_g L1b (by omega), l_gs L1a, l_g L1a (by omega), lc_g L1b (by omega), e2, bv_s, nI_1]
theorem cp_w (S : shO M0 a c) (Lb : shL M0 b) (hd : a + 31 ≤ b ∨ b + 31 ≤ a) (h0 : cpd M0 M a b (hN c) (gN c) 0) : ∀ {j : Nat}, j ≤ wN c → ∃ M', cpd M0 M' a b (hN c) (gN c) j ∧ ∀ f, f_X4_copyFrom_123 (f + j) M (some b) (some a) 0 = f_X4_copyFrom_123 f M' (some b) (some a) (nI j)
  | 0, _ => ⟨M, h0, fun f => rfl⟩
  | j + 1, hj => by
    obtain ⟨M1, h1, k1⟩ := cp_w S Lb hd h0 (j := j) (by omega)
    have O := S.2.2
    have h8 := (ok_h O).2
    have g4 := (ok_g O).2
    have w6 := (ok_w O).2
    have L1a : shL M1 a := shL_same S.1 h1.1.1 h1.1.2.1
    have L1b : shL M1 b := shL_same Lb h1.1.1 h1.1.2.1
    obtain ⟨M2, e2, F2, r2, l2⟩ := c_X8 (M := M1) (x := b + 25 + j) (y := a + 25 + j) (lk_w L1b (by omega)) (lk_w L1a (by omega)) (by omega)
    have h2 : cpd M0 M2 a b (hN c) (gN c) j := cpd_row h1 F2 (by omega) (by omega) (fun i hi => by omega) (fun i hi => by omega) (fun i hi => by omega)
    refine ⟨M2, ⟨h2.1, h2.2.1, h2.2.2.1, h2.2.2.2.1, fun i hi => ?_⟩, fun f => ?_⟩
    · by_cases q : i = j
      · subst q
        refine ⟨fun f f1 f2 => ?_, ?_⟩
        · rw [r2 f f1 f2, (src_same hd h1 (x := a + 25 + i) (by omega) (by omega)).1]
        · rw [l2, (src_same hd h1 (x := a + 25 + i) (by omega) (by omega)).2]
      · exact h2.2.2.2.2 i (by omega)
    · have hc : ¬ mI M1 b 5 ≤ nI j := by
        rw [h1.2.1.2.2.1, S.2.1.1.2.2.1]
        exact wc_in O (by omega)
      rw [show f + (j + 1) = (f + 1) + j by omega, k1, f_X4_copyFrom_123, gfI_s (lk_s L1b), if_neg hc, l_ws L1b, l_w L1b (by omega), l_ws L1a, l_w L1a (by omega), lc_w L1b (by omega), e2, bv_s, nI_1]
/-- a shore is copied -/
theorem p_copy (S : shO M0 a c) (Lb : shL M0 b) (hd : a + 31 ≤ b ∨ b + 31 ≤ a) : ∃ M', f_X4_copyFrom M0 (some b) (some a) = some M' ∧ shO M' b c ∧ Fr2 M0 M' b 31 ∧ (∀ h, h < hN c → mL M' (b + 13 + h) 0 = mL M0 (a + 13 + h) 0) ∧ (∀ g, g < gN c → mL M' (b + 21 + g) 0 = mL M0 (a + 21 + g) 0) ∧ ∀ w, w < wN c → mL M' (b + 25 + w) 0 = mL M0 (a + 25 + w) 0 := by
  have O := S.2.2
  have h8 := (ok_h O).2
  have g4 := (ok_g O).2
  have w6 := (ok_w O).2
  obtain ⟨M1, h1, k1⟩ := cp_top S Lb hd
  obtain ⟨M2, h2, k2⟩ := cp_h S Lb hd h1 (j := hN c) (Nat.le_refl _)
  obtain ⟨M3, h3, k3⟩ := cp_g S Lb hd h2 (j := gN c) (Nat.le_refl _)
  obtain ⟨M4, h4, k4⟩ := cp_w S Lb hd h3 (j := wN c) (Nat.le_refl _)
  have L2b : shL M2 b := shL_same Lb h2.1.1 h2.1.2.1
  have L3b : shL M3 b := shL_same Lb h3.1.1 h3.1.2.1
  have L4b : shL M4 b := shL_same Lb h4.1.1 h4.1.2.1
  refine ⟨M4, ?_, ?_, h4.1, fun i hi => (h4.2.2.1 i hi).2.1, fun i hi => (h4.2.2.2.1 i hi).2, fun i hi => (h4.2.2.2.2 i hi).2⟩
  · rw [k1, show fu = (fu - 1 - hN c + 1) + hN c by unfold fu; omega, k2, f_X4_copyFrom_42, gfI_s (lk_s L2b), if_pos (by rw [h2.2.1.1, S.2.1.1.1]; exact hc_out O)]
    rw [show fu = (fu - 1 - gN c + 1) + gN c by unfold fu; omega, k3, f_X4_copyFrom_92, gfI_s (lk_s L3b), if_pos (by rw [h3.2.1.2.1, S.2.1.1.2.1]; exact gc_out O)]
    rw [show fu = (fu - 1 - wN c + 1) + wN c by unfold fu; omega, k4, f_X4_copyFrom_123, gfI_s (lk_s L4b), if_pos (by rw [h4.2.1.2.2.1, S.2.1.1.2.2.1]; exact wc_out O)]
  · have W := shW_of S
    obtain ⟨t1, t2, t3, t4, t5⟩ := h4.2.1
    refine shO_of (e := ecl c) ⟨L4b, fun K hK => ?_⟩ (fun _ _ => rfl) O
    rw [← W.2 K hK]
    rw [ecl_h, ecl_g, ecl_w] at hK
    rcases vld_cases hK with h | ⟨j, i, hj, hi, h, rfl⟩ | ⟨i, j, hi, hj, h, hh2, rfl⟩ | ⟨j, i, hj, hi, h, rfl⟩ | ⟨j, i, hj, hi, h, rfl⟩
    · rcases (show K = 0 ∨ K = 1 ∨ K = 2 ∨ K = 3 ∨ K = 4 by omega) with h | h | h | h | h <;> subst h
      · exact t1
      · exact t2
      · exact t3
      · exact t4
      · exact t5
    · rw [off_H j hj i hi, ← Nat.add_assoc, ← Nat.add_assoc]
      exact (h4.2.2.1 i h).1 (1 + j) (by omega) (by omega)
    · rw [off_D i hi j hj, ← Nat.add_assoc, ← Nat.add_assoc]
      exact (h4.2.2.1 i h).2.2 j hj
    · rw [off_G j hj i hi, ← Nat.add_assoc, ← Nat.add_assoc]
      exact (h4.2.2.2.1 i h).1 (1 + j) (by omega) (by omega)
    · rw [off_W j hj i hi, ← Nat.add_assoc, ← Nat.add_assoc]
      exact (h4.2.2.2.2 i h).1 (1 + j) (by omega) (by omega)
end P
