/-! TEXTS: what is taken of the text -/
theorem nv_lt {cd : Nat → Nat} {s : Nat} : ∀ k, (∀ j, j < k → qD cd (s + j) = true) → nv cd s k < 10 ^ k
  | 0, _ => by
    show 0 < 10 ^ 0
    decide
  | k + 1, h => by
    have h1 := nv_lt k (fun j hj => h j (by omega))
    have h2 := h k (by omega)
    rw [qD_t] at h2
    rw [nv, Nat.pow_succ]
    omega
theorem tkK_s {cd : Nat → Nat} {n s : Nat} (h : tkK cd n s ≠ 0) : s < n := by
  refine Decidable.byContradiction fun z => h ?_
  unfold tkK
  rw [if_pos (by omega)]
theorem nx_num {cd : Nat → Nat} {n s : Nat} (h : tkK cd n s = 3) : nv cd s (tkE cd n s - s) ≤ 9999 := by
  have h1 : ¬ n ≤ s := by
    have := tkK_s (cd := cd) (n := n) (s := s) (by omega)
    omega
  have h0 := h
  unfold tkK at h
  rw [if_neg h1] at h
  by_cases q : qL cd s = true
  · rw [if_pos q] at h; omega
  · rw [if_neg q] at h
    by_cases q2 : qD cd s = true
    · rw [if_pos q2] at h
      by_cases q3 : tkE cd n s - s ≤ 4
      · have eE : tkE cd n s = rnE (qD cd) n fu s := by
          unfold tkE
          rw [if_neg h1, if_neg q, if_pos q2]
        have h4 := rnE_in (q := qD cd) (n := n) fu s
        have h5 := nv_lt (cd := cd) (s := s) (tkE cd n s - s) (fun j hj => h4 (s + j) (by omega) (by rw [← eE]; omega))
        have h6 : 10 ^ (tkE cd n s - s) ≤ 10 ^ 4 := Nat.pow_le_pow_right (by omega) q3
        omega
      · rw [if_neg q3] at h; omega
    · rw [if_neg q2] at h
      by_cases q3 : cd s = 59 ∨ cd s = 60 ∨ cd s = 62 ∨ cd s = 61
      · rw [if_pos q3] at h; omega
      · rw [if_neg q3] at h; omega
def nx (cd : Nat → Nat) (n s : Nat) : Nat := tkS cd n (tkE cd n s)
def tkV (cd : Nat → Nat) (n s : Nat) : Nat := nv cd s (tkE cd n s - s)
def fK (cd : Nat → Nat) (n s k : Nat) : Nat × Nat := (if tkK cd n s = 1 then 1 else k, s)
def tW (cd : Nat → Nat) (n w s : Nat) : Sum (Nat × Nat) Nat := if tkW cd n s = nI w then .inr (nx cd n s) else .inl (fK cd n s 2)
def tN (cd : Nat → Nat) (n lo hi s : Nat) : Sum (Nat × Nat) (Nat × Nat) := if tkK cd n s = 3 then (if lo ≤ tkV cd n s ∧ tkV cd n s ≤ hi then .inr (tkV cd n s, nx cd n s) else .inl (4, s)) else .inl (fK cd n s 2)
def tWN (cd : Nat → Nat) (n w lo hi s : Nat) : Sum (Nat × Nat) (Nat × Nat) := match tW cd n w s with
  | .inl e => .inl e
  | .inr s' => tN cd n lo hi s'
def tSm (cd : Nat → Nat) (n s : Nat) : Sum (Nat × Nat) Nat := if tkK cd n s = 4 ∧ cd s = 59 then .inr (nx cd n s) else .inl (fK cd n s 2)
/-- the class: at a token; went wrong -/
def CT (M : Mm) (cd : Nat → Nat) (n s : Nat) : Prop := tpC M cd n ∧ TkC M cd n s
def FTv (M M' : Mm) : Prop := mK M' = mK M ∧ mR M' = mR M ∧ mT M' = mT M ∧ (∀ x, x ≠ 1 → mI M' x = mI M x ∧ mL M' x = mL M x) ∧ ∀ k, k = 1 ∨ k = 3 ∨ 12 ≤ k → mI M' 1 k = mI M 1 k
def FTf (M M' : Mm) : Prop := mK M' = mK M ∧ mR M' = mR M ∧ mT M' = mT M ∧ (∀ x, x ≠ 1 → mI M' x = mI M x ∧ mL M' x = mL M x) ∧ ∀ k, k = 1 ∨ k = 3 → mI M' 1 k = mI M 1 k
def cBd (M N : Mm) (e : Nat × Nat) : Prop := FTf M N ∧ mI N 1 12 = nI e.1 ∧ mI N 1 13 = nI e.2
theorem FTv.rf {M : Mm} : FTv M M := ⟨rfl, rfl, rfl, fun _ _ => ⟨rfl, rfl⟩, fun _ _ => rfl⟩
theorem FTv.tr {M M' M'' : Mm} (h : FTv M M') (h2 : FTv M' M'') : FTv M M'' := ⟨h2.1.trans h.1, h2.2.1.trans h.2.1, h2.2.2.1.trans h.2.2.1, fun x hx => ⟨(h2.2.2.2.1 x hx).1.trans (h.2.2.2.1 x hx).1, (h2.2.2.2.1 x hx).2.trans (h.2.2.2.1 x hx).2⟩, fun k hk => (h2.2.2.2.2 k hk).trans (h.2.2.2.2 k hk)⟩
theorem FTf.tr {M M' M'' : Mm} (h : FTf M M') (h2 : FTf M' M'') : FTf M M'' := ⟨h2.1.trans h.1, h2.2.1.trans h.2.1, h2.2.2.1.trans h.2.2.1, fun x hx => ⟨(h2.2.2.2.1 x hx).1.trans (h.2.2.2.1 x hx).1, (h2.2.2.2.1 x hx).2.trans (h.2.2.2.1 x hx).2⟩, fun k hk => (h2.2.2.2.2 k hk).trans (h.2.2.2.2 k hk)⟩
theorem FTs.v {M M' : Mm} (h : FTs M M') : FTv M M' := ⟨h.1, h.2.1, h.2.2.1, h.2.2.2.1, fun k hk => h.2.2.2.2 k (by omega)⟩
theorem FTv.f {M M' : Mm} (h : FTv M M') : FTf M M' := ⟨h.1, h.2.1, h.2.2.1, h.2.2.2.1, fun k hk => h.2.2.2.2 k (by omega)⟩
theorem FTv.bd {M M' N : Mm} (h : FTv M M') {e : Nat × Nat} (h2 : cBd M' N e) : cBd M N e := ⟨h.f.tr h2.1, h2.2⟩
section C
variable {M : Mm} {cd : Nat → Nat} {n s : Nat}
theorem nx_le (hs : s ≤ n) : nx cd n s ≤ n := rnE_le _ _ (tkE_le hs)
theorem c_step (C : CT M cd n s) : ∃ N, f_X6_step M (some 1) = some N ∧ FTs M N ∧ CT N cd n (nx cd n s) := by
  obtain ⟨N, h1, h2, h3⟩ := p_tstep C.1 (tkE_le C.2.1) C.2.2.1
  exact ⟨N, h1, h2, h2.tp C.1, h3⟩
theorem c_failAt (H : tpC M cd n) (k p : Int32) : f_X6_failAt M (some 1) k p = some (0, sI (sI M 1 12 k) 1 13 p) := by
  have D1 : tpC M cd n := H
  unfold f_X6_failAt g_X6_failAt
  rw [tp_pI H, pfI_s (by show (mK M 1).1 = 6; rw [H.1]), zc0]
theorem FTf_12 (M : Mm) (k p : Int32) : FTf M (sI (sI M 1 12 k) 1 13 p) := ⟨rfl, rfl, rfl, fun x hx => ⟨by rw [mI_o hx, mI_o hx], rfl⟩, fun j hj => by rw [mI_f (by omega), mI_f (by omega)]⟩
theorem cBd_12 (M : Mm) (e : Nat × Nat) : cBd M (sI (sI M 1 12 (nI e.1)) 1 13 (nI e.2)) e := ⟨FTf_12 M _ _, by rw [mI_f (by decide), mI_sI_s], mI_sI_s _ _ _ _⟩
theorem c_fail (C : CT M cd n s) (k : Nat) : ∃ N, f_X6_fail M (some 1) (nI k) = some (0, N) ∧ cBd M N (fK cd n s k) := by
  refine ⟨_, ?_, cBd_12 M (fK cd n s k)⟩
  have k4 := tkK_4 cd n s
  unfold f_X6_fail g_X6_fail f_X6_fail_14 fK
  rw [tp_gI C.1, C.2.2.2.2.1]
  by_cases q : tkK cd n s = 1
  · rw [if_pos (by rw [q]; rfl), tp_gI C.1, C.2.2.2.1, tp_ck C.1, c_failAt C.1, bd_s, zc0, if_pos q]
    rfl
  · rw [if_neg (fun z => q ((nI_eq' (by omega) (by omega)).mp (z.trans (show (1 : Int32) = nI 1 from rfl)))), tp_gI C.1, C.2.2.2.1, tp_ck C.1, c_failAt C.1, bd_s, zc0, if_neg q]
def cR (M : Mm) (x : Option (Int32 × Mm)) (cd : Nat → Nat) (n : Nat) (r : Sum (Nat × Nat) Nat) : Prop := match r with
  | .inl e => ∃ N, x = some (0, N) ∧ cBd M N e
  | .inr s' => ∃ N, x = some (1, N) ∧ FTv M N ∧ CT N cd n s'
def cRn (M : Mm) (x : Option (Int32 × Mm)) (cd : Nat → Nat) (n : Nat) (r : Sum (Nat × Nat) (Nat × Nat)) : Prop := match r with
  | .inl e => ∃ N, x = some (0, N) ∧ cBd M N e
  | .inr (v, s') => ∃ N, x = some (1, N) ∧ FTv M N ∧ CT N cd n s' ∧ mI N 1 11 = nI v
theorem c_takeWord (C : CT M cd n s) (w : Nat) : cR M (f_X6_takeWord M (some 1) (nI w)) cd n (tW cd n w s) := by
  unfold tW f_X6_takeWord g_X6_takeWord
  rw [tp_gI C.1, tc_w C.2]
  by_cases q : tkW cd n s = nI w
  · obtain ⟨N, h1, h2, h3⟩ := c_step C
    rw [if_pos q, if_pos q]
    exact ⟨N, by rw [tp_ck C.1, h1, bv_s, zc1], h2.v, h3⟩
  · obtain ⟨N, h1, h2⟩ := c_fail C 2
    rw [if_neg q, if_neg q]
    exact ⟨N, by rw [tp_ck C.1, show (2 : Int32) = nI 2 from rfl, h1, bd_s, zc0], h2⟩
theorem c_takeSemi (C : CT M cd n s) : cR M (f_X6_takeSemicolon M (some 1)) cd n (tSm cd n s) := by
  have k4 := tkK_4 cd n s
  obtain ⟨N, h1, h2⟩ := c_fail C 2
  have hf : f_X6_takeSemicolon_17 M (some 1) = some (0, N) := by
    unfold f_X6_takeSemicolon_17
    rw [tp_ck C.1, show (2 : Int32) = nI 2 from rfl, h1, bd_s]
  unfold tSm f_X6_takeSemicolon g_X6_takeSemicolon
  rw [tp_gI C.1, C.2.2.2.2.1]
  by_cases q : tkK cd n s = 4
  · have hs := tkK_s (cd := cd) (n := n) (s := s) (by omega)
    have c256 := (C.1.2.2.2.2.2.2.2.1 s hs).2
    rw [if_pos (by rw [q]; rfl), tp_gI C.1, C.2.2.2.2.2.2.2.2 q]
    by_cases q2 : cd s = 59
    · obtain ⟨N, h1, h2, h3⟩ := c_step C
      rw [if_pos (by rw [q2]; rfl), if_pos ⟨q, q2⟩]
      exact ⟨N, by rw [tp_ck C.1, h1, bv_s, zc1], h2.v, h3⟩
    · rw [if_neg (fun z => q2 ((nI_eq' (by omega) (by omega)).mp (z.trans (show (59 : Int32) = nI 59 from rfl)))), if_neg (fun z => q2 z.2), hf, zc0]
      exact ⟨N, rfl, h2⟩
  · rw [if_neg (fun z => q ((nI_eq' (by omega) (by omega)).mp (z.trans (show (4 : Int32) = nI 4 from rfl)))), if_neg (fun z => q z.1), hf, zc0]
    exact ⟨N, rfl, h2⟩
theorem CT.v11 (C : CT M cd n s) (v : Int32) : CT (sI M 1 11 v) cd n s := by
  have T := C.2
  have f : ∀ k, k ≠ 11 → mI (sI M 1 11 v) 1 k = mI M 1 k := fun k hk => mI_f hk
  refine ⟨?_, ?_⟩
  · obtain ⟨h1, h2, h3, h4, h5, h6, h7, h8, h9⟩ := C.1
    exact ⟨h1, h2, h3, h4, h5, h6, by rw [f 3 (by decide)]; exact h7, fun k hk => by rw [mI_o (by decide)]; exact h8 k hk, h9⟩
  · unfold TkC at *
    rw [f 4 (by decide), f 5 (by decide), f 6 (by decide), f 7 (by decide), f 9 (by decide), f 10 (by decide)]
    exact T
theorem c_takeNum (C : CT M cd n s) (lo hi : Nat) (h1 : lo ≤ 9999) (h2 : hi ≤ 9999) : cRn M (f_X6_takeNumber M (some 1) (nI lo) (nI hi)) cd n (tN cd n lo hi s) := by
  have k4 := tkK_4 cd n s
  unfold tN f_X6_takeNumber g_X6_takeNumber
  rw [tp_gI C.1, C.2.2.2.2.1]
  by_cases q : tkK cd n s = 3
  · have v9 : tkV cd n s ≤ 9999 := nx_num q
    have e9 : mI M 1 9 = nI (tkV cd n s) := C.2.2.2.2.2.2.2.1 q
    obtain ⟨N, f1, f2⟩ := c_fail C 4
    have hf : f_X6_takeNumber_30 M (some 1) = some (0, N) := by
      unfold f_X6_takeNumber_30
      rw [tp_ck C.1, show (4 : Int32) = nI 4 from rfl, f1, bd_s]
    have e4 : fK cd n s 4 = (4, s) := by
      unfold fK
      rw [if_neg (by omega)]
    rw [e4] at f2
    rw [if_pos (by rw [q]; rfl), tp_gI C.1, e9, if_pos q]
    by_cases a : lo ≤ tkV cd n s
    · rw [if_neg (by rw [nI_ltI' (by omega) (by omega)]; omega), tp_gI C.1, e9]
      by_cases b : tkV cd n s ≤ hi
      · have C1 := C.v11 (nI (tkV cd n s))
        obtain ⟨N, g1, g2, g3⟩ := c_step C1
        rw [if_pos (by rw [nI_leI' (by omega) (by omega)]; exact b), tp_gI C.1, e9, tp_pI C.1, tp_ck C1.1, g1, bv_s, zc1, if_pos ⟨a, b⟩]
        refine ⟨N, rfl, ?_, g3, ?_⟩
        · have g := g2.v
          exact ⟨g.1, g.2.1, g.2.2.1, fun x hx => ⟨(g.2.2.2.1 x hx).1.trans (by rw [mI_o hx]), (g.2.2.2.1 x hx).2⟩, fun k hk => (g.2.2.2.2 k hk).trans (by rw [mI_f (by omega)])⟩
        · rw [g2.2.2.2.2 11 (by omega), mI_sI_s]
      · rw [if_neg (by rw [nI_leI' (by omega) (by omega)]; exact b), hf, zc0, if_neg (fun z => b z.2)]
        exact ⟨N, rfl, f2⟩
    · rw [if_pos (by rw [nI_ltI' (by omega) (by omega)]; omega), hf, zc0, if_neg (fun z => a z.1)]
      exact ⟨N, rfl, f2⟩
  · obtain ⟨N, f1, f2⟩ := c_fail C 2
    rw [if_neg (fun z => q ((nI_eq' (by omega) (by omega)).mp (z.trans (show (3 : Int32) = nI 3 from rfl)))), if_neg q, tp_ck C.1, show (2 : Int32) = nI 2 from rfl, f1, bd_s, zc0]
    exact ⟨N, rfl, f2⟩
theorem c_takeWN (C : CT M cd n s) (w lo hi : Nat) (h1 : lo ≤ 9999) (h2 : hi ≤ 9999) : cRn M (f_X6_takeWordAndNumber M (some 1) (nI w) (nI lo) (nI hi)) cd n (tWN cd n w lo hi s) := by
  unfold tWN f_X6_takeWordAndNumber g_X6_takeWordAndNumber
  have h := c_takeWord C w
  rcases hr : tW cd n w s with e | s'
  · rw [hr] at h
    obtain ⟨N, f1, f2⟩ := h
    rw [tp_ck C.1, f1, bd_s, if_pos rfl, zc0]
    exact ⟨N, rfl, f2⟩
  · rw [hr] at h
    obtain ⟨N, f1, f2, f3⟩ := h
    have g := c_takeNum f3 lo hi h1 h2
    rw [tp_ck C.1, f1, bd_s, if_neg (by decide), tp_ck f3.1]
    dsimp only
    rcases hr2 : tN cd n lo hi s' with e | ⟨v, t⟩
    · rw [hr2] at g
      obtain ⟨N2, g1, g2⟩ := g
      rw [g1, bd_s, if_pos rfl, zc0]
      exact ⟨N2, rfl, f2.bd g2⟩
    · rw [hr2] at g
      obtain ⟨N2, g1, g2, g3, g4⟩ := g
      rw [g1, bd_s, if_neg (by decide), zc1]
      exact ⟨N2, rfl, f2.tr g2, g3, g4⟩
end C
