/-! TEXTS: names -/
def fnd (nm : Nat → List Nat) (L : List Nat) (a m : Nat) : Nat := rnE (fun j => decide (¬ nm (a + j) = L)) m fu 0
theorem fnd_le (nm : Nat → List Nat) (L : List Nat) (a m : Nat) : fnd nm L a m ≤ m := rnE_le _ _ (Nat.zero_le _)
theorem fnd_b {nm : Nat → List Nat} {L : List Nat} {a m k : Nat} (h : k < fnd nm L a m) : ¬ nm (a + k) = L := of_decide_eq_true (rnE_in (q := fun j => decide (¬ nm (a + j) = L)) (n := m) fu 0 k (Nat.zero_le _) h)
theorem fnd_e {nm : Nat → List Nat} {L : List Nat} {a m : Nat} (hm : m ≤ 900) (h : fnd nm L a m < m) : nm (a + fnd nm L a m) = L := by
  refine Decidable.byContradiction fun z => ?_
  exact rnE_end (q := fun j => decide (¬ nm (a + j) = L)) (n := m) fu 0 (Nat.zero_le _) (by unfold fu; omega) ⟨h, decide_eq_true z⟩
def tkn (nm : Nat → List Nat) (h g w : Nat) (L : List Nat) : Bool := decide (fnd nm L 0 h < h ∨ fnd nm L 8 g < g ∨ fnd nm L 12 w < w)
theorem tkn_t {nm : Nat → List Nat} {h g w : Nat} {L : List Nat} (z : fnd nm L 0 h < h ∨ fnd nm L 8 g < g ∨ fnd nm L 12 w < w) : tkn nm h g w L = true := decide_eq_true z
def tNm (cd : Nat → Nat) (n : Nat) (nm : Nat → List Nat) (a m s : Nat) : Sum (Nat × Nat) (Nat × Nat) := if isNm cd n s = true then (if fnd nm (tkL cd n s) a m < m then .inr (fnd nm (tkL cd n s) a m, nx cd n s) else .inl (3, s)) else .inl (fK cd n s 2)
def tNew (cd : Nat → Nat) (n : Nat) (nm : Nat → List Nat) (h g w s : Nat) : Sum (Nat × Nat) Nat := if isNm cd n s = true then (if tkn nm h g w (tkL cd n s) = true then .inl (3, s) else .inr (nx cd n s)) else .inl (fK cd n s 2)
/-- the names of the class's shore; of the reference's block -/
def cNB (M : Mm) (b : Nat) (nm : Nat → List Nat) (h g w : Nat) : Prop := shL M b ∧ (mI M b 3 = nI h ∧ h ≤ 8) ∧ (mI M b 4 = nI g ∧ g ≤ 4) ∧ (mI M b 5 = nI w ∧ w ≤ 6) ∧ (∀ k, k < h → okN (nm k) ∧ mL M (b + 13 + k) 0 = lN (n27 (nm k))) ∧ (∀ k, k < g → okN (nm (8 + k)) ∧ mL M (b + 21 + k) 0 = lN (n27 (nm (8 + k)))) ∧ ∀ k, k < w → okN (nm (12 + k)) ∧ mL M (b + 25 + k) 0 = lN (n27 (nm (12 + k)))
def qNB (M : Mm) (j : Nat) (nm : Nat → List Nat) (h g w : Nat) : Prop := j ≤ 4 ∧ (mI M 212 (450 * j) = nI h ∧ h ≤ 8) ∧ (mI M 212 (450 * j + 1) = nI g ∧ g ≤ 4) ∧ (mI M 212 (450 * j + 2) = nI w ∧ w ≤ 6) ∧ (∀ k, k < h → okN (nm k) ∧ mL M 214 (18 * j + 0 + k) = lN (n32 (nm k))) ∧ (∀ k, k < g → okN (nm (8 + k)) ∧ mL M 214 (18 * j + 8 + k) = lN (n32 (nm (8 + k)))) ∧ ∀ k, k < w → okN (nm (12 + k)) ∧ mL M 214 (18 * j + 12 + k) = lN (n32 (nm (12 + k)))
section C
variable {M : Mm} {cd : Nat → Nat} {n s b h g w : Nat} {nm : Nat → List Nat} {L : List Nat}
theorem c_houseNamed (B : cNB M b nm h g w) (hL : okN L) : f_X4_houseNamed M (some b) (lN (n27 L)) = some (if fnd nm L 0 h < h then nI (fnd nm L 0 h) else -1, M) := by
  obtain ⟨S, ⟨h3, h8⟩, -, -, hn, -, -⟩ := B
  have el := fnd_le nm L 0 h
  obtain ⟨y, f1, f2⟩ := lupE0 (fun f N k => f_X4_houseNamed_2 f N (some b) (lN (n27 L)) (nI k)) (fun k N => N = M) (fnd nm L 0 h) (fun N => some (if fnd nm L 0 h < h then nI (fnd nm L 0 h) else -1, N)) (by omega) (fun f k N hk hI => by
    subst hI
    have hb := fnd_b hk
    rw [Nat.zero_add] at hb
    have hb2 : ¬ lN (n27 (nm k)) = lN (n27 L) := fun z => hb ((nm_eq (hn k (by omega)).1 hL).1.mp z)
    refine ⟨N, ?_, rfl⟩
    rw [f_X4_houseNamed_2, gfI_s (by rw [S.1]), h3, if_neg (by rw [nI_leI' (by omega) (by omega)]; omega), l_hs S, l_h S (by omega), gfL_s (lk_h S (by omega)), (hn k (by omega)).2, if_neg (fun z => hb2 ((lg_cmp_eq _ _).mp z)), nI_1]) (fun f N hI => by
    subst hI
    rw [f_X4_houseNamed_2, gfI_s (by rw [S.1]), h3]
    by_cases q : fnd nm L 0 h < h
    · have he := fnd_e (by omega) q
      rw [Nat.zero_add] at he
      rw [if_neg (by rw [nI_leI' (by omega) (by omega)]; omega), l_hs S, l_h S (by omega), gfL_s (lk_h S (by omega)), (hn _ q).2, he, if_pos ((lg_cmp_eq _ _).mpr rfl), if_pos q]
    · rw [if_pos (by rw [nI_leI' (by omega) (by omega)]; omega), if_neg q]) M rfl
  subst f2
  exact f1
theorem c_gangNamed (B : cNB M b nm h g w) (hL : okN L) : f_X4_gangNamed M (some b) (lN (n27 L)) = some (if fnd nm L 8 g < g then nI (fnd nm L 8 g) else -1, M) := by
  obtain ⟨S, -, ⟨h3, h8⟩, -, -, hn, -⟩ := B
  have el := fnd_le nm L 8 g
  obtain ⟨y, f1, f2⟩ := lupE0 (fun f N k => f_X4_gangNamed_2 f N (some b) (lN (n27 L)) (nI k)) (fun k N => N = M) (fnd nm L 8 g) (fun N => some (if fnd nm L 8 g < g then nI (fnd nm L 8 g) else -1, N)) (by omega) (fun f k N hk hI => by
    subst hI
    have hb := fnd_b hk
    have hb2 : ¬ lN (n27 (nm (8 + k))) = lN (n27 L) := fun z => hb ((nm_eq (hn k (by omega)).1 hL).1.mp z)
    refine ⟨N, ?_, rfl⟩
    rw [f_X4_gangNamed_2, gfI_s (by rw [S.1]), h3, if_neg (by rw [nI_leI' (by omega) (by omega)]; omega), l_gs S, l_g S (by omega), gfL_s (lk_g S (by omega)), (hn k (by omega)).2, if_neg (fun z => hb2 ((lg_cmp_eq _ _).mp z)), nI_1]) (fun f N hI => by
    subst hI
    rw [f_X4_gangNamed_2, gfI_s (by rw [S.1]), h3]
    by_cases q : fnd nm L 8 g < g
    · have he := fnd_e (by omega) q
      rw [if_neg (by rw [nI_leI' (by omega) (by omega)]; omega), l_gs S, l_g S (by omega), gfL_s (lk_g S (by omega)), (hn _ q).2, he, if_pos ((lg_cmp_eq _ _).mpr rfl), if_pos q]
    · rw [if_pos (by rw [nI_leI' (by omega) (by omega)]; omega), if_neg q]) M rfl
  subst f2
  exact f1
theorem c_isTaken (B : cNB M b nm h g w) (hL : okN L) : f_X4_isTaken M (some b) (lN (n27 L)) = some (if tkn nm h g w L = true then 1 else 0, M) := by
  have a1 := c_houseNamed B hL
  have a2 := c_gangNamed B hL
  obtain ⟨S, ⟨-, h8'⟩, ⟨-, g4'⟩, ⟨h3, h8⟩, -, -, hn⟩ := B
  have el := fnd_le nm L 12 w
  have el2 := fnd_le nm L 0 h
  have el3 := fnd_le nm L 8 g
  obtain ⟨y, f1, f2⟩ := lupE0 (fun f N k => f_X4_isTaken_2 f N (some b) (lN (n27 L)) (nI k)) (fun k N => N = M) (fnd nm L 12 w) (fun N => some (if tkn nm h g w L = true then 1 else 0, N)) (by omega) (fun f k N hk hI => by
    subst hI
    have hb := fnd_b hk
    have hb2 : ¬ lN (n27 (nm (12 + k))) = lN (n27 L) := fun z => hb ((nm_eq (hn k (by omega)).1 hL).1.mp z)
    refine ⟨N, ?_, rfl⟩
    rw [f_X4_isTaken_2, gfI_s (by rw [S.1]), h3, if_neg (by rw [nI_leI' (by omega) (by omega)]; omega), l_ws S, l_w S (by omega), gfL_s (lk_w S (by omega)), (hn k (by omega)).2, if_neg (fun z => hb2 ((lg_cmp_eq _ _).mp z)), nI_1]) (fun f N hI => by
    subst hI
    rw [f_X4_isTaken_2, gfI_s (by rw [S.1]), h3]
    by_cases q : fnd nm L 12 w < w
    · have he := fnd_e (by omega) q
      rw [if_neg (by rw [nI_leI' (by omega) (by omega)]; omega), l_ws S, l_w S (by omega), gfL_s (lk_w S (by omega)), (hn _ q).2, he, if_pos ((lg_cmp_eq _ _).mpr rfl), if_pos (tkn_t (Or.inr (Or.inr q)))]
    · rw [if_pos (by rw [nI_leI' (by omega) (by omega)]; omega), lc_s S, a1, bd_s]
      unfold f_X4_isTaken_50
      by_cases q1 : fnd nm L 0 h < h
      · rw [if_pos q1, if_neg (neg1_ne (by omega)), if_pos (tkn_t (Or.inl q1))]
      · rw [if_neg q1, if_pos rfl, lc_s S, a2, bd_s]
        by_cases q2 : fnd nm L 8 g < g
        · rw [if_pos q2, if_neg (neg1_ne (by omega)), if_pos (tkn_t (Or.inr (Or.inl q2)))]
        · rw [if_neg q2, if_pos rfl, if_neg (fun z => by
            rcases of_decide_eq_true z with z | z | z
            · exact q1 z
            · exact q2 z
            · exact q z)]) M rfl
  subst f2
  unfold f_X4_isTaken g_X4_isTaken
  rw [show f_X4_isTaken_2 fu y (some b) (lN (n27 L)) 0 = _ from f1]
  by_cases q : tkn nm h g w L = true
  · rw [if_pos q, zc1]
  · rw [if_neg q, zc0]
def cRm (M : Mm) (x : Option (Int32 × Mm)) (cd : Nat → Nat) (n : Nat) (r : Sum (Nat × Nat) (Nat × Nat)) : Prop := match r with
  | .inl e => ∃ N, x = some (-1, N) ∧ cBd M N e
  | .inr (v, s') => ∃ N, x = some (nI v, N) ∧ FTv M N ∧ CT N cd n s'
theorem c_nm (C : CT M cd n s) (q : isNm cd n s = true) : okN (tkL cd n s) ∧ mL M 1 8 = lN (n27 (tkL cd n s)) ∧ fK cd n s 3 = (3, s) ∧ mL M 1 8 ≠ -1 := by
  obtain ⟨h1, h2, -⟩ := nm_u q
  have ok := tkL_ok h1 h2
  have e : mL M 1 8 = lN (n27 (tkL cd n s)) := (C.2.2.2.2.2.1 ⟨h1, h2⟩).1
  refine ⟨ok, e, ?_, ?_⟩
  · unfold fK
    rw [if_neg (by omega)]
  · rw [e]
    exact lN_ne_neg (n27_63 ok)
theorem c_named35 (C : CT M cd n s) (a m : Nat) (hm : m ≤ 8) (q : isNm cd n s = true) : cRm M (f_X6_takeNamed_35 M (some 1) (if fnd nm (tkL cd n s) a m < m then nI (fnd nm (tkL cd n s) a m) else -1)) cd n (tNm cd n nm a m s) := by
  obtain ⟨ok, e, e3, -⟩ := c_nm C q
  have el := fnd_le nm (tkL cd n s) a m
  unfold tNm f_X6_takeNamed_35
  rw [if_pos q]
  by_cases z : fnd nm (tkL cd n s) a m < m
  · obtain ⟨N, h1, h2, h3⟩ := c_step C
    rw [if_pos z, if_pos z, if_neg (neg1_ne (by omega)), tp_ck C.1, h1, bv_s]
    exact ⟨N, rfl, h2.v, h3⟩
  · obtain ⟨N, h1, h2⟩ := c_fail C 3
    rw [if_neg z, if_neg z, if_pos rfl, tp_ck C.1, c_isName C.1 C.2, bd_s, if_pos q, if_neg (by decide)]
    unfold f_X6_takeNamed_53
    rw [tp_ck C.1, show (3 : Int32) = nI 3 from rfl, h1, bd_s]
    rw [e3] at h2
    exact ⟨N, rfl, h2⟩
theorem c_named0 (C : CT M cd n s) (a m : Nat) (q : ¬ isNm cd n s = true) : cRm M (f_X6_takeNamed_35 M (some 1) (-1)) cd n (tNm cd n nm a m s) := by
  obtain ⟨N, h1, h2⟩ := c_fail C 2
  unfold tNm f_X6_takeNamed_35
  rw [if_neg q, if_pos rfl, tp_ck C.1, c_isName C.1 C.2, bd_s, if_neg q, if_pos rfl]
  unfold f_X6_takeNamed_53
  rw [tp_ck C.1, show (2 : Int32) = nI 2 from rfl, h1, bd_s]
  exact ⟨N, rfl, h2⟩
/-- a house by its name, a gang by its -/
theorem c_takeHouse (C : CT M cd n s) (B : cNB M b nm h g w) : cRm M (f_X6_takeNamed M (some 1) (some b) 0) cd n (tNm cd n nm 0 h s) := by
  unfold f_X6_takeNamed
  rw [tp_ck C.1, c_isName C.1 C.2, bd_s]
  by_cases q : isNm cd n s = true
  · obtain ⟨ok, e, e3, -⟩ := c_nm C q
    rw [if_pos q, if_neg (by decide), if_neg (by decide), tp_gL C.1, e, lc_s B.1, c_houseNamed B ok, bd_s]
    exact c_named35 C 0 h B.2.1.2 q
  · rw [if_neg q, if_pos rfl]
    exact c_named0 C 0 h q
theorem c_takeGang (C : CT M cd n s) (B : cNB M b nm h g w) : cRm M (f_X6_takeNamed M (some 1) (some b) 7) cd n (tNm cd n nm 8 g s) := by
  unfold f_X6_takeNamed
  rw [tp_ck C.1, c_isName C.1 C.2, bd_s]
  by_cases q : isNm cd n s = true
  · obtain ⟨ok, e, e3, -⟩ := c_nm C q
    rw [if_pos q, if_neg (by decide), if_pos rfl, tp_gL C.1, e, lc_s B.1, c_gangNamed B ok, bd_s]
    exact c_named35 C 8 g (by have := B.2.2.1.2; omega) q
  · rw [if_neg q, if_pos rfl]
    exact c_named0 C 8 g q
/-- the reader of a shore -/
def rdS (M : Mm) (q b : Nat) : Prop := mK M q = (5, 3) ∧ mR M q 0 = some 1 ∧ mR M q 1 = some b
def cRw (M : Mm) (x : Option (Int64 × Mm)) (cd : Nat → Nat) (n : Nat) (L : List Nat) (r : Sum (Nat × Nat) Nat) : Prop := match r with
  | .inl e => ∃ N, x = some (-1, N) ∧ cBd M N e
  | .inr s' => ∃ N, x = some (lN (n27 L), N) ∧ FTv M N ∧ CT N cd n s' ∧ okN L
theorem c_new (C : CT M cd n s) (B : cNB M b nm h g w) {q : Nat} (R : rdS M q b) : cRw M (f_X5_readNewName M (some q)) cd n (tkL cd n s) (tNew cd n nm h g w s) := by
  have r0 : ∀ {ρ : Type} {K : Option Nat → Option ρ}, gfR M (some q) 5 0 K = K (some 1) := fun {ρ K} => by rw [gfR_s (by rw [R.1]), R.2.1]
  have r1 : ∀ {ρ : Type} {K : Option Nat → Option ρ}, gfR M (some q) 5 1 K = K (some b) := fun {ρ K} => by rw [gfR_s (by rw [R.1]), R.2.2]
  unfold f_X5_readNewName tNew
  rw [r0, tp_ck C.1, c_isName C.1 C.2, bd_s]
  by_cases z : isNm cd n s = true
  · obtain ⟨ok, e, e3, -⟩ := c_nm C z
    rw [if_pos z, if_neg (by decide), if_pos z, r1, r0, tp_gL C.1, e, lc_s B.1, c_isTaken B ok, bd_s]
    by_cases t : tkn nm h g w (tkL cd n s) = true
    · obtain ⟨N, h1, h2⟩ := c_fail C 3
      rw [e3] at h2
      rw [if_pos t, if_neg (by decide), r0, tp_ck C.1, show (3 : Int32) = nI 3 from rfl, h1, bd_s, if_pos t]
      exact ⟨N, rfl, h2⟩
    · obtain ⟨N, h1, h2, h3⟩ := c_step C
      rw [if_neg t, if_pos rfl, r0, tp_gL C.1, e, r0, tp_ck C.1, h1, bv_s, if_neg t]
      exact ⟨N, rfl, h2.v, h3, ok⟩
  · obtain ⟨N, h1, h2⟩ := c_fail C 2
    rw [if_neg z, if_pos rfl, r0, tp_ck C.1, show (2 : Int32) = nI 2 from rfl, h1, bd_s, if_neg z]
    exact ⟨N, rfl, h2⟩
end C
