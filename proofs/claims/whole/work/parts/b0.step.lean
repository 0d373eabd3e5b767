/-! TEXTS: numbers, signs, a step of the class -/
/-- the token that the class holds -/
def TkC (M : Mm) (cd : Nat → Nat) (n s : Nat) : Prop := s ≤ n ∧ mI M 1 4 = nI (tkE cd n s) ∧ mI M 1 6 = nI s ∧ mI M 1 5 = nI (tkK cd n s) ∧ ((tkK cd n s = 2 ∧ tkE cd n s - s ≤ 8) → mL M 1 8 = lN (n27 (lw cd s (tkE cd n s - s))) ∧ mI M 1 7 = wix (lN (n27 (lw cd s (tkE cd n s - s)))) 30) ∧ (¬ (tkK cd n s = 2 ∧ tkE cd n s - s ≤ 8) → mL M 1 8 = -1 ∧ mI M 1 7 = -1) ∧ (tkK cd n s = 3 → mI M 1 9 = nI (nv cd s (tkE cd n s - s))) ∧ (tkK cd n s = 4 → mI M 1 10 = nI (cd s))
section C
variable {ρ : Type} {M M' : Mm} {cd : Nat → Nat} {n : Nat}
theorem p_num (H : tpC M cd n) {s : Nat} (hs : s ≤ n) (h4 : mI M 1 4 = nI s) (h6 : mI M 1 6 = nI s) : ∃ N, f_X6_readNumber M (some 1) = some N ∧ FTs M N ∧ mI N 1 4 = nI (rnE (qD cd) n fu s) ∧ (∀ k, k = 6 ∨ k = 7 ∨ k = 10 → mI N 1 k = mI M 1 k) ∧ mL N 1 8 = mL M 1 8 ∧ mI N 1 5 = (if s < n ∧ qD cd s = true then nI (if rnE (qD cd) n fu s - s ≤ 4 then 3 else 1) else mI M 1 5) ∧ (rnE (qD cd) n fu s - s ≤ 4 → mI N 1 9 = nI (nv cd s (rnE (qD cd) n fu s - s))) := by
  have n9 := H.2.2.2.2.2.1
  obtain ⟨e, he⟩ : ∃ e, rnE (qD cd) n fu s = e := ⟨_, rfl⟩
  have e1 := rnE_ge (q := qD cd) (n := n) fu s
  have e2 := rnE_le (q := qD cd) (n := n) fu s hs
  have e3 := rnE_in (q := qD cd) (n := n) fu s
  have e4 := rnE_end (q := qD cd) (n := n) fu s hs (by unfold fu; omega)
  rw [he] at e1 e2 e3 e4
  rw [he]
  have H0 : tpC (sI M 1 9 0) cd n := (FTs.rf.sI (M := M) (k := 9) (by omega) 0).tp H
  obtain ⟨N, f1, g1, g2, g3, g4, g5⟩ : ∃ N, f_X6_readNumber_5 fu (sI M 1 9 0) (some 1) = f_X6_readNumber_81 N (some 1) ∧ (FTs M N ∧ mI N 1 4 = nI e ∧ (∀ k, k = 5 ∨ k = 6 ∨ k = 7 ∨ k = 10 → mI N 1 k = mI M 1 k) ∧ mL N 1 8 = mL M 1 8 ∧ (e - s ≤ 4 → mI N 1 9 = nI (nv cd s (e - s)))) := by
    refine (lupE (fun f N k => f_X6_readNumber_5 f N (some 1)) (fun k N => s ≤ k ∧ FTs M N ∧ mI N 1 4 = nI k ∧ (∀ j, j = 5 ∨ j = 6 ∨ j = 7 ∨ j = 10 → mI N 1 j = mI M 1 j) ∧ mL N 1 8 = mL M 1 8 ∧ (k - s ≤ 4 → mI N 1 9 = nI (nv cd s (k - s)))) e (fun N => f_X6_readNumber_81 N (some 1)) (fun f k N hk hI => ?_) (fun f N hI => ?_) fu s (sI M 1 9 0) e1 (by unfold fu; omega) ⟨Nat.le_refl _, FTs.rf.sI (by omega) _, by rw [mI_f (by decide)]; exact h4, fun j hj => by rw [mI_f (by omega)], rfl, fun _ => by rw [mI_sI_s, Nat.sub_self]; rfl⟩).imp fun N h => ⟨h.1, h.2.2⟩
    · obtain ⟨hsk, h1, h2, h3, h3', hl⟩ := hI
      have HN := h1.tp H
      have hq := qD_t.mp (e3 k hsk hk)
      have c256 := (H.2.2.2.2.2.2.2.1 k (by omega)).2
      obtain ⟨b1, b2, b3⟩ := bV_di1 (cd k) c256 hq
      have HN2 : tpC (sI N 1 9 (((mI N 1 9 * 10) + bV (cd k)) - 48)) cd n := (FTs.rf.sI (M := N) (k := 9) (by omega) _).tp HN
      refine ⟨sI (sI N 1 9 (((mI N 1 9 * 10) + bV (cd k)) - 48)) 1 4 (nI (k + 1)), ?_, by omega, (h1.sI (by omega) _).sI (by omega) _, mI_sI_s _ _ _ _, fun j hj => by rw [mI_f (by omega), mI_f (by omega)]; exact h3 j hj, h3', fun h4' => ?_⟩
      · rw [f_X6_readNumber_5, tp_gI HN, h2, tp_gI HN, HN.2.2.2.2.2.2.1, if_neg (by rw [nI_leI' (by omega) (by omega)]; omega), tp_r0 HN, tp_gI HN, h2, tp_b HN (by omega), if_neg b1, tp_r0 HN, tp_gI HN, h2, tp_b HN (by omega), if_neg b2, tp_gI HN, tp_r0 HN, tp_gI HN, h2, tp_b HN (by omega), tp_pI HN, tp_gI HN2, mI_f (by decide), h2, nI_1, tp_pI HN2]
      · rw [mI_f (by decide), mI_sI_s, hl (by omega), b3, show (10 : Int32) = nI 10 from rfl, show (48 : Int32) = nI 48 from rfl, nI_mul, nI_add, nI_sub (by omega), show k + 1 - s = (k - s) + 1 by omega, nv, show s + (k - s) = k by omega]
        exact congrArg nI (by omega)
    · obtain ⟨hsk, h1, h2, h3, h3', hl⟩ := hI
      have HN := h1.tp H
      rw [f_X6_readNumber_5, tp_gI HN, h2, tp_gI HN, HN.2.2.2.2.2.2.1]
      by_cases q : n ≤ e
      · rw [if_pos (by rw [nI_leI' (by omega) (by omega)]; exact q)]
      · have c256 := (H.2.2.2.2.2.2.2.1 e (by omega)).2
        have nq : ¬ (48 ≤ cd e ∧ cd e ≤ 57) := fun z => e4 ⟨by omega, qD_t.mpr z⟩
        rw [if_neg (by rw [nI_leI' (by omega) (by omega)]; exact q), tp_r0 HN, tp_gI HN, h2, tp_b HN (by omega)]
        by_cases z : bV (cd e) < 48
        · rw [if_pos z]
        · rw [if_neg z, tp_r0 HN, tp_gI HN, h2, tp_b HN (by omega)]
          rcases bV_di0 (cd e) c256 nq with w | w
          · exact absurd w z
          · rw [if_pos w]
  have HN := g1.tp H
  have n6 : mI N 1 6 = nI s := by rw [g3 6 (by omega)]; exact h6
  unfold f_X6_readNumber
  rw [tp_pI H, f1]
  unfold f_X6_readNumber_81
  rw [tp_gI HN, g2, tp_gI HN, n6]
  by_cases q : s < n ∧ qD cd s = true
  · have es : s < e := by
      have := rnE_s (q := qD cd) q 65535
      rw [← he]
      exact this
    rw [if_neg (by rw [nI_leI' (by omega) (by omega)]; omega), tp_gI HN, g2, tp_gI HN, n6, nI_sub (by omega)]
    by_cases q4 : e - s ≤ 4
    · refine ⟨sI N 1 5 3, ?_, g1.sI (by omega) _, by rw [mI_f (by decide)]; exact g2, fun k hk => by rw [mI_f (by omega)]; exact g3 k (by omega), g4, by rw [mI_sI_s, if_pos q, if_pos q4]; rfl, fun h => by rw [mI_f (by decide)]; exact g5 h⟩
      rw [if_pos (by rw [show (4 : Int32) = nI 4 from rfl, nI_leI' (by omega) (by omega)]; exact q4)]
      unfold f_X6_readNumber_111
      rw [tp_pI HN]
    · refine ⟨sI N 1 5 1, ?_, g1.sI (by omega) _, by rw [mI_f (by decide)]; exact g2, fun k hk => by rw [mI_f (by omega)]; exact g3 k (by omega), g4, by rw [mI_sI_s, if_pos q, if_neg q4]; rfl, fun h => by rw [mI_f (by decide)]; exact g5 h⟩
      rw [if_neg (by rw [show (4 : Int32) = nI 4 from rfl, nI_leI' (by omega) (by omega)]; exact q4)]
      unfold f_X6_readNumber_111
      rw [tp_pI HN]
  · have e0 : e = s := by rw [← he]; exact rnE_0 q fu
    refine ⟨N, ?_, g1, g2, fun k hk => g3 k (by omega), g4, by rw [if_neg q]; exact g3 5 (by omega), g5⟩
    rw [if_pos (by rw [nI_leI' (by omega) (by omega)]; omega)]
theorem tp_pC (H : tpC M cd n) {i : Nat} (hi : i < 256) {K : Mm → Option ρ} : pfC M (some 1) 6 10 (nI i) K = K (sI M 1 10 (nI i)) := by
  have h : ∀ i, i < 256 → (narrow .char (.int (nI i)) = .int (nI i) ∧ fits .char (.int (nI i)) = true) := by decide +kernel
  exact if_pos ⟨by rw [H.1], h i hi⟩
theorem p_sign (H : tpC M cd n) {s : Nat} (hs : s < n) (h4 : mI M 1 4 = nI s) : ∃ N, f_X6_readSign M (some 1) = some N ∧ FTs M N ∧ mI N 1 4 = nI (s + 1) ∧ (∀ k, k = 6 ∨ k = 7 ∨ k = 9 → mI N 1 k = mI M 1 k) ∧ mL N 1 8 = mL M 1 8 ∧ mI N 1 5 = nI (if cd s = 59 ∨ cd s = 60 ∨ cd s = 62 ∨ cd s = 61 then 4 else 1) ∧ mI N 1 10 = nI (cd s) := by
  have n9 := H.2.2.2.2.2.1
  have c256 := (H.2.2.2.2.2.2.2.1 s hs).2
  have H1 : tpC (sI M 1 10 (nI (cd s))) cd n := (FTs.rf.sI (M := M) (k := 10) (by omega) _).tp H
  have fin : ∀ v : Int32, ∃ N, f_X6_readSign_70 (sI M 1 10 (nI (cd s))) (some 1) (some 1) v = some N ∧ FTs M N ∧ mI N 1 4 = nI (s + 1) ∧ (∀ k, k = 6 ∨ k = 7 ∨ k = 9 → mI N 1 k = mI M 1 k) ∧ mL N 1 8 = mL M 1 8 ∧ mI N 1 5 = v ∧ mI N 1 10 = nI (cd s) := fun v => by
    have H2 : tpC (sI (sI M 1 10 (nI (cd s))) 1 5 v) cd n := (FTs.rf.sI (M := sI M 1 10 (nI (cd s))) (k := 5) (by omega) _).tp H1
    refine ⟨sI (sI (sI M 1 10 (nI (cd s))) 1 5 v) 1 4 (nI (s + 1)), ?_, ((FTs.rf.sI (by omega) _).sI (by omega) _).sI (by omega) _, mI_sI_s _ _ _ _, fun k hk => by rw [mI_f (by omega), mI_f (by omega), mI_f (by omega)], rfl, by rw [mI_f (by decide), mI_sI_s], by rw [mI_f (by decide), mI_f (by decide), mI_sI_s]⟩
    unfold f_X6_readSign_70
    rw [tp_pI H1, tp_gI H2, mI_f (by decide), mI_f (by decide), h4, nI_1, tp_pI H2]
  have ch : ∀ j, j < 256 → (nI (cd s) = nI j ↔ cd s = j) := fun j hj => nI_eq' (by omega) (by omega)
  have c59 : nI (cd s) = 59 ↔ cd s = 59 := ch 59 (by omega)
  have c60 : nI (cd s) = 60 ↔ cd s = 60 := ch 60 (by omega)
  have c62 : nI (cd s) = 62 ↔ cd s = 62 := ch 62 (by omega)
  have c61 : nI (cd s) = 61 ↔ cd s = 61 := ch 61 (by omega)
  have c10 : nI (cd s) = 10 ↔ cd s = 10 := ch 10 (by omega)
  have c32 : nI (cd s) = 32 ↔ cd s = 32 := ch 32 (by omega)
  unfold f_X6_readSign
  rw [tp_r0 H, tp_gI H, h4, tp_b H hs, bV_ch1 _ c256, tp_pC H c256, tp_gI H1, mI_sI_s]
  by_cases q1 : cd s = 59
  · obtain ⟨N, f1, f2, f3, f4, f5, f6, f7⟩ := fin 4
    refine ⟨N, ?_, f2, f3, f4, f5, by rw [f6, if_pos (Or.inl q1)]; rfl, f7⟩
    rw [if_pos (c59.mpr q1), f_X6_readSign_54, f_X6_readSign_59, if_neg (by decide)]
    exact f1
  · rw [if_neg (fun z => q1 (c59.mp z)), tp_gI H1, mI_sI_s]
    by_cases q2 : cd s = 60
    · obtain ⟨N, f1, f2, f3, f4, f5, f6, f7⟩ := fin 4
      refine ⟨N, ?_, f2, f3, f4, f5, by rw [f6, if_pos (Or.inr (Or.inl q2))]; rfl, f7⟩
      rw [if_pos (c60.mpr q2), f_X6_readSign_54, f_X6_readSign_59, if_neg (by decide)]
      exact f1
    · rw [if_neg (fun z => q2 (c60.mp z)), tp_gI H1, mI_sI_s]
      by_cases q3 : cd s = 62
      · obtain ⟨N, f1, f2, f3, f4, f5, f6, f7⟩ := fin 4
        refine ⟨N, ?_, f2, f3, f4, f5, by rw [f6, if_pos (Or.inr (Or.inr (Or.inl q3)))]; rfl, f7⟩
        rw [if_pos (c62.mpr q3), f_X6_readSign_54, f_X6_readSign_59, if_neg (by decide)]
        exact f1
      · rw [if_neg (fun z => q3 (c62.mp z)), tp_gI H1, mI_sI_s]
        by_cases q4 : cd s = 61
        · obtain ⟨N, f1, f2, f3, f4, f5, f6, f7⟩ := fin 4
          refine ⟨N, ?_, f2, f3, f4, f5, by rw [f6, if_pos (Or.inr (Or.inr (Or.inr q4)))]; rfl, f7⟩
          rw [if_pos (c61.mpr q4), f_X6_readSign_54, f_X6_readSign_59, if_neg (by decide)]
          exact f1
        · obtain ⟨N, f1, f2, f3, f4, f5, f6, f7⟩ := fin 1
          refine ⟨N, ?_, f2, f3, f4, f5, by rw [f6, if_neg (by rintro (z | z | z | z); exact q1 z; exact q2 z; exact q3 z; exact q4 z)]; rfl, f7⟩
          rw [if_neg (fun z => q4 (c61.mp z)), f_X6_readSign_59, if_pos rfl]
          exact f1
/-- a step of the class -/
theorem p_tstep (H : tpC M cd n) {p : Nat} (hp : p ≤ n) (h4 : mI M 1 4 = nI p) : ∃ N, f_X6_step M (some 1) = some N ∧ FTs M N ∧ TkC N cd n (tkS cd n p) := by
  have n9 := H.2.2.2.2.2.1
  obtain ⟨s, hs⟩ : ∃ s, tkS cd n p = s := ⟨_, rfl⟩
  have s1 := rnE_ge (q := qB cd) (n := n) fu p
  have s2 := rnE_le (q := qB cd) (n := n) fu p hp
  have s3 := rnE_in (q := qB cd) (n := n) fu p
  have s4 := rnE_end (q := qB cd) (n := n) fu p hp (by unfold fu; omega)
  have hs' : rnE (qB cd) n fu p = s := hs
  rw [hs'] at s1 s2 s3 s4
  rw [hs]
  obtain ⟨N0, f0, g0, g1⟩ : ∃ N, f_X6_step_0 fu M (some 1) = f_X6_step_52 N (some 1) ∧ (FTs M N ∧ mI N 1 4 = nI s) := by
    refine (lupE (fun f N k => f_X6_step_0 f N (some 1)) (fun k N => p ≤ k ∧ FTs M N ∧ mI N 1 4 = nI k) s (fun N => f_X6_step_52 N (some 1)) (fun f k N hk hI => ?_) (fun f N hI => ?_) fu p M s1 (by unfold fu; omega) ⟨Nat.le_refl _, FTs.rf, h4⟩).imp fun N h => ⟨h.1, h.2.2⟩
    · obtain ⟨hpk, h1, h2⟩ := hI
      have HN := h1.tp H
      have hq := qB_t.mp (s3 k hpk hk)
      have c256 := (H.2.2.2.2.2.2.2.1 k (by omega)).2
      obtain ⟨b1, b2⟩ := bV_bl (cd k) c256
      refine ⟨sI N 1 4 (nI (k + 1)), ?_, by omega, h1.sI (by omega) _, mI_sI_s _ _ _ _⟩
      rw [f_X6_step_0, tp_gI HN, h2, tp_gI HN, HN.2.2.2.2.2.2.1, if_neg (by rw [nI_leI' (by omega) (by omega)]; omega), tp_r0 HN, tp_gI HN, h2, tp_b HN (by omega)]
      by_cases z : cd k = 32
      · rw [if_pos (b1.mpr z), f_X6_step_39, tp_gI HN, h2, nI_1, tp_pI HN]
      · rw [if_neg (fun w => z (b1.mp w)), tp_r0 HN, tp_gI HN, h2, tp_b HN (by omega), if_pos (b2.mpr (by omega)), f_X6_step_39, tp_gI HN, h2, nI_1, tp_pI HN]
    · obtain ⟨hpk, h1, h2⟩ := hI
      have HN := h1.tp H
      rw [f_X6_step_0, tp_gI HN, h2, tp_gI HN, HN.2.2.2.2.2.2.1]
      by_cases q : n ≤ s
      · rw [if_pos (by rw [nI_leI' (by omega) (by omega)]; exact q)]
      · have c256 := (H.2.2.2.2.2.2.2.1 s (by omega)).2
        obtain ⟨b1, b2⟩ := bV_bl (cd s) c256
        have nq : ¬ (cd s = 32 ∨ cd s = 10) := fun z => s4 ⟨by omega, qB_t.mpr z⟩
        rw [if_neg (by rw [nI_leI' (by omega) (by omega)]; exact q), tp_r0 HN, tp_gI HN, h2, tp_b HN (by omega), if_neg (fun w => nq (Or.inl (b1.mp w))), tp_r0 HN, tp_gI HN, h2, tp_b HN (by omega), if_neg (fun w => nq (Or.inr (b2.mp w)))]
  have H0 := g0.tp H
  -- the cells that are set first
  obtain ⟨N1, hN1⟩ : ∃ N1, sI (sL (sI (sI N0 1 6 (nI s)) 1 7 (-1)) 1 8 (-1)) 1 5 0 = N1 := ⟨_, rfl⟩
  have F1 : FTs M N1 := by rw [← hN1]; exact (((g0.sI (by omega) _).sI (by omega) _).sL _ _).sI (by omega) _
  have H1 := F1.tp H
  have a4 : mI N1 1 4 = nI s := by rw [← hN1, mI_f (by decide)]; show mI (sI (sI N0 1 6 (nI s)) 1 7 (-1)) 1 4 = _; rw [mI_f (by decide), mI_f (by decide)]; exact g1
  have a6 : mI N1 1 6 = nI s := by rw [← hN1, mI_f (by decide)]; show mI (sI (sI N0 1 6 (nI s)) 1 7 (-1)) 1 6 = _; rw [mI_f (by decide), mI_sI_s]
  have a7 : mI N1 1 7 = -1 := by rw [← hN1, mI_f (by decide)]; show mI (sI (sI N0 1 6 (nI s)) 1 7 (-1)) 1 7 = _; rw [mI_sI_s]
  have a5 : mI N1 1 5 = 0 := by rw [← hN1, mI_sI_s]
  have a8 : mL N1 1 8 = -1 := by rw [← hN1]; exact mL_s _ _ _ _
  obtain ⟨N2, f2, F2, b4, b6, b9, bno, byes⟩ := p_word H1 s2 a4 a6 a5 a7 a8
  have H2 := F2.tp H1
  have e52 : f_X6_step_52 N0 (some 1) = (gfI N2 (some 1) 6 5 fun v82 => if v82 = 0 then (ck N2 (some 1) 6 <| bv (f_X6_readNumber N2 (some 1)) fun M89 => f_X6_step_92 M89 (some 1)) else (f_X6_step_92 N2 (some 1))) := by
    have A1 : tpC (sI N0 1 6 (nI s)) cd n := (FTs.rf.sI (M := N0) (k := 6) (by omega) _).tp H0
    have A2 : tpC (sI (sI N0 1 6 (nI s)) 1 7 (-1)) cd n := (FTs.rf.sI (M := sI N0 1 6 (nI s)) (k := 7) (by omega) _).tp A1
    have A3 : tpC (sL (sI (sI N0 1 6 (nI s)) 1 7 (-1)) 1 8 (-1)) cd n := (FTs.rf.sL (M := sI (sI N0 1 6 (nI s)) 1 7 (-1)) 8 _).tp A2
    unfold f_X6_step_52
    rw [tp_gI H0, g1, tp_pI H0, tp_pI A1, tp_pL A2, tp_pI A3, hN1, tp_ck H1, f2, bv_s]
  unfold f_X6_step
  rw [f0, e52, tp_gI H2]
  have nk2 : (¬ (tkK cd n s = 2 ∧ tkE cd n s - s ≤ 8)) ∨ (s < n ∧ qL cd s = true) := by
    by_cases q : s < n ∧ qL cd s = true
    · exact Or.inr q
    · left
      rintro ⟨z, -⟩
      unfold tkK at z
      by_cases q1 : n ≤ s
      · rw [if_pos q1] at z; omega
      · rw [if_neg q1, if_neg (fun w => q ⟨by omega, w⟩)] at z
        by_cases q2 : qD cd s = true
        · rw [if_pos q2] at z
          by_cases q3 : tkE cd n s - s ≤ 4
          · rw [if_pos q3] at z; omega
          · rw [if_neg q3] at z; omega
        · rw [if_neg q2] at z
          by_cases q3 : cd s = 59 ∨ cd s = 60 ∨ cd s = 62 ∨ cd s = 61
          · rw [if_pos q3] at z; omega
          · rw [if_neg q3] at z; omega
  by_cases q : s < n ∧ qL cd s = true
  · obtain ⟨c5, c8, c7⟩ := byes q
    have eE : tkE cd n s = rnE (qL cd) n fu s := by
      unfold tkE
      rw [if_neg (by omega), if_pos q.2]
    have eK : tkK cd n s = 2 := by
      unfold tkK
      rw [if_neg (by omega), if_pos q.2]
    refine ⟨N2, ?_, F1.tr F2, s2, by rw [eE]; exact b4, b6, by rw [eK]; exact c5, fun z => ?_, fun z => ?_, fun z => ?_, fun z => ?_⟩
    · rw [c5, if_neg (by decide)]
      unfold f_X6_step_92
      rw [tp_gI H2, c5, if_neg (by decide)]
    · rw [eE] at z ⊢
      rw [if_pos z.2] at c8 c7
      exact ⟨c8, c7⟩
    · rw [eE] at z
      have z2 : ¬ rnE (qL cd) n fu s - s ≤ 8 := fun w => z ⟨eK, w⟩
      rw [if_neg z2] at c8 c7
      exact ⟨c8, c7⟩
    · rw [eK] at z; omega
    · rw [eK] at z; omega
  · have eN := bno q
    subst eN
    have nn := nk2.resolve_right q
    obtain ⟨N3, f3, F3, d4, d6, d8, d5, d9⟩ := p_num H1 s2 a4 a6
    have H3 := F3.tp H1
    have d6' : mI N3 1 6 = nI s := by rw [d6 6 (by omega)]; exact a6
    have d7' : mI N3 1 7 = -1 := by rw [d6 7 (by omega)]; exact a7
    have d8' : mL N3 1 8 = -1 := d8.trans a8
    rw [a5, if_pos rfl, tp_ck H1, f3, bv_s]
    unfold f_X6_step_92
    rw [tp_gI H3, d5]
    by_cases qd : s < n ∧ qD cd s = true
    · have eE : tkE cd n s = rnE (qD cd) n fu s := by
        unfold tkE
        rw [if_neg (by omega), if_neg (fun w => q ⟨qd.1, w⟩), if_pos qd.2]
      have eK : tkK cd n s = if tkE cd n s - s ≤ 4 then 3 else 1 := by
        unfold tkK
        rw [if_neg (by omega), if_neg (fun w => q ⟨qd.1, w⟩), if_pos qd.2]
      rw [if_pos qd] at d5
      refine ⟨N3, ?_, F1.tr F3, s2, by rw [eE]; exact d4, d6', by rw [eK, eE]; exact d5, fun z => absurd z nn, fun _ => ⟨d8', d7'⟩, fun z => ?_, fun z => ?_⟩
      · rw [if_pos qd, if_neg (by
          by_cases w : rnE (qD cd) n fu s - s ≤ 4
          · rw [if_pos w]; decide
          · rw [if_neg w]; decide)]
      · rw [eE]
        refine d9 ?_
        rw [eK, eE] at z
        refine Decidable.byContradiction fun w => ?_
        rw [if_neg w] at z
        omega
      · rw [eK] at z
        by_cases w : tkE cd n s - s ≤ 4
        · rw [if_pos w] at z; omega
        · rw [if_neg w] at z; omega
    · have e0 : rnE (qD cd) n fu s = s := rnE_0 qd fu
      rw [e0] at d4
      rw [if_neg qd] at d5 ⊢
      rw [a5] at d5 ⊢
      rw [if_pos rfl, tp_gI H3, d4, tp_gI H3, H3.2.2.2.2.2.2.1]
      by_cases qn : n ≤ s
      · have eE : tkE cd n s = s := by
          unfold tkE
          rw [if_pos qn]
        have eK : tkK cd n s = 0 := by
          unfold tkK
          rw [if_pos qn]
        refine ⟨N3, ?_, F1.tr F3, s2, by rw [eE]; exact d4, d6', by rw [eK]; exact d5, fun z => absurd z nn, fun _ => ⟨d8', d7'⟩, fun z => by rw [eK] at z; omega, fun z => by rw [eK] at z; omega⟩
        rw [if_pos (by rw [nI_leI' (by omega) (by omega)]; exact qn)]
      · obtain ⟨N4, f4, F4, k4, k6, k8, k5, k10⟩ := p_sign H3 (s := s) (by omega) d4
        have eE : tkE cd n s = s + 1 := by
          unfold tkE
          rw [if_neg qn, if_neg (fun w => q ⟨by omega, w⟩), if_neg (fun w => qd ⟨by omega, w⟩)]
        have eK : tkK cd n s = if cd s = 59 ∨ cd s = 60 ∨ cd s = 62 ∨ cd s = 61 then 4 else 1 := by
          unfold tkK
          rw [if_neg qn, if_neg (fun w => q ⟨by omega, w⟩), if_neg (fun w => qd ⟨by omega, w⟩)]
        refine ⟨N4, ?_, (F1.tr F3).tr F4, s2, by rw [eE]; exact k4, by rw [k6 6 (by omega)]; exact d6', by rw [eK]; exact k5, fun z => absurd z nn, fun _ => ⟨k8.trans d8', by rw [k6 7 (by omega)]; exact d7'⟩, fun z => ?_, fun _ => k10⟩
        · rw [if_neg (by rw [nI_leI' (by omega) (by omega)]; exact qn), tp_ck H3, f4, bv_s]
        · rw [eK] at z
          by_cases w : cd s = 59 ∨ cd s = 60 ∨ cd s = 62 ∨ cd s = 61
          · rw [if_pos w] at z; omega
          · rw [if_neg w] at z; omega
end C
