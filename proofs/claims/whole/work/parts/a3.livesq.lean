/-! YEARS ARE LIVED: the reference, all steps -/
def RfX (M0 : Mm) (X : LvX) (N : Mm) : Prop := RfS M0 X.1 X.2.1 (if X.2.2 = 0 then 0 else 1) (if X.2.2 = 2 then 1 else 0) N
def LvOX (c : Nat → Int32) (X : LvX) : Prop := LvO c X.1 ∧ X.2.1 ≤ 300 ∧ X.2.2 ≤ 2
theorem seg_le {M : Mm} {y : Nat} {c : Nat → Int32} : ∀ F m s t r r', seg M y c F m s t r r' → s ≤ t ∧ r ≤ r' ∧ (s < t → r < r')
  | 0, _, _, _, _, _, h => False.elim h
  | F + 1, m, s, t, r, r', h => by
    rcases h with ⟨h1, h2⟩ | ⟨p1, p2, p3, h⟩
    · omega
    · rcases h with ⟨q1, q2, q3⟩ | ⟨q1, e, q, q2, q3, q4, q5, ⟨m', q0, q6⟩, q7, q8, q9, q10⟩
      · have := seg_le F _ _ _ _ _ q3
        omega
      · have h1 := seg_le F _ _ _ _ _ q6
        have h2 := seg_le F _ _ _ _ _ q10
        omega
section Q
variable {M0 : Mm} {c : Nat → Int32}
theorem q_loop (D0 : mdL M0) (D : Nat) (g : LvX → LvX) {s e n : Nat} (hs : s < 30) (hn : c (176 + 9 * s) = nI n) (n99 : n ≤ 99) (he : c (183 + 9 * s) = nI e) (body : ∀ X N, LvOX c X → RfX M0 X N → ∃ N', f_X12_doAll D N (some 207) (nI (s + 1)) (nI e) = some N' ∧ RfX M0 (g X) N' ∧ LvOX c (g X)) : ∀ j k i X N, j < i → k + j = n → LvOX c X → RfX M0 X N → ∃ N', f_X12_doOne_118 (f_X12_doAll D) i N (some 207) (nI s) (nI (175 + 9 * s)) (nI k) = some N' ∧ RfX M0 (itr g j X) N' ∧ LvOX c (itr g j X) := by
  have e6 : 175 + 9 * s + 1 = 176 + 9 * s := by omega
  have e8 : nI (175 + 9 * s) + 8 = nI (183 + 9 * s) := by
    rw [show (8 : Int32) = nI 8 from rfl, nI_add]
    exact congrArg nI (by omega)
  intro j
  induction j with
  | zero =>
    intro k i X N hi hk W R
    cases i with
    | zero => omega
    | succ i =>
      have D := R.md D0
      refine ⟨N, ?_, R, W⟩
      rw [f_X12_doOne_118, m_r20 D.1, nI_1, e6, m_c D (by omega), W.1.cc (by omega), hn, if_pos (by rw [nI_leI' (by omega) (by omega)]; omega)]
  | succ j ih =>
    intro k i X N hi hk W R
    cases i with
    | zero => omega
    | succ i =>
      have D := R.md D0
      rw [f_X12_doOne_118, m_r20 D.1, nI_1, e6, m_c D (by omega), W.1.cc (by omega), hn, if_neg (by rw [nI_leI' (by omega) (by omega)]; omega), m_gI D.1, R.2.2.2.2.2.2.2.2.1, itr]
      by_cases ov : X.2.2 = 0
      · obtain ⟨N1, e1, R1, W1⟩ := body X N W R
        obtain ⟨N2, e2, R2, W2⟩ := ih (k + 1) i (g X) N1 (by omega) (by omega) W1 R1
        refine ⟨N2, ?_, ?_, ?_⟩
        · rw [if_pos (by rw [if_pos ov]; rfl), m_r20 D.1, e8, m_c D (by omega), W.1.cc (by omega), he, m_ck D.1, nI_1, e1, bv_s, nI_1]
          exact e2
        · rw [if_pos ov]; exact R2
        · rw [if_pos ov]; exact W2
      · refine ⟨N, ?_, ?_, ?_⟩
        · rw [if_neg (by rw [if_neg ov]; decide)]
        · rw [if_neg ov]; exact R
        · rw [if_neg ov]; exact W
theorem q_all (D0 : mdL M0) {My : Mm} {y : Nat} : ∀ F m s t r r', t ≤ 30 → seg My y c F m s t r r' → ∀ D i X N, m ≤ D → t - s < i → LvOX c X → RfX M0 X N → ∃ N', f_X12_doAll_2 (f_X12_doOne (f_X12_doAll D)) i N (some 207) (nI t) (nI s) = some N' ∧ RfX M0 (big c F s t X) N' ∧ LvOX c (big c F s t X) := by
  intro F
  induction F with
  | zero => intro m s t r r' ht h; exact False.elim h
  | succ F ih =>
    intro m s t r r' ht h D i X N hD hi W R
    cases i with
    | zero => omega
    | succ i =>
      have DN := R.md D0
      rcases h with ⟨e1, e2⟩ | ⟨st, r60, hst, hb⟩
      · subst e1
        have eb : big c (F + 1) s s X = X := by
          rw [big, if_neg (fun z => by omega)]
        rw [eb]
        refine ⟨N, ?_, R, W⟩
        rw [f_X12_doAll_2, if_pos (Int32.le_refl _)]
      · by_cases ov : X.2.2 = 0
        · have hS := okS_of hst
          have R0 : RfS M0 X.1 X.2.1 0 0 N := by
            have h := R
            unfold RfX at h
            rw [if_pos ov, if_neg (by omega)] at h
            exact h
          have e8 : nI (175 + 9 * s) + 8 = nI (183 + 9 * s) := by
            rw [show (8 : Int32) = nI 8 from rfl, nI_add]
            exact congrArg nI (by omega)
          have mk : ∀ x d N', RfS M0 x d 0 0 N' → RfX M0 (x, d, 0) N' := fun x d N' h => by
            unfold RfX
            rw [if_pos rfl, if_neg (show ¬ (0 : Nat) = 2 by decide)]
            exact h
          have one : ∃ N1 X1, f_X12_doOne (f_X12_doAll D) N (some 207) (nI s) = some N1 ∧ RfX M0 X1 N1 ∧ LvOX c X1 ∧ big c (F + 1) s t X = big c F (na c (183 + 9 * s)) t X1 := by
            rw [big, if_pos ⟨st, ov⟩]
            unfold f_X12_doOne
            rw [m_gI DN.1, R0.2.2.2.1]
            by_cases q3 : X.2.1 = 300
            · have D1 : mdL (sI N 207 37 1) := DN.1
              have key : RfX M0 (X.1, X.2.1, 2) (sI (sI N 207 37 (nI 1)) 207 44 (nI 1)) := by
                unfold RfX
                rw [if_neg (show ¬ (2 : Nat) = 0 by decide), if_pos rfl]
                exact (R0.w37 1).w44 1
              refine ⟨_, _, ?_, key, ⟨W.1, W.2.1, Nat.le_refl _⟩, by rw [if_pos q3]⟩
              · rw [if_pos (by rw [q3]; rfl), m_pZ DN.1 (Or.inr rfl), m_pI D1]
                rfl
            · have d3 := W.2.1
              have q4 : ¬ nI X.2.1 = 300 := by
                rw [show (300 : Int32) = nI 300 from rfl, nI_eq' (by omega) (by omega)]
                exact q3
              have R1 := R0.w39 (X.2.1 + 1)
              have D1 := R1.md D0
              have W1 : ∀ ov', ov' ≤ 2 → LvOX c (X.1, X.2.1 + 1, ov') := fun ov' h => ⟨W.1, show X.2.1 + 1 ≤ 300 by omega, h⟩
              obtain ⟨k, k8, hk, -, -, -, h6, -⟩ := id hS
              have ck5 : c (175 + 9 * s) = 5 ↔ k = 5 := by rw [hk, show (5 : Int32) = nI 5 from rfl, nI8 k8 (by omega)]
              have ck6 : c (175 + 9 * s) = 6 ↔ k = 6 := by rw [hk, show (6 : Int32) = nI 6 from rfl, nI8 k8 (by omega)]
              have ck7 : c (175 + 9 * s) = 7 ↔ k = 7 := by rw [hk, show (7 : Int32) = nI 7 from rfl, nI8 k8 (by omega)]
              rw [if_neg q3, if_neg q4, m_gI DN.1, R0.2.2.2.1, m_pI DN.1, nI_1, i9m, show (175 : Int32) = nI 175 from rfl, nI_add, nmI_s, m_r20 D1.1, m_c D1 (by omega), W.1.cc (by omega)]
              have bodyOf : ∀ e q, c (183 + 9 * s) = nI e → e ≤ t → (∃ m', m = m' + 1 ∧ seg My y c F m' (s + 1) e (r + 1) q) → ∀ Y N', LvOX c Y → RfX M0 Y N' → ∃ N'', f_X12_doAll D N' (some 207) (nI (s + 1)) (nI e) = some N'' ∧ RfX M0 (big c F (s + 1) e Y) N'' ∧ LvOX c (big c F (s + 1) e Y) := fun e q ee et ⟨m', hm, hseg⟩ Y N' WY RY => by
                cases D with
                | zero => omega
                | succ D =>
                  rw [f_X12_doAll]
                  unfold g_X12_doAll
                  exact ih m' (s + 1) e (r + 1) q (by omega) hseg D fu Y N' (by omega) (by unfold fu; omega) WY RY
              by_cases b5 : k = 5
              · rcases hb with ⟨nb, -⟩ | ⟨-, e, q, ec, q3', q4', q5', q6', -⟩
                · exact absurd (Or.inl (ck5.mpr b5)) nb
                · have eq := na_of ec (by omega)
                  have hso := q_isSo D0 R1 W.1 (by omega) hS (ck5.mpr b5)
                  rw [if_pos (ck5.mpr b5), if_pos (by rw [ck5.mpr b5]; decide), if_pos (ck5.mpr b5), m_ck D1.1, hso, bd_s, eq]
                  by_cases z : lvQ X.1.1 s = 0
                  · refine ⟨_, (X.1, X.2.1 + 1, 0), ?_, mk _ _ _ R1, W1 0 (by omega), by rw [if_pos z]⟩
                    rw [if_pos z, f_X12_doOne_109, ck5.mpr b5, if_neg (by decide), if_pos (by decide)]
                  · obtain ⟨N2, e2, R2, W2⟩ := bodyOf e q ec q4' q6' (X.1, X.2.1 + 1, 0) _ (W1 0 (by omega)) (mk _ _ _ R1)
                    refine ⟨N2, _, ?_, R2, W2, by rw [if_neg z]⟩
                    rw [if_neg z, m_r20 D1.1, e8, m_c D1 (by omega), W.1.cc (by omega), ec, m_ck D1.1, nI_1, e2, bv_s]
              · have n5 : ¬ c (175 + 9 * s) = 5 := fun z => b5 (ck5.mp z)
                by_cases b6 : k = 6
                · obtain ⟨g1, g2, g3⟩ := h6 b6
                  rcases hb with ⟨nb, -⟩ | ⟨-, e, q, ec, q3', q4', q5', q6', -⟩
                  · exact absurd (Or.inr (ck6.mpr b6)) nb
                  · have eq := na_of ec (by omega)
                    obtain ⟨N2, e2, R2, W2⟩ := q_loop D0 D (fun Y => big c F (s + 1) e Y) (by omega) g1 g3 ec (bodyOf e q ec q4' q6') (na c (176 + 9 * s)) 0 fu (X.1, X.2.1 + 1, 0) _ (by unfold fu; omega) (by omega) (W1 0 (by omega)) (mk _ _ _ R1)
                    refine ⟨N2, _, ?_, R2, W2, by rw [if_neg n5, if_pos (ck6.mpr b6), eq]⟩
                    rw [if_pos (by rw [ck6.mpr b6]; decide), if_neg n5, f_X12_doOne_109, if_pos (ck6.mpr b6)]
                    exact e2
                · have n6 : ¬ c (175 + 9 * s) = 6 := fun z => b6 (ck6.mp z)
                  by_cases b7 : k = 7
                  · have key : RfX M0 (X.1, X.2.1 + 1, 1) (sI (sI N 207 39 (nI (X.2.1 + 1))) 207 37 (nI 1)) := by
                      unfold RfX
                      rw [if_neg (show ¬ (1 : Nat) = 0 by decide), if_neg (show ¬ (1 : Nat) = 2 by decide)]
                      exact R1.w37 1
                    refine ⟨_, _, ?_, key, W1 1 (by omega), by rw [if_neg n5, if_neg n6, if_pos (ck7.mpr b7)]⟩
                    · rw [ck7.mpr b7, if_pos (by decide), if_neg (by decide), f_X12_doOne_109, if_neg (by decide), if_neg (by decide), m_pZ D1.1 (Or.inr rfl)]
                      rfl
                  · have n7 : ¬ c (175 + 9 * s) = 7 := fun z => b7 (ck7.mp z)
                    have nk : ¬ (c (175 + 9 * s) = 5 ∨ c (175 + 9 * s) = 6 ∨ c (175 + 9 * s) = 7) := by
                      rintro (z | z | z)
                      · exact n5 z
                      · exact n6 z
                      · exact n7 z
                    obtain ⟨v, N2, e2, hv⟩ := q_does D0 R1 W.1 (by omega) hS nk
                    have D2 : mdL N2 := by
                      rcases hv with ⟨-, -, h⟩ | ⟨-, h, -⟩
                      · exact (h.md D0).1
                      · exact (h.md D0).1
                    have WS := LW_S W.1 hS nk
                    rw [if_neg n5, if_neg n6, if_neg n7, if_neg (by rw [hk, show (5 : Int32) = nI 5 from rfl, nI_leI' (by omega) (by omega)]; omega), m_gI D1.1, R1.2.2.2.2.1, m_ck D1.1, e2, bd_s]
                    rcases hv with ⟨v0, el, R2⟩ | ⟨v1, R2, em⟩
                    · have R3 := R2.w40 (X.1.2.2.1 + 1)
                      refine ⟨_, (lvS X.1 s, X.2.1 + 1, 0), ?_, mk _ _ _ (R3.to el), ⟨WS, show X.2.1 + 1 ≤ 300 by omega, Nat.zero_le _⟩, by rw [if_neg n5]⟩
                      · rw [if_pos v0, f_X12_doOne_70, m_pI D2]
                    · have R3 := R2.w40 (X.1.2.2.1 + 0)
                      have e0 : lvS X.1 s = ((lvS X.1 s).1, (lvS X.1 s).2.1, X.1.2.2.1 + 0, (lvS X.1 s).2.2.2) := by
                        rw [Int32.add_zero, ← em]
                      refine ⟨_, (lvS X.1 s, X.2.1 + 1, 0), ?_, mk _ _ _ (R3.to e0), ⟨WS, show X.2.1 + 1 ≤ 300 by omega, Nat.zero_le _⟩, by rw [if_neg n5]⟩
                      · rw [if_neg (by rw [v1]; decide), f_X12_doOne_70, m_pI D2]
          obtain ⟨N1, X1, e1, R1, W1, eb⟩ := one
          have D1 := R1.md D0
          rw [eb]
          have nx : ∃ e r2, c (183 + 9 * s) = nI e ∧ s < e ∧ e ≤ t ∧ seg My y c F m e t r2 r' := by
            rcases hb with ⟨-, ec, h⟩ | ⟨-, e, q, ec, q3', q4', q5', q6', -, -, -, h⟩
            · exact ⟨s + 1, _, ec, by omega, by omega, h⟩
            · exact ⟨e, _, ec, q3', q4', h⟩
          obtain ⟨e, r2, ec, es, et, h2⟩ := nx
          obtain ⟨N', f1, f2, f3⟩ := ih m e t r2 r' ht h2 D i X1 N1 hD (by omega) W1 R1
          rw [na_of ec (by omega)]
          refine ⟨N', ?_, f2, f3⟩
          rw [f_X12_doAll_2, if_neg (by rw [nI_leI' (by omega) (by omega)]; omega), m_gI DN.1, R0.2.2.2.2.2.2.2.2.1, if_pos (show nI 0 = 0 from rfl), m_ck DN.1, e1, bv_s, m_r20 D1.1, i9m, show (175 : Int32) = nI 175 from rfl, nI_add, e8, m_c D1 (by omega), W1.1.cc (by omega), ec]
          exact f1
        · have eb : big c (F + 1) s t X = X := by
            rw [big, if_neg (fun z => ov z.2)]
          rw [eb]
          refine ⟨N, ?_, R, W⟩
          have R' := R
          unfold RfX at R'
          rw [if_neg ov] at R'
          rw [f_X12_doAll_2, if_neg (by rw [nI_leI' (by omega) (by omega)]; omega), m_gI DN.1, R'.2.2.2.2.2.2.2.2.1, if_neg (by decide)]
/-- a life begins -/
def Lv0 (f : Nat → Int32) (seed : Nat) : LvX := ((f, seed, 0, 0, 0, 0), 0, 0)
theorem q_runs {M : Mm} (D : md M c) (O : okC c) (h9 : na c 4 ≤ 9999) {seed N : Nat} (hs : seed ≤ 9999 + 20) {My : Mm} {y R : Nat} (hN : N ≤ 30) (h174 : c 174 = nI N) (hseg : seg My y c 91 3 0 N 0 R) : ∃ M', f_X12_runs M (some 207) (nI seed) = some M' ∧ RfX M (big c 91 0 N (Lv0 c seed)) M' ∧ LvOX c (big c 91 0 N (Lv0 c seed)) := by
  obtain ⟨M1, hM1⟩ : ∃ M1, sI (sI (sI (sI (sI (sI (sI (sI M 207 38 (nI seed)) 207 39 0) 207 40 0) 207 41 0) 207 42 0) 207 43 0) 207 44 0) 207 37 0 = M1 := ⟨_, rfl⟩
  have D1 : md M1 c := by rw [← hM1]; exact md_sI (md_sI (md_sI (md_sI (md_sI (md_sI (md_sI (md_sI D (by decide)) (by decide)) (by decide)) (by decide)) (by decide)) (by decide)) (by decide)) (by decide)
  have R1 : RfX M (Lv0 c seed) M1 := by
    unfold RfX Lv0
    rw [if_pos rfl, if_neg (show ¬ (0 : Nat) = 2 by decide)]
    refine ⟨?_, D1.2, ?_, ?_, ?_, ?_, ?_, ?_, ?_, ?_, fun k hk => ?_⟩
    · rw [← hM1]
      exact (((((((FS.rf.sI (P := PfR) (Or.inl rfl) _ _).sI (Or.inl rfl) _ _).sI (Or.inl rfl) _ _).sI (Or.inl rfl) _ _).sI (Or.inl rfl) _ _).sI (Or.inl rfl) _ _).sI (Or.inl rfl) _ _).sI (Or.inl rfl) _ _
    · rw [← hM1]; rfl
    · rw [← hM1]; rfl
    · rw [← hM1]; rfl
    · rw [← hM1]; rfl
    · rw [← hM1]; rfl
    · rw [← hM1]; rfl
    · rw [← hM1]; rfl
    · rw [← hM1]; rfl
    · rw [← hM1, mI_f (by omega), mI_f (by omega), mI_f (by omega), mI_f (by omega), mI_f (by omega), mI_f (by omega), mI_f (by omega), mI_f (by omega)]
  have W1 : LvOX c (Lv0 c seed) := ⟨⟨O, fun _ _ => rfl, h9, show seed < 65536 by omega⟩, Nat.zero_le _, Nat.zero_le _⟩
  obtain ⟨M', e1, e2, e3⟩ := q_all D.1 91 3 0 N 0 R hN hseg 5 fu (Lv0 c seed) M1 (by omega) (by unfold fu; omega) W1 R1
  refine ⟨M', ?_, e2, e3⟩
  unfold f_X12_runs
  rw [m_pI D.1, m_pI (M := sI M 207 38 (nI seed)) D.1, m_pI (M := sI (sI M 207 38 (nI seed)) 207 39 0) D.1, m_pI (M := sI (sI (sI M 207 38 (nI seed)) 207 39 0) 207 40 0) D.1, m_pI (M := sI (sI (sI (sI M 207 38 (nI seed)) 207 39 0) 207 40 0) 207 41 0) D.1, m_pI (M := sI (sI (sI (sI (sI M 207 38 (nI seed)) 207 39 0) 207 40 0) 207 41 0) 207 42 0) D.1, m_pI (M := sI (sI (sI (sI (sI (sI M 207 38 (nI seed)) 207 39 0) 207 40 0) 207 41 0) 207 42 0) 207 43 0) D.1, m_pZ (M := sI (sI (sI (sI (sI (sI (sI M 207 38 (nI seed)) 207 39 0) 207 40 0) 207 41 0) 207 42 0) 207 43 0) 207 44 0) D.1 (Or.inl rfl), hM1, m_r20 D1.1, show (174 : Int32) = nI 174 from rfl, m_c D1 (by omega), h174, m_ck D1.1, f_X12_doAll]
  unfold g_X12_doAll
  rw [show (0 : Int32) = nI 0 from rfl, e1, bv_s]
end Q
