/-! MARKS -/
theorem okC_cong {c c' : Nat → Int32} (O : okC c) (e : ∀ k, k < 173 → c' k = c k) : okC c' := by
  have h8 := (ok_h O).2
  have g4 := (ok_g O).2
  have w6 := (ok_w O).2
  have hH : hN c' = hN c := na_same (e 0 (by omega))
  have hG : gN c' = gN c := na_same (e 1 (by omega))
  have hW : wN c' = wN c := na_same (e 2 (by omega))
  obtain ⟨o0, o1, o2, o3, o4, o5, o6, o7, o8, o9⟩ := O
  refine ⟨bdd_same (e 0 (by omega)) o0, bdd_same (e 1 (by omega)) o1, bdd_same (e 2 (by omega)) o2, bdd_same (e 3 (by omega)) o3, bdd_same (e 4 (by omega)) o4, fun i hi => ?_, fun i j hi hj => ?_, fun g hg => ?_, fun w hw => ?_, fun g1 g2 h1 h2 hne heq => ?_⟩
  · rw [hH] at hi
    exact okH_same (fun k h1 h2 => e k (by omega)) (by omega) (o5 i hi)
  · rw [hH] at hi hj
    exact bdd_same (e _ (by omega)) (o6 i j hi hj)
  · rw [hG] at hg
    refine okG_same hH h8 (fun i hi hi2 z => ?_) (e _ (by omega)) (e _ (by omega)) (e _ (by omega)) (e _ (by omega)) (e _ (by omega)) (e _ (by omega)) (e _ (by omega)) (o7 g hg)
    exact ⟨by rw [e _ (by omega)]; exact z.1, by rw [e _ (by omega)]; exact z.2⟩
  · rw [hW] at hw
    exact ⟨bdd_same (e _ (by omega)) (o8 w hw).1, bdd_same (e _ (by omega)) (o8 w hw).2⟩
  · rw [hG] at h1 h2
    rw [e _ (by omega), e (149 + g2) (by omega)] at heq
    rw [e _ (by omega)]
    exact o9 g1 g2 h1 h2 hne heq
theorem shO_cong {M : Mm} {a : Nat} {c c' : Nat → Int32} (S : shO M a c) (e : ∀ k, k < 173 → c' k = c k) : shO M a c' := by
  have O := S.2.2
  have h8 := (ok_h O).2
  have g4 := (ok_g O).2
  have hG : gN c' = gN c := na_same (e 1 (by omega))
  refine shO_of (shW_of S) (fun k hk => ?_) (okC_cong O e)
  have hk173 := vld_lt hk
  by_cases z : k < 157 ∨ 161 ≤ k
  · rw [ecl_o z, ecl_o z, e k hk173]
  · obtain ⟨i, rfl⟩ : ∃ i, k = 157 + i := ⟨k - 157, by omega⟩
    have hi : i < gN c := by rw [hG] at hk; unfold vld at hk; omega
    rw [ecl_p (by omega), ecl_p (by omega)]
    rcases hand_cases O hi with ⟨h1, -⟩ | ⟨h, hh, eh, -, -⟩
    · rw [pcs_none h1, pcs_none ((e _ (by omega)).trans h1)]
    · rw [pcs_hand eh (by omega), pcs_hand ((e _ (by omega)).trans eh) (by omega), e _ (by omega)]
      unfold takes
      rw [e (29 + h) (by omega), e (45 + h) (by omega), e (137 + i) (by omega)]
theorem stp_move {M M' : Mm} {y y' : Nat} {c c' : Nat → Int32} {s r : Nat} (hr : r < 60) (hs : s < 30) (hI : ∀ j, 1 ≤ j → j ≤ 5 → ∀ k, k < 60 → mI M' (y' + j) k = mI M (y + j) k) (h0 : hN c' = hN c) (h1 : gN c' = gN c) (hc : ∀ k, 173 ≤ k → k < 450 → c' k = c k) (h : stp M y c s r) : stp M' y' c' s r := by
  unfold stp bdd na at *
  rw [hI 1 (by omega) (by omega) r hr, hI 2 (by omega) (by omega) r hr, hI 3 (by omega) (by omega) r hr, hI 4 (by omega) (by omega) r hr, h0, h1, hc (175 + 9 * s) (by omega) (by omega), hc (176 + 9 * s) (by omega) (by omega), hc (177 + 9 * s) (by omega) (by omega), hc (181 + 9 * s) (by omega) (by omega), hc (182 + 9 * s) (by omega) (by omega)]
  exact h
theorem seg_move {M M' : Mm} {y y' : Nat} {c c' : Nat → Int32} (hI : ∀ j, 1 ≤ j → j ≤ 5 → ∀ k, k < 60 → mI M' (y' + j) k = mI M (y + j) k) (h0 : hN c' = hN c) (h1 : gN c' = gN c) (hc : ∀ k, 173 ≤ k → k < 450 → c' k = c k) : ∀ (f m s t r r' : Nat), t ≤ 30 → seg M y c f m s t r r' → seg M' y' c' f m s t r r'
  | 0, _, _, _, _, _, _, h => h
  | f + 1, m, s, t, r, r', ht, h => by
    rcases h with h | ⟨p1, p2, p3, h⟩
    · exact Or.inl h
    · refine Or.inr ⟨p1, p2, stp_move p2 (by omega) hI h0 h1 hc p3, ?_⟩
      rw [hc (175 + 9 * s) (by omega) (by omega), hc (183 + 9 * s) (by omega) (by omega)]
      rcases h with ⟨q1, q2, q3⟩ | ⟨q1, e, q, q2, q3, q4, q5, ⟨m', q0, q6⟩, q7, q8, q9, q10⟩
      · exact Or.inl ⟨q1, q2, seg_move hI h0 h1 hc f _ _ _ _ _ ht q3⟩
      · exact Or.inr ⟨q1, e, q, q2, q3, q4, q5, ⟨m', q0, seg_move hI h0 h1 hc f _ _ _ _ _ (by omega) q6⟩, by rw [hI 1 (by omega) (by omega) q q5]; exact q7, by rw [hI 5 (by omega) (by omega) q q5]; exact q8, by rw [hI 5 (by omega) (by omega) r p2]; exact q9, seg_move hI h0 h1 hc f _ _ _ _ _ ht q10⟩
theorem rYr_move {M M' : Mm} {y y' : Nat} {c c' : Nat → Int32} (h2 : ∀ f, f < 3 → mI M' y' f = mI M y f) (hI : ∀ j, 1 ≤ j → j ≤ 5 → ∀ k, k < 60 → mI M' (y' + j) k = mI M (y + j) k) (h0 : c' 0 = c 0) (h1 : c' 1 = c 1) (hc : ∀ k, 173 ≤ k → k < 450 → c' k = c k) (h : rYr M y c) : rYr M' y' c' := by
  unfold rYr at *
  rw [h2 0 (by omega), h2 1 (by omega), h2 2 (by omega), hc 173 (by omega) (by omega), hc 174 (by omega) (by omega)]
  refine ⟨h.1, ?_⟩
  rcases h.2 with h | ⟨h2, N, R, q1, q2, q3, q4, q5, q6⟩
  · exact Or.inl h
  · exact Or.inr ⟨h2, N, R, q1, q2, q3, q4, q5, seg_move hI (na_same h0) (na_same h1) hc _ _ _ _ _ _ q1 q6⟩
section Y
variable {M : Mm} {x y : Nat}
/-- years of the class are copied -/
theorem p_ycopy (Lx : yrL M x) (Ly : yrL M y) (hd : x + 6 ≤ y ∨ y + 6 ≤ x) (hz : mI M y 0 = 0 ∨ mI M y 0 = 1) : ∃ M', f_X9_copyFrom M (some x) (some y) = some M' ∧ (mK M' = mK M ∧ mR M' = mR M ∧ mT M' = mT M ∧ mL M' = mL M) ∧ (∀ r, r < x ∨ x + 6 ≤ r → mI M' r = mI M r) ∧ (∀ f, f < 3 → mI M' x f = mI M y f) ∧ ∀ j, 1 ≤ j → j ≤ 5 → ∀ k, k < 60 → mI M' (x + j) k = mI M (y + j) k := by
  have kx : (mK M x).1 = 9 := by rw [Lx.1]
  have ky : (mK M y).1 = 9 := by rw [Ly.1]
  have ax : ∀ j, j < 5 → mR M x (3 + j) = some (x + 1 + j) := fun j hj => (Lx.2 j hj).1
  have ay : ∀ j, j < 5 → mR M y (3 + j) = some (y + 1 + j) := fun j hj => (Ly.2 j hj).1
  have cx : ∀ j, j < 5 → mK M (x + 1 + j) = (21, 60) := fun j hj => (Lx.2 j hj).2
  have cy : ∀ j, j < 5 → mK M (y + 1 + j) = (21, 60) := fun j hj => (Ly.2 j hj).2
  have hne : y ≠ x := by omega
  obtain ⟨M1, hM1⟩ : ∃ M1, sI (sI (sI M x 0 (mI M y 0)) x 1 (mI M y 1)) x 2 (mI M y 2) = M1 := ⟨_, rfl⟩
  have k1 : mK M1 = mK M ∧ mR M1 = mR M ∧ mT M1 = mT M ∧ mL M1 = mL M := by rw [← hM1]; exact ⟨rfl, rfl, rfl, rfl⟩
  have r1 : ∀ r, r ≠ x → mI M1 r = mI M r := fun r hr => by rw [← hM1, mI_o hr, mI_o hr, mI_o hr]
  have f1 : ∀ f, f < 3 → mI M1 x f = mI M y f := fun f hf => by
    rw [← hM1]
    rcases (show f = 0 ∨ f = 1 ∨ f = 2 by omega) with h | h | h <;> subst h
    · rw [mI_f (by decide), mI_f (by decide), mI_sI_s]
    · rw [mI_f (by decide), mI_sI_s]
    · rw [mI_sI_s]
  have go : ∀ (N : Mm) (j : Nat), j < 5 → (mK N = mK M ∧ mR N = mR M ∧ mT N = mT M ∧ mL N = mL M) → ∀ K : Mm → Option Mm, (gfR N (some y) 9 (3 + j) fun v25 => gfR N (some x) 9 (3 + j) fun v30 => acI N v25 0 v30 0 60 K) = K (cpI N (y + 1 + j) 0 (x + 1 + j) 0 60) := fun N j hj h K => by
    rw [gfR_s (by rw [h.1]; exact ky), gfR_s (by rw [h.1]; exact kx), h.2.1, ay j hj, ax j hj, show (0 : Int32) = nI 0 from rfl, show (60 : Int32) = nI 60 from rfl, acI_s (by rw [h.1]; exact cy j hj) (by rw [h.1]; exact cx j hj) (by omega) (by omega) (by omega) (by omega)]
  have cpk : ∀ (N : Mm) (j : Nat), (mK N = mK M ∧ mR N = mR M ∧ mT N = mT M ∧ mL N = mL M) → (mK (cpI N (y + 1 + j) 0 (x + 1 + j) 0 60) = mK M ∧ mR (cpI N (y + 1 + j) 0 (x + 1 + j) 0 60) = mR M ∧ mT (cpI N (y + 1 + j) 0 (x + 1 + j) 0 60) = mT M ∧ mL (cpI N (y + 1 + j) 0 (x + 1 + j) 0 60) = mL M) := fun N j h => h
  have cpo : ∀ (N : Mm) (j r : Nat), r ≠ x + 1 + j → mI (cpI N (y + 1 + j) 0 (x + 1 + j) 0 60) r = mI N r := fun N j r hr => funext fun k => if_neg hr
  have cps : ∀ (N : Mm) (j k : Nat), k < 60 → mI (cpI N (y + 1 + j) 0 (x + 1 + j) 0 60) (x + 1 + j) k = mI N (y + 1 + j) k := fun N j k hk => by
    show (if x + 1 + j = x + 1 + j then (if 0 ≤ k ∧ k < 0 + 60 then mI N (y + 1 + j) (0 + (k - 0)) else mI N (x + 1 + j) k) else mI N (x + 1 + j) k) = _
    rw [if_pos rfl, if_pos (by omega), show 0 + (k - 0) = k by omega]
  have g2 := cpk M1 0 k1
  have o2 := cpo M1 0
  have s2 := cps M1 0
  have e2 := go M1 0 (by omega) k1
  generalize cpI M1 (y + 1 + 0) 0 (x + 1 + 0) 0 60 = M2 at *
  have g3 := cpk M2 1 g2
  have o3 := cpo M2 1
  have s3 := cps M2 1
  have e3 := go M2 1 (by omega) g2
  generalize cpI M2 (y + 1 + 1) 0 (x + 1 + 1) 0 60 = M3 at *
  have g4 := cpk M3 2 g3
  have o4 := cpo M3 2
  have s4 := cps M3 2
  have e4 := go M3 2 (by omega) g3
  generalize cpI M3 (y + 1 + 2) 0 (x + 1 + 2) 0 60 = M4 at *
  have g5 := cpk M4 3 g4
  have o5 := cpo M4 3
  have s5 := cps M4 3
  have e5 := go M4 3 (by omega) g4
  generalize cpI M4 (y + 1 + 3) 0 (x + 1 + 3) 0 60 = M5 at *
  have g6 := cpk M5 4 g5
  have o6 := cpo M5 4
  have s6 := cps M5 4
  have e6 := go M5 4 (by omega) g5
  generalize cpI M5 (y + 1 + 4) 0 (x + 1 + 4) 0 60 = M6 at *
  refine ⟨M6, ?_, g6, fun r hr => ?_, fun f hf => ?_, fun j j1 j2 k hk => ?_⟩
  · unfold f_X9_copyFrom
    rw [gfI_s ky, pfZ_s kx hz]
    rw [gfI_s (M := sI M x 0 (mI M y 0)) ky, mI_o hne, pfI_s (M := sI M x 0 (mI M y 0)) kx]
    rw [gfI_s (M := sI (sI M x 0 (mI M y 0)) x 1 (mI M y 1)) ky, mI_o hne, mI_o hne, pfI_s (M := sI (sI M x 0 (mI M y 0)) x 1 (mI M y 1)) kx, hM1]
    rw [e2, e3, e4, e5, e6]
  · rw [o6 r (by omega), o5 r (by omega), o4 r (by omega), o3 r (by omega), o2 r (by omega), r1 r (by omega)]
  · rw [o6 x (by omega), o5 x (by omega), o4 x (by omega), o3 x (by omega), o2 x (by omega), f1 f hf]
  · rcases (show j = 1 ∨ j = 2 ∨ j = 3 ∨ j = 4 ∨ j = 5 by omega) with h | h | h | h | h <;> subst h
    · rw [o6 (x + 1) (by omega), o5 (x + 1) (by omega), o4 (x + 1) (by omega), o3 (x + 1) (by omega), show x + 1 = x + 1 + 0 from rfl, s2 k hk, r1 _ (by omega)]
    · rw [o6 (x + 2) (by omega), o5 (x + 2) (by omega), o4 (x + 2) (by omega), show x + 2 = x + 1 + 1 from rfl, s3 k hk, o2 (y + 1 + 1) (by omega), r1 _ (by omega)]
    · rw [o6 (x + 3) (by omega), o5 (x + 3) (by omega), show x + 3 = x + 1 + 2 from rfl, s4 k hk, o3 (y + 1 + 2) (by omega), o2 (y + 1 + 2) (by omega), r1 _ (by omega)]
    · rw [o6 (x + 4) (by omega), show x + 4 = x + 1 + 3 from rfl, s5 k hk, o4 (y + 1 + 3) (by omega), o3 (y + 1 + 3) (by omega), o2 (y + 1 + 3) (by omega), r1 _ (by omega)]
    · rw [show x + 5 = x + 1 + 4 from rfl, s6 k hk, o5 (y + 1 + 4) (by omega), o4 (y + 1 + 4) (by omega), o3 (y + 1 + 4) (by omega), o2 (y + 1 + 4) (by omega), r1 _ (by omega)]
end Y
/-- the reference's block i comes to j -/
def blk (c : Nat → Int32) (i j : Nat) : Nat → Int32 := fun q => if 450 * j ≤ q ∧ q < 450 * j + 450 then c (450 * i + (q - 450 * j)) else c q
def blkL (c : Nat → Int64) (i j : Nat) : Nat → Int64 := fun q => if 18 * j ≤ q ∧ q < 18 * j + 18 then c (18 * i + (q - 18 * j)) else c q
theorem q_copy {M : Mm} {c : Nat → Int32} (D : md M c) {i j : Nat} (hi : i < 5) (hj : j < 5) (hne : i ≠ j) : f_X12_copy M (some 207) (nI i) (nI j) = some (sAL (sA M 212 (blk c i j)) 214 (blkL (mL M 214) i j)) := by
  have D0 := D.1
  have k1 := lup0 (fun f k => f_X12_copy_2 f (sA M 212 (fun q => if 450 * j ≤ q ∧ q < 450 * j + k then c (450 * i + (q - 450 * j)) else c q)) (some 207) (nI i) (nI j) (nI k)) 450 (some (sAL (sA M 212 (blk c i j)) 214 (blkL (mL M 214) i j))) (by omega) (fun f k hk => ?_) (fun f => ?_)
  · rw [show (fun q => if 450 * j ≤ q ∧ q < 450 * j + 0 then c (450 * i + (q - 450 * j)) else c q) = c from funext fun q => if_neg (by omega), ← D.2, sA_self] at k1
    rw [← D.2]
    exact k1
  · rw [f_X12_copy_2, if_neg (by rw [show (450 : Int32) = nI 450 from rfl, nI_leI' (by omega) (by omega)]; omega), f_r20 D0, f_r20 D0]
    simp (disch := omega) only [i2, i3, i4, i5, i13, i21, i29, i37, i45, i53, i61, i69, i133, i137, i141, i145, i149, i153, i157, i161, i167, i4m, i6m, i8m, i9m, i18m, i60m, i256m, i450m, nI_add]
    rw [f_c D0 (by omega), f_sc D0 (by omega), nI_1, if_neg (by omega)]
    refine congrArg (fun z => f_X12_copy_2 f (sA M 212 z) (some 207) (nI i) (nI j) (nI (k + 1))) (funext fun q => ?_)
    by_cases q1 : q = 450 * j + k
    · rw [q1, pk_us, if_pos (by omega)]
      exact congrArg c (by omega)
    · rw [pk_un q1]
      by_cases q2 : 450 * j ≤ q ∧ q < 450 * j + k
      · rw [if_pos q2, if_pos (by omega)]
      · rw [if_neg q2, if_neg (by omega)]
  · rw [f_X12_copy_2, if_pos (by decide)]
    show f_X12_copy_41 fu (sA M 212 (blk c i j)) (some 207) (nI i) (nI j) 0 = _
    have DB : mdL (sA M 212 (blk c i j)) := D0
    have eL : mL (sA M 212 (blk c i j)) = mL M := rfl
    generalize sA M 212 (blk c i j) = N at *
    have k2 := lup0 (fun f k => f_X12_copy_41 f (sAL N 214 (fun q => if 18 * j ≤ q ∧ q < 18 * j + k then mL M 214 (18 * i + (q - 18 * j)) else mL M 214 q)) (some 207) (nI i) (nI j) (nI k)) 18 (some (sAL N 214 (blkL (mL M 214) i j))) (by omega) (fun f k hk => ?_) (fun f => ?_)
    · rw [show (fun q => if 18 * j ≤ q ∧ q < 18 * j + 0 then mL M 214 (18 * i + (q - 18 * j)) else mL M 214 q) = mL M 214 from funext fun q => if_neg (by omega), ← eL, sAL_self] at k2
      rw [← eL]
      exact k2
    · have DC : mdL (sAL N 214 (fun q => if 18 * j ≤ q ∧ q < 18 * j + k then mL M 214 (18 * i + (q - 18 * j)) else mL M 214 q)) := DB
      rw [f_X12_copy_41, if_neg (by rw [show (18 : Int32) = nI 18 from rfl, nI_leI' (by omega) (by omega)]; omega), m_r22 DC, m_r22 DC]
      simp (disch := omega) only [i2, i3, i4, i5, i13, i21, i29, i37, i45, i53, i61, i69, i133, i137, i141, i145, i149, i153, i157, i161, i167, i4m, i6m, i8m, i9m, i18m, i60m, i256m, i450m, nI_add]
      rw [alL_s DC.2.2.2.2.2.2.2.1.2 (show 18 * i + k < 90 by omega) (by decide), asL_s DC.2.2.2.2.2.2.2.1.2 (show 18 * j + k < 90 by omega) (by decide), sL_sAL, mL_sAL_s, nI_1, if_neg (by omega)]
      refine congrArg (fun z => f_X12_copy_41 f (sAL N 214 z) (some 207) (nI i) (nI j) (nI (k + 1))) (funext fun q => ?_)
      by_cases q1 : q = 18 * j + k
      · rw [if_pos q1, if_pos (by omega)]
        exact congrArg (mL M 214) (by omega)
      · rw [if_neg q1]
        by_cases q2 : 18 * j ≤ q ∧ q < 18 * j + k
        · rw [if_pos q2, if_pos (by omega)]
        · rw [if_neg q2, if_neg (by omega)]
    · rw [f_X12_copy_41, if_pos (by decide)]
      rfl
