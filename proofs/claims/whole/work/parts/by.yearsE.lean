/-! YEARS: the reference's text, whole -/
section Q
variable {M N X : Mm} {cd : Nat → Nat} {n s r k hc gc wc t : Nat} {nm : Nat → List Nat} {op : Nat → Nat} {R : Nat → Nat → Int32} {e : Nat × Nat}
/-- the steps of the text -/
theorem q_yTop : ∀ g s k r op R M, n - s + 1 < g → QT M cd n s → qNB M 0 nm hc gc wc → mI M 207 25 = nI k → k ≤ 30 → r ≤ 2 * k → ∃ N, f_X12_years_28 g M (some 207) = f_X12_years_50 N (some 207) ∧ (qYf cd n nm hc gc M N k r 0 op R s ∨ ∃ k' r' op' R' s', tkK cd n s' = 0 ∧ s ≤ s' ∧ qYw cd n nm hc gc M N k r 0 op R s 3 k' r' op' R' s') := by
  intro g
  induction g with
  | zero => intro s k r op R M h; omega
  | succ g ih =>
    intro s k r op R M hg C B h25 hk hr
    have D := C.1.1
    have k4 := tkK_4 cd n s
    by_cases hK : tkK cd n s = 0
    · refine ⟨M, ?_, Or.inr ⟨k, r, op, R, s, hK, Nat.le_refl _, qw_nil C h25 hk (by omega)⟩⟩
      rw [f_X12_years_28, m_gI D, C.2.2, if_pos rfl, m_gI D, C.2.1.2.2.2.1, if_pos ((mkK_1 k4).2.2.2.2.mpr hK)]
    · obtain ⟨N, f1, f2⟩ := q_yStep (m := 3) (by omega) M k r op R s C B h25 hk (by omega) (fun _ => hK) (fun z => by omega)
      have e : f_X12_years_28 (g + 1) M (some 207) = f_X12_years_28 g N (some 207) := by
        rw [f_X12_years_28, m_gI D, C.2.2, if_pos rfl, m_gI D, C.2.1.2.2.2.1, if_neg (fun z => hK ((mkK_1 k4).2.2.2.2.mp z)), m_ck D, show f_X12_readStep 8 M (some 207) 0 = some N from f1, bv_s]
      rw [e]
      rcases f2 with f2 | ⟨k', r', op', R', s', ss, W⟩
      · obtain ⟨x, x1, x2⟩ := id f2
        obtain ⟨g', rfl⟩ : ∃ g', g = g' + 1 := ⟨g - 1, by omega⟩
        refine ⟨N, ?_, Or.inl f2⟩
        rw [f_X12_years_28, m_gI x1.2.1, if_neg (qb_eq x1.2)]
      · have C2 := W.2.1
        have sn := C2.2.1.1
        obtain ⟨N2, g1, g2⟩ := ih s' k' r' op' R' N (by omega) C2 (qNB_0 B W.1) W.2.2.1 W.2.2.2.1 (by have := W.2.2.2.2.1; omega)
        refine ⟨N2, g1, ?_⟩
        rcases g2 with g2 | ⟨k2, r2, op2, R2, s2, w2, ss2, W2⟩
        · exact Or.inl (qf_app W g2)
        · exact Or.inr ⟨k2, r2, op2, R2, s2, w2, by omega, qw_app B W W2⟩
/-- the frame of a years' text, from where it began -/
def qYz (X N : Mm) : Prop := mK N = mK X ∧ mR N = mR X ∧ mT N = mT X ∧ (∀ y, y ≠ 207 → y ≠ 212 → mI N y = mI X y) ∧ (∀ y, y ≠ 207 → mL N y = mL X y) ∧ (∀ k, k < 1800 → mI N 212 k = mI X 212 k) ∧ (∀ k, k = 10 ∨ k = 11 ∨ k = 23 ∨ k = 30 ∨ k = 33 ∨ k = 36 → mI N 207 k = mI X 207 k) ∧ (∀ k, k ≠ 19 → mL N 207 k = mL X 207 k) ∧ mI N 207 0 = 0 ∧ mI N 207 8 = 0
theorem qYz_of {N' : Mm} (F : FTm (stQ X n) N) (G : qYr (sI N 207 25 0) N') : qYz X N' := by
  obtain ⟨s1, s2, s3, s4, s5, s6, s7, s8⟩ := stQ_f X n
  obtain ⟨g1, g2, g3, g4, g5, g6, g7, g8⟩ := (qYr.rf.p25 (0 : Int32)).tr G
  obtain ⟨f1, f2, f3, f4, f5, f6⟩ := F
  refine ⟨(g1.trans f1).trans s1, (g2.trans f2).trans s2, (g3.trans f3).trans s3, fun y h1 h2 => by rw [g4 y h1 h2, (f4 y h1).1, s5 y h1], fun y h1 => by rw [g5 y h1, (f4 y h1).2, s4], fun k hk => by rw [g6 k hk, (f4 212 (by decide)).1, s5 212 (by decide)], fun k hk => by rw [g7 k (by omega) (by omega), f5 k (by omega), s6 k hk], fun k hk => by rw [g8 k hk, f6 k hk, s4], by rw [g7 0 (by omega) (by omega), f5 0 (by omega)]; exact s7, by rw [g7 8 (by omega) (by omega), f5 8 (by omega)]; exact s8⟩
def qYr' (X : Mm) (y : Option (Int32 × Mm)) (hc gc : Nat) (o : Sum (Nat × Nat) (Nat × Nat × (Nat → Nat → Int32))) : Prop := match o with
  | .inl e => ∃ N, y = f_X12_years_50 N (some 207) ∧ qYz X N ∧ qBd N e
  | .inr (k, r, R) => ∃ N, y = f_X12_years_50 N (some 207) ∧ qYz X N ∧ mdL N ∧ mI N 207 12 = 0 ∧ mI N 207 25 = nI k ∧ hN (cYr N) = hc ∧ gN (cYr N) = gc ∧ seg (PM R) 0 (cYr N) (r + 1) 3 0 k 0 r
theorem q_yRun (D : mdL X) (ht : t ≤ 900) (h8 : mI X 207 8 = nI t) (hn : n ≤ t) (hn3 : n ≤ 300) (hb : ∀ k, k < t → mI X 211 k = bV (cd k) ∧ cd k < 256) (B : qNB X 0 nm hc gc wc) (op : Nat → Nat) (R : Nat → Nat → Int32) : qYr' X (f_X12_years X (some 207) (nI n)) hc gc (rdY cd n nm hc gc fu 0 0 0 op R (tkS cd n 0)) := by
  have D1 : mdL (sI X 207 1 0) := D
  have D0 : mdL (sI (sI X 207 1 0) 207 0 0) := D
  obtain ⟨N1, f1, F1, C1⟩ := q_starts (m := 300) D ht (by omega) h8 hn hn3 hb
  have C2 : QT (sI N1 207 25 0) cd n (tkS cd n 0) := C1.cell (by omega) _
  obtain ⟨s1, s2, s3, s4, s5, s6, s7, s8⟩ := stQ_f X n
  have B2 : qNB (sI N1 207 25 0) 0 nm hc gc wc := by
    have e1 : mI (sI N1 207 25 0) 212 = mI X 212 := by rw [mI_o (by decide), (F1.2.2.2.1 212 (by decide)).1, s5 212 (by decide)]
    have e2 : mL (sI N1 207 25 0) 214 = mL X 214 := by
      show mL N1 214 = _
      rw [(F1.2.2.2.1 214 (by decide)).2, s4]
    unfold qNB at *
    rw [e1, e2]
    exact B
  have n9 := C2.1.2.1
  obtain ⟨N2, g1, g2⟩ := q_yTop fu (tkS cd n 0) 0 0 op R (sI N1 207 25 0) (by unfold fu; omega) C2 B2 (mI_sI_s _ _ _ _) (by omega) (by omega)
  have e : f_X12_years X (some 207) (nI n) = f_X12_years_50 N2 (some 207) := by
    unfold f_X12_years
    rw [m_pI D, m_pI D1, m_ck D0, show (300 : Int32) = nI 300 from rfl, f1, bd_s, if_neg (by decide), m_pI C1.1.1]
    exact g1
  rw [e]
  rcases g2 with ⟨e, b, y⟩ | ⟨k', r', op', R', s', hK, ss, a1, a2, a3, a4, a5, a6, a7, a8, a9, a10⟩
  · rw [y fu (by unfold fu; omega)]
    exact ⟨N2, rfl, qYz_of F1 b.1, b.2⟩
  · obtain ⟨f', q1, q2⟩ := a9 fu (by unfold fu; omega)
    obtain ⟨f2, rfl⟩ : ∃ f2, f' = f2 + 1 := ⟨f' - 1, by omega⟩
    have h := cYr_h (qNB_0 B2 a1)
    rw [q2, rdY, if_pos hK, if_pos rfl]
    exact ⟨N2, rfl, qYz_of F1 a1, a2.1.1, a2.2.2, a3, h.1, h.2, a10⟩
theorem q_y50b (B : qBd N e) : f_X12_years_50 N (some 207) = some (-1, sI (flt N (nI e.1) (nI e.2)) 207 0 10) := by
  unfold f_X12_years_50
  rw [m_ck B.1, q_well1 B, bd_s, if_pos rfl]
/-- the years that were read come into their block -/
def yCp (c : Nat → Int32) (k j : Nat) : Nat → Int32 := fun q => if 175 ≤ q ∧ q < 175 + j then c (1800 + q) else if q = 174 then nI k else if q = 173 then 1 else c q
def yrQ (N : Mm) (k : Nat) : Mm := sA (flt N 0 (-1)) 212 (yCp (mI N 212) k (9 * k))
theorem yrQ_f (N : Mm) (k : Nat) : mK (yrQ N k) = mK N ∧ mR (yrQ N k) = mR N ∧ mT (yrQ N k) = mT N ∧ mL (yrQ N k) = mL N ∧ (∀ y, y ≠ 207 → y ≠ 212 → mI (yrQ N k) y = mI N y) ∧ (∀ j, j ≠ 10 → j ≠ 11 → mI (yrQ N k) 207 j = mI N 207 j) ∧ mI (yrQ N k) 207 10 = 0 ∧ mI (yrQ N k) 207 11 = -1 ∧ mI (yrQ N k) 212 = yCp (mI N 212) k (9 * k) := by
  obtain ⟨f1, f2, f3, f4, f5, f6, f7, f8⟩ := flt_f N 0 (-1)
  have e1 : ∀ x, x ≠ 212 → mI (yrQ N k) x = mI (flt N 0 (-1)) x := fun x hx => mI_sA_o _ _ hx
  exact ⟨f1, f2, f3, f4, fun y h1 h2 => by rw [e1 y h2, f5 y h1], fun j h1 h2 => by rw [e1 207 (by decide), f6 j h1 h2], by rw [e1 207 (by decide), f7], by rw [e1 207 (by decide), f8], mI_sA_s (flt N 0 (-1)) 212 (yCp (mI N 212) k (9 * k))⟩
theorem q_y50 (D : mdL N) (h : mI N 207 12 = 0) (h25 : mI N 207 25 = nI k) (hk : k ≤ 30) : f_X12_years_50 N (some 207) = some (nI k, yrQ N k) := by
  obtain ⟨f1, f2, f3, f4, f5, f6, f7, f8⟩ := flt_f N 0 (-1)
  have DF : mdL (flt N 0 (-1)) := D
  have f25 : mI (flt N 0 (-1)) 207 25 = nI k := by rw [f6 25 (by decide) (by decide)]; exact h25
  have f12 := f5 212 (by decide)
  unfold f_X12_years_50 yrQ
  rw [m_ck D, q_well0 D h, bd_s, if_neg (by decide)]
  rw [← f12]
  generalize flt N 0 (-1) = P at *
  have D1 : mdL (sI P 212 173 1) := DF
  rw [m_r20 DF, show (173 : Int32) = nI 173 from rfl, m_as DF (by omega), m_r20 D1, m_gI D1, mI_o (by decide), f25, show (174 : Int32) = nI 174 from rfl, m_as D1 (by omega)]
  have e0 : sI (sI P 212 173 1) 212 174 (nI k) = sA P 212 (yCp (mI P 212) k 0) := by
    rw [sI_sA, sI_sA, sA_sA, mI_sA_s]
    refine congrArg (sA P 212) (funext fun q => ?_)
    unfold upd yCp
    rw [if_neg (show ¬ (175 ≤ q ∧ q < 175 + 0) by omega)]
  rw [e0]
  have k1 := lup0 (fun f j => f_X12_years_82 f (sA P 212 (yCp (mI P 212) k j)) (some 207) (nI j)) (9 * k) (some (nI k, sA P 212 (yCp (mI P 212) k (9 * k)))) (by omega) (fun f j hj => ?_) (fun f => ?_)
  · exact k1
  · have DC : mdL (sA P 212 (yCp (mI P 212) k j)) := DF
    have c25 : mI (sA P 212 (yCp (mI P 212) k j)) 207 25 = nI k := by rw [mI_sA_o _ _ (by decide)]; exact f25
    rw [f_X12_years_82, m_gI DC, c25, show (9 : Int32) = nI 9 from rfl, nI_mul, if_neg (by rw [nI_leI' (by omega) (by omega)]; omega), m_r20 DC, m_r20 DC, show (1975 : Int32) = nI 1975 from rfl, nI_add, m_al DC (by omega), show (175 : Int32) = nI 175 from rfl, nI_add, m_as DC (by omega), nI_1]
    rw [sI_sA, mI_sA_s, sA_sA]
    refine congrArg (fun z => f_X12_years_82 f (sA P 212 z) (some 207) (nI (j + 1))) (funext fun q => ?_)
    unfold upd
    by_cases q1 : q = 175 + j
    · rw [if_pos q1, q1]
      unfold yCp
      rw [if_neg (by omega), if_neg (by omega), if_neg (by omega), if_pos (by omega)]
      exact congrArg (mI P 212) (by omega)
    · rw [if_neg q1]
      unfold yCp
      by_cases q2 : 175 ≤ q ∧ q < 175 + j
      · rw [if_pos q2, if_pos (by omega)]
      · rw [if_neg q2, if_neg (show ¬ (175 ≤ q ∧ q < 175 + (j + 1)) by omega)]
  · have DC : mdL (sA P 212 (yCp (mI P 212) k (9 * k))) := DF
    have c25 : mI (sA P 212 (yCp (mI P 212) k (9 * k))) 207 25 = nI k := by rw [mI_sA_o _ _ (by decide)]; exact f25
    rw [f_X12_years_82, m_gI DC, c25, show (9 : Int32) = nI 9 from rfl, nI_mul, if_pos (Int32.le_refl _), m_gI DC, c25]
end Q
