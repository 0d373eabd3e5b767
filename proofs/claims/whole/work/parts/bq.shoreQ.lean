/-! SHORE: the reference -/
/-- the reference's text changes this alone: the names' and the cells' new block, its own cells but for the told ones -/
def qFz (X N : Mm) : Prop := mK N = mK X ∧ mR N = mR X ∧ mT N = mT X ∧ (∀ y, y ≠ 207 → y ≠ 212 → y ≠ 214 → mI N y = mI X y ∧ mL N y = mL X y) ∧ (∀ k, k < 1800 → mI N 212 k = mI X 212 k) ∧ mL N 212 = mL X 212 ∧ (∀ k, k < 72 → mL N 214 k = mL X 214 k) ∧ mI N 214 = mI X 214 ∧ (∀ k, k = 10 ∨ k = 11 ∨ k = 23 ∨ k = 30 ∨ k = 33 ∨ k = 36 → mI N 207 k = mI X 207 k) ∧ (∀ k, k ≠ 19 → mL N 207 k = mL X 207 k) ∧ mI N 207 0 = 0 ∧ mI N 207 8 = 0
/-- where it began -/
def stQ (X : Mm) (n : Nat) : Mm := sI (sI (sI (sI (sI (sI X 207 1 0) 207 0 0) 207 9 (nI n)) 207 8 0) 207 16 0) 207 12 0
theorem stQ_f (X : Mm) (n : Nat) : mK (stQ X n) = mK X ∧ mR (stQ X n) = mR X ∧ mT (stQ X n) = mT X ∧ mL (stQ X n) = mL X ∧ (∀ y, y ≠ 207 → mI (stQ X n) y = mI X y) ∧ (∀ k, k = 10 ∨ k = 11 ∨ k = 23 ∨ k = 30 ∨ k = 33 ∨ k = 36 → mI (stQ X n) 207 k = mI X 207 k) ∧ mI (stQ X n) 207 0 = 0 ∧ mI (stQ X n) 207 8 = 0 := by
  unfold stQ
  refine ⟨rfl, rfl, rfl, rfl, fun y hy => by rw [mI_o hy, mI_o hy, mI_o hy, mI_o hy, mI_o hy, mI_o hy], fun k hk => by rw [mI_f (by omega), mI_f (by omega), mI_f (by omega), mI_f (by omega), mI_f (by omega), mI_f (by omega)], ?_, ?_⟩
  · rw [mI_f (by decide), mI_f (by decide), mI_f (by decide), mI_f (by decide), mI_sI_s]
  · rw [mI_f (by decide), mI_f (by decide), mI_sI_s]
section Q
variable {X N : Mm} {n t m : Nat} {cd : Nat → Nat} {nm : Nat → List Nat} {e : Nat × Nat}
theorem q_starts (D : mdL X) (ht : t ≤ 900) (hm : m ≤ 900) (h8 : mI X 207 8 = nI t) (hn : n ≤ t) (hn2 : n ≤ m) (hb : ∀ k, k < t → mI X 211 k = bV (cd k) ∧ cd k < 256) : ∃ N, f_X12_starts (sI (sI X 207 1 0) 207 0 0) (some 207) (nI n) (nI m) = some (1, N) ∧ FTm (stQ X n) N ∧ QT N cd n (tkS cd n 0) := by
  have D0 : mdL (sI (sI X 207 1 0) 207 0 0) := D
  have D1 : mdL (sI (sI (sI X 207 1 0) 207 0 0) 207 9 (nI n)) := D
  have D2 : mdL (sI (sI (sI (sI X 207 1 0) 207 0 0) 207 9 (nI n)) 207 8 0) := D
  have D3 : mdL (sI (sI (sI (sI (sI X 207 1 0) 207 0 0) 207 9 (nI n)) 207 8 0) 207 16 0) := D
  have D4 : mdL (sI (sI (sI (sI (sI (sI X 207 1 0) 207 0 0) 207 9 (nI n)) 207 8 0) 207 16 0) 207 12 0) := D
  obtain ⟨N, f1, f2, f3⟩ := q_begin (M := sI (sI X 207 1 0) 207 0 0) (cd := cd) (n := n) D0 (by omega) (fun k hk => by rw [mI_o (by decide), mI_o (by decide)]; exact hb k (by omega))
  refine ⟨N, ?_, f2, f3⟩
  unfold f_X12_starts g_X12_starts
  rw [if_neg (by rw [show (0 : Int32) = nI 0 from rfl, nI_ltI' (by omega) (by omega)]; omega), m_gI D0, mI_f (by decide), mI_f (by decide), h8, if_neg (by rw [nI_ltI' (by omega) (by omega)]; omega), if_pos (by rw [nI_leI' (by omega) (by omega)]; exact hn2), m_pI D0, m_pI D1, m_pI D2, m_pI D3, m_ck D4, f1, bv_s, zc1]
theorem q_startsX (D : mdL X) {x mm : Int32} (ht : t ≤ 900) (h8 : mI X 207 8 = nI t) (hx : x < 0 ∨ nI t < x ∨ ¬ x ≤ mm) : f_X12_starts (sI (sI X 207 1 0) 207 0 0) (some 207) x mm = some (0, sI (sI (sI X 207 1 0) 207 0 0) 207 0 5) := by
  have D0 : mdL (sI (sI X 207 1 0) 207 0 0) := D
  have h17 : f_X12_starts_17 (sI (sI X 207 1 0) 207 0 0) (some 207) = some (0, sI (sI (sI X 207 1 0) 207 0 0) 207 0 5) := by
    unfold f_X12_starts_17 f_X12_no g_X12_no
    rw [m_ck D0, m_pI D0, zc0, bd_s]
  unfold f_X12_starts g_X12_starts
  by_cases a : x < 0
  · rw [if_pos a, h17, zc0]
  · rw [if_neg a, m_gI D0, mI_f (by decide), mI_f (by decide), h8]
    by_cases b : nI t < x
    · rw [if_pos b, h17, zc0]
    · rw [if_neg b]
      by_cases c : x ≤ mm
      · rcases hx with h | h | h
        · exact absurd h a
        · exact absurd h b
        · exact absurd c h
      · rw [if_neg c, h17, zc0]
theorem qFz_of {N' : Mm} (F : FTm (stQ X n) N) (G : qFq N N') : qFz X N' := by
  obtain ⟨s1, s2, s3, s4, s5, s6, s7, s8⟩ := stQ_f X n
  obtain ⟨g1, g2, g3, g4, g5, g6, g7, g8, g9, g10⟩ := G
  obtain ⟨f1, f2, f3, f4, f5, f6⟩ := F
  refine ⟨(g1.trans f1).trans s1, (g2.trans f2).trans s2, (g3.trans f3).trans s3, fun y h1 h2 h3 => ⟨by rw [(g4 y h1 h2 h3).1, (f4 y h1).1, s5 y h1], by rw [(g4 y h1 h2 h3).2, (f4 y h1).2, s4]⟩, fun k hk => by rw [g5 k hk, (f4 212 (by decide)).1, s5 212 (by decide)], by rw [g6, (f4 212 (by decide)).2, s4], fun k hk => by rw [g7 k hk, (f4 214 (by decide)).2, s4], by rw [g8, (f4 214 (by decide)).1, s5 214 (by decide)], fun k hk => by rw [g9 k (by omega) (by omega), f5 k (by omega), s6 k hk], fun k hk => by rw [g10 k hk, f6 k hk, s4], by rw [g9 0 (by omega) (by omega), f5 0 (by omega)]; exact s7, by rw [g9 8 (by omega) (by omega), f5 8 (by omega)]; exact s8⟩
def qShR (X : Mm) (y : Option (Int32 × Mm)) (o : Sum (Nat × Nat) ((Nat → Int32) × (Nat → List Nat))) : Prop := match o with
  | .inl e => ∃ N, y = f_X12_shore_164 N (some 207) ∧ qFz X N ∧ qBd N e
  | .inr (c, nm) => ∃ N, y = f_X12_shore_164 N (some 207) ∧ qFz X N ∧ mdL N ∧ mI N 207 12 = 0 ∧ dM N c nm
theorem q_shRun (D : mdL X) (ht : t ≤ 900) (h8 : mI X 207 8 = nI t) (hn : n ≤ t) (hb : ∀ k, k < t → mI X 211 k = bV (cd k) ∧ cd k < 256) : qShR X (f_X12_shore X (some 207) (nI n)) (rdA cd n fu shZ nm false (tkS cd n 0)) := by
  have D1 : mdL (sI X 207 1 0) := D
  have D0 : mdL (sI (sI X 207 1 0) 207 0 0) := D
  obtain ⟨N1, f1, F1, C1⟩ := q_starts (m := 900) D ht (by omega) h8 hn (by omega) hb
  obtain ⟨N2, f2, F2, C2, D2, z2⟩ := q_zero C1 nm
  have r := q_allP 65535 (tkS cd n 0) shZ nm false N2 (by omega) C2 D2 dOK_0 (by rw [z2, if_neg (by decide)])
  have e : f_X12_shore X (some 207) (nI n) = f_X12_shore_63 (65535 + 1) N2 (some 207) := by
    unfold f_X12_shore
    rw [m_pI D, m_pI D1, m_ck D0, show (900 : Int32) = nI 900 from rfl, f1, bd_s, if_neg (by decide)]
    exact f2
  rw [e, rdA_fuel fu 65535 (tkS cd n 0) shZ nm false dOK_0 (by unfold fu; omega) (by omega)]
  rcases hr : rdA cd n 65535 shZ nm false (tkS cd n 0) with e | ⟨c, nm'⟩
  · rw [hr] at r
    obtain ⟨N3, r1, r2, r3⟩ := r
    exact ⟨N3, r1, qFz_of F1 (F2.tr r2), r3⟩
  · rw [hr] at r
    obtain ⟨N3, r1, r2, r3, r4, r5⟩ := r
    exact ⟨N3, r1, qFz_of F1 (F2.tr r2), r3, r4, r5⟩
/-- what the reference tells of the fault -/
def flt (N : Mm) (u v : Int32) : Mm := sI (sI N 207 10 u) 207 11 v
theorem q_well0 (D : mdL N) (h : mI N 207 12 = 0) : f_X12_isWell N (some 207) = some (1, flt N 0 (-1)) := by
  have D1 : mdL (sI N 207 10 0) := D
  have D2 : mdL (sI (sI N 207 10 0) 207 11 (-1)) := D
  unfold f_X12_isWell g_X12_isWell f_X12_isWell_24 f_X12_isWell_43 flt
  rw [m_gI D, h, m_pI D, m_gI D1, mI_f (by decide), h, if_pos rfl, m_pI D1, m_gI D2, mI_f (by decide), mI_f (by decide), h, if_pos rfl, zc1]
theorem q_well1 (B : qBd N e) : f_X12_isWell N (some 207) = some (0, sI (flt N (nI e.1) (nI e.2)) 207 0 10) := by
  have D := B.1
  have ne := qb_eq B
  have D1 : mdL (sI N 207 10 (nI e.1)) := D
  have D2 : mdL (sI (sI N 207 10 (nI e.1)) 207 11 (nI e.2)) := D
  have q : ¬ nI e.1 = 0 := by
    rw [← B.2.2.2.1]
    exact ne
  unfold f_X12_isWell g_X12_isWell f_X12_isWell_24 flt
  rw [m_gI D, B.2.2.2.1, m_pI D, m_gI D1, mI_f (by decide), B.2.2.2.1, if_neg q, m_gI D1, mI_f (by decide), B.2.2.2.2, m_pI D1, m_gI D2, mI_f (by decide), mI_f (by decide), B.2.2.2.1, if_neg q, m_ck D2]
  unfold f_X12_no g_X12_no
  rw [m_pI D2, zc0, bd_s, if_pos rfl, zc0]
theorem flt_f (N : Mm) (u v : Int32) : mK (flt N u v) = mK N ∧ mR (flt N u v) = mR N ∧ mT (flt N u v) = mT N ∧ mL (flt N u v) = mL N ∧ (∀ y, y ≠ 207 → mI (flt N u v) y = mI N y) ∧ (∀ k, k ≠ 10 → k ≠ 11 → mI (flt N u v) 207 k = mI N 207 k) ∧ mI (flt N u v) 207 10 = u ∧ mI (flt N u v) 207 11 = v := by
  unfold flt
  exact ⟨rfl, rfl, rfl, rfl, fun y hy => by rw [mI_o hy, mI_o hy], fun k h1 h2 => by rw [mI_f h2, mI_f h1], by rw [mI_f (by decide), mI_sI_s], mI_sI_s _ _ _ _⟩
/-- the shore that was read comes into its block -/
def shQ (N : Mm) : Mm := sAL (sA (flt N 0 (-1)) 212 (blk (mI N 212) 4 0)) 214 (blkL (mL N 214) 4 0)
theorem shQ_f (N : Mm) : mK (shQ N) = mK N ∧ mR (shQ N) = mR N ∧ mT (shQ N) = mT N ∧ (∀ y, y ≠ 207 → y ≠ 212 → mI (shQ N) y = mI N y) ∧ (∀ y, y ≠ 214 → mL (shQ N) y = mL N y) ∧ (∀ k, k ≠ 10 → k ≠ 11 → mI (shQ N) 207 k = mI N 207 k) ∧ mI (shQ N) 207 10 = 0 ∧ mI (shQ N) 207 11 = -1 ∧ mI (shQ N) 212 = blk (mI N 212) 4 0 ∧ mL (shQ N) 214 = blkL (mL N 214) 4 0 := by
  obtain ⟨f1, f2, f3, f4, f5, f6, f7, f8⟩ := flt_f N 0 (-1)
  have e1 : ∀ x, x ≠ 212 → mI (shQ N) x = mI (flt N 0 (-1)) x := fun x hx => mI_sA_o _ _ hx
  refine ⟨f1, f2, f3, fun y h1 h2 => by rw [e1 y h2, f5 y h1], fun y hy => by rw [← f4]; exact mL_sAL_o _ _ hy, fun k h1 h2 => by rw [e1 207 (by decide), f6 k h1 h2], by rw [e1 207 (by decide), f7], by rw [e1 207 (by decide), f8], ?_, ?_⟩
  · exact mI_sA_s (flt N 0 (-1)) 212 (blk (mI N 212) 4 0)
  · exact mL_sAL_s (sA (flt N 0 (-1)) 212 (blk (mI N 212) 4 0)) 214 (blkL (mL N 214) 4 0)
theorem q_164 (D : mdL N) (h : mI N 207 12 = 0) : f_X12_shore_164 N (some 207) = some (mI N 212 1800, shQ N) := by
  obtain ⟨f1, f2, f3, f4, f5, f6, f7, f8⟩ := flt_f N 0 (-1)
  have DF : mdL (flt N 0 (-1)) := D
  have k1 := q_copy (M := flt N 0 (-1)) (c := mI N 212) ⟨DF, f5 212 (by decide)⟩ (i := 4) (j := 0) (by omega) (by omega) (by omega)
  rw [f4] at k1
  have DS : mdL (shQ N) := D
  have e0 : mI (shQ N) 212 0 = mI N 212 1800 := by
    have := blk_s (c := mI N 212) (i := 4) (j := 0) (k := 0) (by omega)
    rw [(shQ_f N).2.2.2.2.2.2.2.2.1]
    exact this
  unfold f_X12_shore_164
  rw [m_ck D, q_well0 D h, bd_s, if_neg (by decide), m_ck DF, show f_X12_copy (flt N 0 (-1)) (some 207) 4 0 = some (sAL (sA (flt N 0 (-1)) 212 (blk (mI N 212) 4 0)) 214 (blkL (mL N 214) 4 0)) from k1, bv_s]
  show (gfR (shQ N) (some 207) 12 20 fun v180 => alI (shQ N) v180 21 (nI 0) fun v184 => some (v184, shQ N)) = _
  rw [m_r20 DS, m_al DS (by omega), e0]
theorem q_164b (B : qBd N e) : f_X12_shore_164 N (some 207) = some (-1, sI (flt N (nI e.1) (nI e.2)) 207 0 10) := by
  unfold f_X12_shore_164
  rw [m_ck B.1, q_well1 B, bd_s, if_pos rfl]
end Q
