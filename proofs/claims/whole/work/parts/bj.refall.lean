/-! TEXTS: the reference reads the parts -/
def qFq (M N : Mm) : Prop := mK N = mK M ∧ mR N = mR M ∧ mT N = mT M ∧ (∀ y, y ≠ 207 → y ≠ 212 → y ≠ 214 → mI N y = mI M y ∧ mL N y = mL M y) ∧ (∀ k, k < 1800 → mI N 212 k = mI M 212 k) ∧ mL N 212 = mL M 212 ∧ (∀ k, k < 72 → mL N 214 k = mL M 214 k) ∧ mI N 214 = mI M 214 ∧ (∀ k, ¬ (12 ≤ k ∧ k ≤ 18) → k ≠ 24 → mI N 207 k = mI M 207 k) ∧ ∀ k, k ≠ 19 → mL N 207 k = mL M 207 k
section Q
variable {M N M0 : Mm} {cd : Nat → Nat} {n s : Nat} {c : Nat → Int32} {nm : Nat → List Nat} {tl : Bool} {e : Nat × Nat}
theorem qFr.toQ (h : qFr M N) : qFq M N := ⟨h.1, h.2.1, h.2.2.1, h.2.2.2.1, h.2.2.2.2.1, h.2.2.2.2.2.1, h.2.2.2.2.2.2.1, h.2.2.2.2.2.2.2.1, fun k hk _ => h.2.2.2.2.2.2.2.2.1 k hk, h.2.2.2.2.2.2.2.2.2⟩
theorem qFq.tr {M M' M'' : Mm} (h : qFq M M') (h2 : qFq M' M'') : qFq M M'' := ⟨h2.1.trans h.1, h2.2.1.trans h.2.1, h2.2.2.1.trans h.2.2.1, fun y a b c => ⟨(h2.2.2.2.1 y a b c).1.trans (h.2.2.2.1 y a b c).1, (h2.2.2.2.1 y a b c).2.trans (h.2.2.2.1 y a b c).2⟩, fun k hk => (h2.2.2.2.2.1 k hk).trans (h.2.2.2.2.1 k hk), h2.2.2.2.2.2.1.trans h.2.2.2.2.2.1, fun k hk => (h2.2.2.2.2.2.2.1 k hk).trans (h.2.2.2.2.2.2.1 k hk), h2.2.2.2.2.2.2.2.1.trans h.2.2.2.2.2.2.2.1, fun k hk h24 => (h2.2.2.2.2.2.2.2.2.1 k hk h24).trans (h.2.2.2.2.2.2.2.2.1 k hk h24), fun k hk => (h2.2.2.2.2.2.2.2.2.2 k hk).trans (h.2.2.2.2.2.2.2.2.2 k hk)⟩
theorem qFq.told (v : Int32) : qFq M (sI M 207 24 v) := ⟨rfl, rfl, rfl, fun y a _ _ => ⟨mI_o a, rfl⟩, fun k _ => by rw [mI_o (by decide)], rfl, fun _ _ => rfl, mI_o (by decide), fun k _ h24 => mI_f h24, fun _ _ => rfl⟩
theorem q_disp (f : Nat) (C : QT M cd n s) (D : dM M c nm) (ok : dOK c) (ht : mI M 207 24 = if tl = true then 1 else 0) (hK : tkK cd n s ≠ 0) : ∃ y M0, f_X12_shore_63 (f + 1) M (some 207) = bv y (fun N => f_X12_shore_151 (f_X12_shore_63 f) N (some 207)) ∧ qOut M0 y cd n (rdP cd n c nm tl s) ∧ qFq M M0 ∧ mI M0 207 24 = (if (tl || decide (tkW cd n s = nI 14)) = true then 1 else 0) := by
  have k4 := tkK_4 cd n s
  have D0 := C.1.1
  rw [f_X12_shore_63, m_gI D0, C.2.2, if_pos rfl, m_gI D0, C.2.1.2.2.2.1, if_neg (fun z => hK ((mkK_1 k4).2.2.2.2.mp z))]
  have same : ∀ w, w ≠ 14 → w < 30 → tkW cd n s = nI w → mI M 207 24 = (if (tl || decide (tkW cd n s = nI 14)) = true then 1 else 0) := fun w h1 h2 h3 => by
    have z : decide (tkW cd n s = nI 14) = false := decide_eq_false (fun y => h1 ((nI_eq' (by omega) (by omega)).mp (h3.symm.trans y)))
    rw [z, Bool.or_false]
    exact ht
  rw [m_ck D0, q_isWHouse C.1 C.2.1, bd_s]
  by_cases h0 : tkW cd n s = nI 0
  · have k2 := ((tkW_iff (w := 0) (by omega)).mp h0).1
    rw [if_neg (by rw [bW_1 h0]; decide)]
    refine ⟨f_X12_readHouse M (some 207), M, by rw [m_ck D0], ?_, qFr.rf.toQ, same 0 (by omega) (by omega) h0⟩
    unfold rdP
    rw [if_pos h0]
    exact q_house C D ok k2
  rw [if_pos (bW_0 h0)]
  rw [m_ck D0, q_isWGang C.1 C.2.1, bd_s]
  by_cases h7 : tkW cd n s = nI 7
  · have k2 := ((tkW_iff (w := 7) (by omega)).mp h7).1
    rw [if_neg (by rw [bW_1 h7]; decide)]
    refine ⟨f_X12_readGang M (some 207), M, by rw [m_ck D0], ?_, qFr.rf.toQ, same 7 (by omega) (by omega) h7⟩
    unfold rdP
    rw [if_neg h0, if_pos h7]
    exact q_gang C D ok k2
  rw [if_pos (bW_0 h7)]
  rw [m_ck D0, q_isWHelped C.1 C.2.1, bd_s]
  by_cases h10 : tkW cd n s = nI 10
  · have k2 := ((tkW_iff (w := 10) (by omega)).mp h10).1
    rw [if_neg (by rw [bW_1 h10]; decide)]
    refine ⟨f_X12_readHelped M (some 207), M, by rw [m_ck D0], ?_, qFr.rf.toQ, same 10 (by omega) (by omega) h10⟩
    unfold rdP
    rw [if_neg h0, if_neg h7, if_pos h10]
    exact q_helped C D ok
  rw [if_pos (bW_0 h10)]
  rw [m_ck D0, q_isWWind C.1 C.2.1, bd_s]
  by_cases h12 : tkW cd n s = nI 12
  · have k2 := ((tkW_iff (w := 12) (by omega)).mp h12).1
    rw [if_neg (by rw [bW_1 h12]; decide)]
    refine ⟨f_X12_readWind M (some 207), M, by rw [m_ck D0], ?_, qFr.rf.toQ, same 12 (by omega) (by omega) h12⟩
    unfold rdP
    rw [if_neg h0, if_neg h7, if_neg h10, if_pos h12]
    exact q_wind C D ok k2
  rw [if_pos (bW_0 h12)]
  rw [m_ck D0, q_isWLaw C.1 C.2.1, bd_s]
  by_cases h14 : tkW cd n s = nI 14
  · have k2 := ((tkW_iff (w := 14) (by omega)).mp h14).1
    rw [if_neg (by rw [bW_1 h14]; decide)]
    unfold rdP
    rw [if_neg h0, if_neg h7, if_neg h10, if_neg h12, if_pos h14, decide_eq_true h14, Bool.or_true]
    by_cases t : tl = true
    · rw [if_pos t] at ht
      refine ⟨f_X12_readLaw M (some 207), M, by rw [m_ck D0], ?_, qFr.rf.toQ, by rw [if_pos rfl]; exact ht⟩
      rw [if_pos t]
      exact q_law0 C k2 (by rw [ht]; decide)
    · rw [if_neg t] at ht
      refine ⟨f_X12_readLaw M (some 207), sI M 207 24 1, by rw [m_ck D0], ?_, qFq.told 1, by rw [mI_sI_s, if_pos rfl]⟩
      rw [if_neg t]
      exact q_law C D ok ht
  rw [if_pos (bW_0 h14)]
  obtain ⟨N, z1, z2, z3⟩ := q_wrong C
  refine ⟨f_X12_wrong M (some 207), M, by rw [m_ck D0], ?_, qFr.rf.toQ, ?_⟩
  · unfold rdP
    rw [if_neg h0, if_neg h7, if_neg h10, if_neg h12, if_neg h14]
    exact ⟨N, z1, z2.q, z3⟩
  · rw [decide_eq_false h14, Bool.or_false]
    exact ht
def qAll (M : Mm) (y : Option (Int32 × Mm)) (o : Sum (Nat × Nat) ((Nat → Int32) × (Nat → List Nat))) : Prop := match o with
  | .inl e => ∃ N, y = f_X12_shore_164 N (some 207) ∧ qFq M N ∧ qBd N e
  | .inr (c, nm) => ∃ N, y = f_X12_shore_164 N (some 207) ∧ qFq M N ∧ mdL N ∧ mI N 207 12 = 0 ∧ dM N c nm
theorem q_bad63 (f : Nat) (B : qBd N e) : f_X12_shore_63 (f + 1) N (some 207) = f_X12_shore_164 N (some 207) := by
  rw [f_X12_shore_63, m_gI B.1, if_neg (qb_eq B)]
theorem q_allP : ∀ f s c nm tl M, n - s < f → QT M cd n s → dM M c nm → dOK c → mI M 207 24 = (if tl = true then 1 else 0) → qAll M (f_X12_shore_63 (f + 1) M (some 207)) (rdA cd n f c nm tl s) := by
  intro f
  induction f with
  | zero => intro s c nm tl M h; omega
  | succ f ih =>
    intro s c nm tl M hf C D ok ht
    have k4 := tkK_4 cd n s
    by_cases hK : tkK cd n s = 0
    · rw [rdA, if_pos hK, f_X12_shore_63, m_gI C.1.1, C.2.2, if_pos rfl, m_gI C.1.1, C.2.1.2.2.2.1, if_pos ((mkK_1 k4).2.2.2.2.mpr hK)]
      exact ⟨M, rfl, qFr.rf.toQ, C.1.1, C.2.2, D⟩
    · have hs := tkK_s hK
      obtain ⟨y, M0, h1, h2, h3, h4⟩ := q_disp (f + 1) C D ok ht hK
      rw [rdA, if_neg hK, h1]
      rcases hr : rdP cd n c nm tl s with e | ⟨t, c', nm'⟩
      · rw [hr] at h2
        obtain ⟨N, z1, z2, z3⟩ := h2
        obtain ⟨v, w1⟩ := qt_isSign z3.1 59
        rw [z1, bv_s]
        unfold f_X12_shore_151
        rw [m_ck z3.1, w1, bd_s, m_ck z3.1, qb_must z3, bv_s, q_bad63 f z3]
        exact ⟨N, rfl, h3.tr z2.toQ, z3⟩
      · obtain ⟨st, ok'⟩ := rdP_ok ok hr
        rw [hr] at h2
        obtain ⟨N, z1, z2, C2, D2⟩ := h2
        have F2 : qFq M N := h3.tr z2.toQ
        have g := q_semi C2
        have w1 := q_isSign C2 59 (by omega)
        rw [z1, bv_s]
        unfold f_X12_shore_151
        rw [m_ck C2.1.1, show f_X12_isSign N (some 207) 59 = _ from w1, bd_s, m_ck C2.1.1]
        dsimp only
        rcases hr2 : tSm cd n t with e | u
        · rw [hr2] at g
          obtain ⟨N2, g1, g2, g3⟩ := g
          rw [g1, bv_s, q_bad63 f g3]
          exact ⟨N2, rfl, F2.tr g2.q.toQ, g3⟩
        · rw [hr2] at g
          obtain ⟨N2, g1, g2, C3⟩ := g
          have tu := tSm_gt hr2
          have D3 : dM N2 c' nm' := ⟨fun k hk => by rw [(g2.2.2.2.1 212 (by decide)).1]; exact D2.1 k hk, qNB_n D2.2 g2⟩
          have q2 : mI N2 207 24 = (if (tl || decide (tkW cd n s = nI 14)) = true then 1 else 0) := by
            rw [g2.2.2.2.2.1 24 (by omega), z2.2.2.2.2.2.2.2.2.1 24 (by omega)]
            exact h4
          have r := ih u c' nm' (tl || decide (tkW cd n s = nI 14)) N2 (by omega) C3 D3 ok' q2
          rw [g1, bv_s]
          dsimp only
          rcases hr3 : rdA cd n f c' nm' (tl || decide (tkW cd n s = nI 14)) u with e | ⟨c'', nm''⟩
          · rw [hr3] at r
            obtain ⟨N3, r1, r2, r3⟩ := r
            exact ⟨N3, r1, (F2.tr g2.q.toQ).tr r2, r3⟩
          · rw [hr3] at r
            obtain ⟨N3, r1, r2, r3, r4, r5⟩ := r
            exact ⟨N3, r1, (F2.tr g2.q.toQ).tr r2, r3, r4, r5⟩
end Q
