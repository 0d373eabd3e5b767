/-! TEXTS: what the reference takes -/
/-- only what the reference's reading of tokens writes -/
def FTn (N N' : Mm) : Prop := mK N' = mK N ∧ mR N' = mR N ∧ mT N' = mT N ∧ (∀ x, x ≠ 207 → mI N' x = mI N x ∧ mL N' x = mL N x) ∧ (∀ k, ¬ (12 ≤ k ∧ k ≤ 18) → mI N' 207 k = mI N 207 k) ∧ ∀ k, k ≠ 19 → mL N' 207 k = mL N 207 k
theorem FTn.rf {N : Mm} : FTn N N := ⟨rfl, rfl, rfl, fun _ _ => ⟨rfl, rfl⟩, fun _ _ => rfl, fun _ _ => rfl⟩
theorem FTn.tr {M M' M'' : Mm} (h : FTn M M') (h2 : FTn M' M'') : FTn M M'' := ⟨h2.1.trans h.1, h2.2.1.trans h.2.1, h2.2.2.1.trans h.2.2.1, fun x hx => ⟨(h2.2.2.2.1 x hx).1.trans (h.2.2.2.1 x hx).1, (h2.2.2.2.1 x hx).2.trans (h.2.2.2.1 x hx).2⟩, fun k hk => (h2.2.2.2.2.1 k hk).trans (h.2.2.2.2.1 k hk), fun k hk => (h2.2.2.2.2.2 k hk).trans (h.2.2.2.2.2 k hk)⟩
theorem FTm.n {M M' : Mm} (h : FTm M M') : FTn M M' := ⟨h.1, h.2.1, h.2.2.1, h.2.2.2.1, fun k hk => h.2.2.2.2.1 k (by omega), h.2.2.2.2.2⟩
theorem FTn.mD {M M' : Mm} (h : FTn M M') (D : mdL M) : mdL M' := by
  unfold mdL at *
  rw [h.1, h.2.1]
  exact D
/-- the reference: at a token; went wrong -/
def QT (N : Mm) (cd : Nat → Nat) (n s : Nat) : Prop := tpM N cd n ∧ TkM N cd n s ∧ mI N 207 12 = 0
def qBd (N : Mm) (e : Nat × Nat) : Prop := mdL N ∧ 1 ≤ e.1 ∧ e.1 ≤ 10 ∧ mI N 207 12 = nI e.1 ∧ mI N 207 13 = nI e.2
section Q
variable {M : Mm} {cd : Nat → Nat} {n s : Nat} {e : Nat × Nat}
theorem qb_le (B : qBd M e) : ¬ mI M 207 12 ≤ 0 := by
  rw [B.2.2.2.1, show (0 : Int32) = nI 0 from rfl, nI_leI' (by have := B.2.2.1; omega) (by omega)]
  have := B.2.1
  omega
theorem qb_eq (B : qBd M e) : ¬ mI M 207 12 = 0 := by
  rw [B.2.2.2.1, show (0 : Int32) = nI 0 from rfl, nI_eq' (by have := B.2.2.1; omega) (by omega)]
  have := B.2.1
  omega
theorem q_step (C : QT M cd n s) : ∃ N, f_X12_next M (some 207) = some N ∧ FTn M N ∧ QT N cd n (nx cd n s) := by
  obtain ⟨N, h1, h2, h3⟩ := q_next C.1 (tkE_le C.2.1.1) C.2.1.2.2.1
  exact ⟨N, h1, h2.n, h2.tp C.1, h3, by rw [h2.2.2.2.2.1 12 (by omega)]; exact C.2.2⟩
theorem FTn_12 (M : Mm) (k p : Int32) : FTn M (sI (sI M 207 12 k) 207 13 p) := ⟨rfl, rfl, rfl, fun x hx => ⟨by rw [mI_o hx, mI_o hx], rfl⟩, fun j hj => by rw [mI_f (by omega), mI_f (by omega)], fun _ _ => rfl⟩
theorem q_fail (D : mdL M) (h0 : mI M 207 12 = 0) (k p : Nat) (h1 : 1 ≤ k) (h2 : k ≤ 10) : ∃ N, f_X12_fail M (some 207) (nI k) (nI p) = some N ∧ FTn M N ∧ qBd N (k, p) := by
  refine ⟨sI (sI M 207 12 (nI k)) 207 13 (nI p), ?_, FTn_12 M _ _, D, h1, h2, by rw [mI_f (by decide), mI_sI_s], mI_sI_s _ _ _ _⟩
  have D2 : mdL (sI M 207 12 (nI k)) := D
  unfold f_X12_fail
  rw [m_gI D, h0, if_pos (by decide), m_pI D, m_pI D2]
theorem qb_fail (B : qBd M e) (k p : Int32) : f_X12_fail M (some 207) k p = some M := by
  unfold f_X12_fail
  rw [m_gI B.1, if_neg (qb_le B)]
theorem q_wrong (C : QT M cd n s) : ∃ N, f_X12_wrong M (some 207) = some N ∧ FTn M N ∧ qBd N (fK cd n s 2) := by
  have k4 := tkK_4 cd n s
  have D := C.1.1
  unfold f_X12_wrong f_X12_wrong_14 fK
  rw [m_gI D, C.2.1.2.2.2.1]
  by_cases q : tkK cd n s = 1
  · obtain ⟨N, h1, h2, h3⟩ := q_fail D C.2.2 1 s (by omega) (by omega)
    rw [if_pos ((mkK_1 k4).2.2.2.1.mpr q), m_gI D, C.2.1.2.1, m_ck D, show (1 : Int32) = nI 1 from rfl, h1, bv_s, if_pos q]
    exact ⟨N, rfl, h2, h3⟩
  · obtain ⟨N, h1, h2, h3⟩ := q_fail D C.2.2 2 s (by omega) (by omega)
    rw [if_neg (fun z => q ((mkK_1 k4).2.2.2.1.mp z)), m_gI D, C.2.1.2.1, m_ck D, show (2 : Int32) = nI 2 from rfl, h1, bv_s, if_neg q]
    exact ⟨N, rfl, h2, h3⟩
/-- failed when it stands at a token, or went wrong before -/
theorem q_failS (C : QT M cd n s) (k : Nat) (h1 : 1 ≤ k) (h2 : k ≤ 10) : ∃ N, f_X12_fail M (some 207) (nI k) (mI M 207 15) = some N ∧ FTn M N ∧ qBd N (k, s) := by
  rw [C.2.1.2.1]
  exact q_fail C.1.1 C.2.2 k s h1 h2
def qR (M : Mm) (x : Option Mm) (cd : Nat → Nat) (n : Nat) (r : Sum (Nat × Nat) Nat) : Prop := match r with
  | .inl e => ∃ N, x = some N ∧ FTn M N ∧ qBd N e
  | .inr s' => ∃ N, x = some N ∧ FTn M N ∧ QT N cd n s'
def qRn (M : Mm) (x : Option (Int32 × Mm)) (cd : Nat → Nat) (n : Nat) (r : Sum (Nat × Nat) (Nat × Nat)) : Prop := match r with
  | .inl e => ∃ N, x = some (0, N) ∧ FTn M N ∧ qBd N e
  | .inr (v, s') => ∃ N, x = some (nI v, N) ∧ FTn M N ∧ QT N cd n s'
theorem qb_must (B : qBd M e) (b : Int32) : f_X12_must M (some 207) b = some M := by
  unfold f_X12_must
  rw [m_gI B.1, if_neg (qb_le B)]
theorem q_must1 (C : QT M cd n s) {b : Int32} (hb : ¬ b = 0) : ∃ N, f_X12_must M (some 207) b = some N ∧ FTn M N ∧ QT N cd n (nx cd n s) := by
  obtain ⟨N, h1, h2, h3⟩ := q_step C
  refine ⟨N, ?_, h2, h3⟩
  unfold f_X12_must
  rw [m_gI C.1.1, C.2.2, if_pos (by decide), if_neg hb, m_ck C.1.1, h1, bv_s]
theorem q_must0 (C : QT M cd n s) : ∃ N, f_X12_must M (some 207) 0 = some N ∧ FTn M N ∧ qBd N (fK cd n s 2) := by
  obtain ⟨N, h1, h2, h3⟩ := q_wrong C
  refine ⟨N, ?_, h2, h3⟩
  unfold f_X12_must
  rw [m_gI C.1.1, C.2.2, if_pos (by decide), if_pos rfl, m_ck C.1.1, h1, bv_s]
theorem q_mustW (C : QT M cd n s) (w : Nat) : qR M (f_X12_must M (some 207) (bW (tkW cd n s) w)) cd n (tW cd n w s) := by
  unfold tW
  by_cases q : tkW cd n s = nI w
  · obtain ⟨N, h1, h2, h3⟩ := q_must1 C (b := 1) (by decide)
    rw [bW_1 q, if_pos q]
    exact ⟨N, h1, h2, h3⟩
  · obtain ⟨N, h1, h2, h3⟩ := q_must0 C
    rw [bW_0 q, if_neg q]
    exact ⟨N, h1, h2, h3⟩
theorem qb_count (B : qBd M e) (lo hi : Int32) : f_X12_count M (some 207) lo hi = some (0, M) := by
  unfold f_X12_count f_X12_count_19 f_X12_count_50
  rw [m_gI B.1, if_neg (qb_eq B), m_gI B.1, if_neg (qb_eq B), m_gI B.1, if_neg (qb_le B)]
theorem q_count (C : QT M cd n s) (lo hi : Nat) (h1 : lo ≤ 9999) (h2 : hi ≤ 9999) : qRn M (f_X12_count M (some 207) (nI lo) (nI hi)) cd n (tN cd n lo hi s) := by
  have k4 := tkK_4 cd n s
  have D := C.1.1
  unfold tN f_X12_count
  rw [m_gI D, C.2.2, if_pos rfl, m_gI D, C.2.1.2.2.2.1]
  by_cases q : tkK cd n s = 3
  · have v9 : tkV cd n s ≤ 9999 := nx_num q
    have e9 : mI M 207 17 = nI (tkV cd n s) := C.2.1.2.2.2.2.2.1 q
    rw [if_pos ((mkK_1 k4).2.1.mpr q), if_pos q]
    unfold f_X12_count_19
    rw [m_gI D, C.2.2, if_pos rfl, m_gI D, e9, q_isIn, bd_s, lI (by omega), lI (by omega), lI (by omega)]
    have e1 : (lN lo ≤ lN (tkV cd n s) ∧ lN (tkV cd n s) ≤ lN hi) ↔ (lo ≤ tkV cd n s ∧ tkV cd n s ≤ hi) := by
      rw [pk_lLE (by omega) (by omega), pk_lLE (by omega) (by omega)]
    by_cases a : lo ≤ tkV cd n s ∧ tkV cd n s ≤ hi
    · obtain ⟨N, g1, g2, g3⟩ := q_step C
      rw [if_pos (e1.mpr a), if_neg (by decide), if_pos a]
      unfold f_X12_count_50
      rw [m_gI D, C.2.2, if_pos (by decide), m_gI D, e9, m_ck D, g1, bv_s]
      exact ⟨N, rfl, g2, g3⟩
    · obtain ⟨N, g1, g2, g3⟩ := q_failS C 4 (by omega) (by omega)
      rw [if_neg (fun z => a (e1.mp z)), if_pos rfl, m_gI D, m_ck D, show (4 : Int32) = nI 4 from rfl, g1, bv_s, if_neg a]
      unfold f_X12_count_50
      rw [m_gI g3.1, if_neg (qb_le g3)]
      exact ⟨N, rfl, g2, g3⟩
  · obtain ⟨N, g1, g2, g3⟩ := q_wrong C
    rw [if_neg (fun z => q ((mkK_1 k4).2.1.mp z)), m_ck D, g1, bv_s, if_neg q]
    unfold f_X12_count_19 f_X12_count_50
    rw [m_gI g3.1, if_neg (qb_eq g3), m_gI g3.1, if_neg (qb_le g3)]
    exact ⟨N, rfl, g2, g3⟩
theorem qb_behind (B : qBd M e) (b lo hi : Int32) : f_X12_behindWord M (some 207) b lo hi = some (0, M) := by
  unfold f_X12_behindWord
  rw [m_ck B.1, qb_must B, bv_s, m_ck B.1, qb_count B, bd_s]
theorem q_behind (C : QT M cd n s) (w lo hi : Nat) (h1 : lo ≤ 9999) (h2 : hi ≤ 9999) : qRn M (f_X12_behindWord M (some 207) (bW (tkW cd n s) w) (nI lo) (nI hi)) cd n (tWN cd n w lo hi s) := by
  unfold tWN f_X12_behindWord
  have h := q_mustW C w
  rcases hr : tW cd n w s with e | s'
  · rw [hr] at h
    obtain ⟨N, f1, f2, f3⟩ := h
    rw [m_ck C.1.1, f1, bv_s, m_ck f3.1, qb_count f3, bd_s]
    exact ⟨N, rfl, f2, f3⟩
  · rw [hr] at h
    obtain ⟨N, f1, f2, f3⟩ := h
    have g := q_count f3 lo hi h1 h2
    rw [m_ck C.1.1, f1, bv_s, m_ck f3.1.1]
    dsimp only
    rcases hr2 : tN cd n lo hi s' with e | ⟨v, t⟩
    · rw [hr2] at g
      obtain ⟨N2, g1, g2, g3⟩ := g
      rw [g1, bd_s]
      exact ⟨N2, rfl, f2.tr g2, g3⟩
    · rw [hr2] at g
      obtain ⟨N2, g1, g2, g3⟩ := g
      rw [g1, bd_s]
      exact ⟨N2, rfl, f2.tr g2, g3⟩
theorem q_isSign (C : QT M cd n s) (x : Nat) (hx : x < 256) : f_X12_isSign M (some 207) (nI x) = some (if tkK cd n s = 4 ∧ cd s = x then 1 else 0, M) := by
  have k4 := tkK_4 cd n s
  unfold f_X12_isSign g_X12_isSign
  rw [m_gI C.1.1, C.2.1.2.2.2.1]
  by_cases q : tkK cd n s = 4
  · have hs := tkK_s (cd := cd) (n := n) (s := s) (by omega)
    have c256 := (C.1.2.2.2 s hs).2
    rw [if_pos ((mkK_1 k4).2.2.1.mpr q), m_gI C.1.1, C.2.1.2.2.2.2.2.2 q]
    by_cases q2 : cd s = x
    · rw [if_pos (by rw [q2]), zc1, if_pos ⟨q, q2⟩]
    · rw [if_neg (by rw [nI_eq' (by omega) (by omega)]; exact q2), zc0, if_neg (fun z => q2 z.2)]
  · rw [if_neg (fun z => q ((mkK_1 k4).2.2.1.mp z)), zc0, if_neg (fun z => q z.1)]
theorem q_semi (C : QT M cd n s) : qR M (f_X12_must M (some 207) (if tkK cd n s = 4 ∧ cd s = 59 then 1 else 0)) cd n (tSm cd n s) := by
  unfold tSm
  by_cases q : tkK cd n s = 4 ∧ cd s = 59
  · obtain ⟨N, h1, h2, h3⟩ := q_must1 C (b := 1) (by decide)
    rw [if_pos q, if_pos q]
    exact ⟨N, h1, h2, h3⟩
  · obtain ⟨N, h1, h2, h3⟩ := q_must0 C
    rw [if_neg q, if_neg q]
    exact ⟨N, h1, h2, h3⟩
end Q
