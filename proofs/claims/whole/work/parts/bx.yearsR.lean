/-! YEARS: the reference reads the steps -/
/-- what comes of a step, of a row of steps: a fault, or the text goes on behind them -/
def qYf (cd : Nat → Nat) (n : Nat) (nm : Nat → List Nat) (hc gc : Nat) (M N : Mm) (k r dp : Nat) (op : Nat → Nat) (R : Nat → Nat → Int32) (s : Nat) : Prop := ∃ e, qYb M N e ∧ yBd cd n nm hc gc k r dp op R s e
def qYw (cd : Nat → Nat) (n : Nat) (nm : Nat → List Nat) (hc gc : Nat) (M N : Mm) (k r dp : Nat) (op : Nat → Nat) (R : Nat → Nat → Int32) (s m k' r' : Nat) (op' : Nat → Nat) (R' : Nat → Nat → Int32) (s' : Nat) : Prop := qYr M N ∧ QT N cd n s' ∧ mI N 207 25 = nI k' ∧ k' ≤ 30 ∧ r' + dp ≤ 2 * k' ∧ (∀ j, j < dp → op' j = op j) ∧ (∀ j x, x < r → R' j x = R j x) ∧ (∀ j, j < 1975 + 9 * k → mI N 212 j = mI M 212 j) ∧ yGo cd n nm hc gc k r dp op R s k' r' dp op' R' s' ∧ seg (PM R') 0 (cYr N) (r' - r + 1) m k k' r r'
def qYs (cd : Nat → Nat) (n : Nat) (nm : Nat → List Nat) (hc gc : Nat) (M : Mm) (y : Option Mm) (k r dp : Nat) (op : Nat → Nat) (R : Nat → Nat → Int32) (s m : Nat) : Prop := ∃ N, y = some N ∧ (qYf cd n nm hc gc M N k r dp op R s ∨ ∃ k' r' op' R' s', s < s' ∧ qYw cd n nm hc gc M N k r dp op R s m k' r' op' R' s')
section Q
variable {M N N' : Mm} {cd : Nat → Nat} {n s r k hc gc wc m dp w : Nat} {nm : Nat → List Nat} {op : Nat → Nat} {R : Nat → Nat → Int32} {e : Nat × Nat} {rc : Mm → Option Nat → Int32 → Option Mm}
theorem qw_nil (C : QT M cd n s) (h25 : mI M 207 25 = nI k) (hk : k ≤ 30) (hr : r + dp ≤ 2 * k) : qYw cd n nm hc gc M M k r dp op R s m k r op R s := ⟨qYr.rf, C, h25, hk, hr, fun _ _ => rfl, fun _ _ _ => rfl, fun _ _ => rfl, yGo.rf, seg_nil⟩
theorem qw_app {k' r' s' k'' r'' s'' : Nat} {op' op'' : Nat → Nat} {R' R'' : Nat → Nat → Int32} (B : qNB M 0 nm hc gc wc) (h : qYw cd n nm hc gc M N k r dp op R s m k' r' op' R' s') (h2 : qYw cd n nm hc gc N N' k' r' dp op' R' s' m k'' r'' op'' R'' s'') : qYw cd n nm hc gc M N' k r dp op R s m k'' r'' op'' R'' s'' := by
  obtain ⟨a1, a2, a3, a4, a5, a6, a7, a8, a9, a10⟩ := h
  obtain ⟨b1, b2, b3, b4, b5, b6, b7, b8, b9, b10⟩ := h2
  have l1 := sgl_le _ _ _ _ _ _ a10
  have l2 := sgl_le _ _ _ _ _ _ b10
  have B1 := qNB_0 B a1
  have B2 := qNB_0 B1 b1
  have e1 := cYr_h B1
  have e2 := cYr_h B2
  refine ⟨a1.tr b1, b2, b3, b4, b5, fun j hj => (b6 j hj).trans (a6 j hj), fun j x hx => (b7 j x (by omega)).trans (a7 j x hx), fun j hj => (b8 j (by omega)).trans (a8 j hj), a9.tr b9, seg_app (seg_cong (e2.1.trans e1.1.symm) (e2.2.trans e1.2.symm) _ _ _ _ _ _ (fun j _ _ x _ x2 => ?_) (fun i i1 i2 => ?_) a10) b10⟩
  · show R'' (0 + j) x = R' (0 + j) x
    exact b7 _ x x2
  · unfold cYr
    rw [if_neg (by omega), if_neg (by omega)]
    exact b8 _ (by omega)
theorem qf_app {k' r' s' : Nat} {op' : Nat → Nat} {R' : Nat → Nat → Int32} (h : qYw cd n nm hc gc M N k r dp op R s m k' r' op' R' s') (h2 : qYf cd n nm hc gc N N' k' r' dp op' R' s') : qYf cd n nm hc gc M N' k r dp op R s := by
  obtain ⟨e, e1, e2⟩ := h2
  exact ⟨e, ⟨h.1.tr e1.1, e1.2⟩, h.2.2.2.2.2.2.2.2.1.bd e2⟩
theorem qb_82 (b : qBd N e) (x y z : Int32) : f_X12_readStep_82 rc N (some 207) x y z = some N := by
  unfold f_X12_readStep_82
  rw [m_gI b.1, if_neg (qb_le b)]
theorem qb_56 (b : qBd N e) (x y z : Int32) : f_X12_readStep_56 rc N (some 207) x y z = some N := by
  unfold f_X12_readStep_56
  rw [m_gI b.1, if_neg (qb_eq b), qb_82 b]
theorem qb_30 (b : qBd N e) (x y z : Int32) : f_X12_readStep_30 rc N (some 207) x y z = some N := by
  unfold f_X12_readStep_30
  rw [m_gI b.1, if_neg (qb_eq b), qb_56 b]
theorem q_191 (D : mdL N) (hw : w + 8 < 2250) : f_X12_readStep_191 rc N (some 207) (nI w) = some (sI N 212 (w + 8) (mI N 207 25)) := by
  unfold f_X12_readStep_191
  rw [m_r20 D, m_gI D, show (8 : Int32) = nI 8 from rfl, nI_add, m_as D hw]
theorem qb_169 (b : qYb M N e) (hw : 1800 ≤ w ∧ w + 8 < 2250) (x : Int32) : ∃ N', f_X12_readStep_169 rc N (some 207) x (nI w) = some N' ∧ qYb M N' e := by
  have b2 := b.pI (j := w + 8) (by omega) (mI N 207 25)
  refine ⟨_, ?_, b2⟩
  unfold f_X12_readStep_169
  by_cases q : x = 0
  · rw [if_pos q, q_191 b.2.1 hw.2]
  · obtain ⟨v1, z1⟩ := qt_isEnd b.2.1
    obtain ⟨v2, z2⟩ := qt_isSign b.2.1 59
    rw [if_neg q, m_ck b.2.1, z1, bd_s, m_ck b.2.1, qb_must b.2, bv_s, m_ck b.2.1, z2, bd_s, m_ck b.2.1, qb_must b.2, bv_s, q_191 b.2.1 hw.2]
/-- the steps within a when, a loop -/
theorem q_yLoop (hm : m ≤ 2) (IH : ∀ M k r op R s, QT M cd n s → qNB M 0 nm hc gc wc → mI M 207 25 = nI k → k ≤ 30 → r + (3 - m) ≤ 2 * k → (m = 3 → tkK cd n s ≠ 0) → (m < 3 → tkW cd n s ≠ nI 28) → qYs cd n nm hc gc M (rc M (some 207) (nI (3 - m))) k r (3 - m) op R s m) (wI : Int32) : ∀ g s k r op R M, n - s + 1 < g → QT M cd n s → qNB M 0 nm hc gc wc → mI M 207 25 = nI k → k ≤ 30 → r + (3 - m) ≤ 2 * k → ∃ N, f_X12_readStep_141 rc g M (some 207) (nI (3 - (m + 1))) 1 wI = f_X12_readStep_169 rc N (some 207) 1 wI ∧ (qYf cd n nm hc gc M N k r (3 - m) op R s ∨ ∃ k' r' op' R' s', tkW cd n s' = nI 28 ∧ s ≤ s' ∧ qYw cd n nm hc gc M N k r (3 - m) op R s m k' r' op' R' s') := by
  intro g
  induction g with
  | zero => intro s k r op R M h; omega
  | succ g ih =>
    intro s k r op R M hg C B h25 hk hr
    have D := C.1.1
    by_cases w28 : tkW cd n s = nI 28
    · refine ⟨M, ?_, Or.inr ⟨k, r, op, R, s, w28, Nat.le_refl _, qw_nil C h25 hk hr⟩⟩
      rw [f_X12_readStep_141, if_neg (by decide), m_gI D, C.2.2, if_pos rfl, m_ck D, q_isWEnd C.1 C.2.1, bd_s, if_neg (by rw [bW_1 w28]; decide)]
    · obtain ⟨N, f1, f2⟩ := IH M k r op R s C B h25 hk hr (fun z => by omega) (fun _ => w28)
      have e0 : nI (3 - (m + 1)) + 1 = nI (3 - m) := by
        rw [nI_1]
        exact congrArg nI (by omega)
      have e : f_X12_readStep_141 rc (g + 1) M (some 207) (nI (3 - (m + 1))) 1 wI = f_X12_readStep_141 rc g N (some 207) (nI (3 - (m + 1))) 1 wI := by
        rw [f_X12_readStep_141, if_neg (by decide), m_gI D, C.2.2, if_pos rfl, m_ck D, q_isWEnd C.1 C.2.1, bd_s, if_pos (bW_0 w28), m_ck D, e0, f1, bv_s]
      rw [e]
      rcases f2 with f2 | ⟨k', r', op', R', s', ss, W⟩
      · obtain ⟨x, x1, x2⟩ := id f2
        obtain ⟨g', rfl⟩ : ∃ g', g = g' + 1 := ⟨g - 1, by omega⟩
        refine ⟨N, ?_, Or.inl f2⟩
        rw [f_X12_readStep_141, if_neg (by decide), m_gI x1.2.1, if_neg (qb_eq x1.2)]
      · have C2 := W.2.1
        have sn := C2.2.1.1
        obtain ⟨N2, g1, g2⟩ := ih s' k' r' op' R' N (by omega) C2 (qNB_0 B W.1) W.2.2.1 W.2.2.2.1 W.2.2.2.2.1
        refine ⟨N2, g1, ?_⟩
        rcases g2 with g2 | ⟨k2, r2, op2, R2, s2, w2, ss2, W2⟩
        · exact Or.inl (qf_app W g2)
        · exact Or.inr ⟨k2, r2, op2, R2, s2, w2, by omega, qw_app B W W2⟩
/-- a step, but for what stands within it -/
theorem q_yBlock (hm : m ≤ 2) (IH : ∀ M k r op R s, QT M cd n s → qNB M 0 nm hc gc wc → mI M 207 25 = nI k → k ≤ 30 → r + (3 - m) ≤ 2 * k → (m = 3 → tkK cd n s ≠ 0) → (m < 3 → tkW cd n s ≠ nI 28) → qYs cd n nm hc gc M (rc M (some 207) (nI (3 - m))) k r (3 - m) op R s m) (C : QT N cd n s) (B : qNB N 0 nm hc gc wc) (h25 : mI N 207 25 = nI (k + 1)) (hk : k < 30) (hr : r + 1 + (3 - m) ≤ 2 * (k + 1)) (hop : op (3 - (m + 1)) = r) (S : stp (PM R) 0 (cYr N) k r) (hkd : mI N 212 (1975 + 9 * k) = 5 ∨ mI N 212 (1975 + 9 * k) = 6) : ∃ N', f_X12_readStep_141 rc fu N (some 207) (nI (3 - (m + 1))) 1 (nI (1975 + 9 * k)) = some N' ∧ ((∃ e, qYb N N' e ∧ yBd cd n nm hc gc (k + 1) (r + 1) (3 - m) op R s e) ∨ ∃ k' r' op' R' s', s < s' ∧ qYr N N' ∧ QT N' cd n s' ∧ mI N' 207 25 = nI k' ∧ k' ≤ 30 ∧ r' + (3 - (m + 1)) ≤ 2 * k' ∧ (∀ j, j < 3 - m → op' j = op j) ∧ (∀ j x, x < r → R' j x = R j x) ∧ (∀ j, j < 1975 + 9 * k → mI N' 212 j = mI N 212 j) ∧ yGo cd n nm hc gc (k + 1) (r + 1) (3 - m) op R s k' r' (3 - (m + 1)) op' R' s' ∧ seg (PM R') 0 (cYr N') (r' - r + 1) (m + 1) k k' r r') := by
  have n9 := C.1.2.1
  obtain ⟨N1, f1, f2⟩ := q_yLoop hm IH (nI (1975 + 9 * k)) fu s (k + 1) (r + 1) op R N (by unfold fu; omega) C B h25 (by omega) hr
  rw [f1]
  rcases f2 with ⟨e, b, y⟩ | ⟨k', r', op', R', s', w28, ss, a1, a2, a3, a4, a5, a6, a7, a8, a9, a10⟩
  · obtain ⟨N', g1, g2⟩ := qb_169 (rc := rc) b (w := 1975 + 9 * k) (by omega) 1
    exact ⟨N', g1, Or.inl ⟨e, g2, y⟩⟩
  · have l1 := sgl_le _ _ _ _ _ _ a10
    have k2 := ((tkW_iff (w := 28) (by omega)).mp w28).1
    have hK : tkK cd n s' ≠ 0 := by omega
    have d3 : 3 - m - 1 = 3 - (m + 1) := by omega
    have ho : op' (3 - m - 1) = r := by rw [a6 _ (by omega), d3]; exact hop
    have hh : yHead cd n nm hc gc k' r' (3 - m) op' R' s' = .inr (k', 3 - (m + 1), op', u2 (u2 (u2 R' 1 r' 28) 5 r' (nI r)) 5 r (nI r'), nx cd n s') := by
      unfold yHead
      rw [if_pos w28, if_neg (by omega), ho, d3]
    obtain ⟨N2, x1, x2, C2⟩ := q_must1 a2 (b := 1) (by decide)
    have g := q_semi C2
    have y2 := q_isSign C2 59 (by omega)
    have B1 := qNB_0 B a1
    have gt := nx_gt hK
    unfold f_X12_readStep_169
    rw [if_neg (by decide), m_ck a2.1.1, q_isWEnd a2.1 a2.2.1, bd_s, m_ck a2.1.1, bW_1 w28, x1, bv_s, m_ck C2.1.1, show f_X12_isSign N2 (some 207) 59 = _ from y2, bd_s, m_ck C2.1.1]
    rcases hr2 : tSm cd n (nx cd n s') with e | u
    · rw [hr2] at g
      obtain ⟨N3, g1, g2, g3⟩ := g
      rw [g1, bv_s, q_191 g3.1 (by omega)]
      have b : qYb N N3 e := ⟨(a1.tr x2.y).tr g2.y, g3⟩
      exact ⟨_, rfl, Or.inl ⟨e, b.pI (by omega) _, a9.bd (yBd_2 hK hh hr2)⟩⟩
    · rw [hr2] at g
      obtain ⟨N3, g1, g2, C3⟩ := g
      have tu := tSm_gt hr2
      have F3 : qYr N N3 := (a1.tr x2.y).tr g2.y
      have e25 : mI N3 207 25 = nI k' := by rw [g2.2.2.2.2.1 25 (by omega), x2.2.2.2.2.1 25 (by omega)]; exact a3
      have old : ∀ j, mI N3 212 j = mI N1 212 j := fun j => by rw [(g2.2.2.2.1 212 (by decide)).1, (x2.2.2.2.1 212 (by decide)).1]
      rw [g1, bv_s, q_191 C3.1.1 (by omega), e25]
      have F4 := F3.pI (j := 1975 + 9 * k + 8) (by omega) (nI k')
      have C4 : QT (sI N3 212 (1975 + 9 * k + 8) (nI k')) cd n u := C3.o (by decide) (by decide) _ _
      have o4 : ∀ j, j ≠ 1975 + 9 * k + 8 → mI (sI N3 212 (1975 + 9 * k + 8) (nI k')) 212 j = mI N1 212 j := fun j hj => by rw [mI_f hj, old]
      have s4 : mI (sI N3 212 (1975 + 9 * k + 8) (nI k')) 212 (1975 + 9 * k + 8) = nI k' := mI_sI_s _ _ _ _
      have e4 : mI (sI N3 212 (1975 + 9 * k + 8) (nI k')) 207 25 = nI k' := by rw [mI_o (by decide)]; exact e25
      generalize sI N3 212 (1975 + 9 * k + 8) (nI k') = N4 at *
      have h4 := cYr_h (qNB_0 B F4)
      have h0 := cYr_h B
      have h1 := cYr_h B1
      have Rw : ∀ j x, (x < r' ∧ (x ≠ r ∨ j ≠ 5)) → u2 (u2 (u2 R' 1 r' 28) 5 r' (nI r)) 5 r (nI r') j x = R' j x := fun j x hx => by
        rw [u2_o (by omega), u2_o (by omega), u2_o (by omega)]
      have cw : ∀ i, 175 ≤ i → i ≠ 183 + 9 * k → cYr N4 i = cYr N1 i := fun i hi hn => by
        unfold cYr
        rw [if_neg (by omega), if_neg (by omega)]
        exact o4 _ (by omega)
      have c0 : ∀ i, 175 ≤ i → i < 183 + 9 * k → cYr N4 i = cYr N i := fun i hi hn => by
        rw [cw i hi (by omega)]
        unfold cYr
        rw [if_neg (by omega), if_neg (by omega)]
        exact a8 _ (by omega)
      refine ⟨N4, rfl, Or.inr ⟨k', r' + 1, op', u2 (u2 (u2 R' 1 r' 28) 5 r' (nI r)) 5 r (nI r'), u, by omega, F4, C4, e4, a4, by omega, a6, fun j x hx => by rw [Rw j x ⟨by omega, Or.inl (by omega)⟩, a7 j x (by omega)], fun j hj => by rw [o4 j (by omega), a8 j (by omega)], a9.tr (yGo_1 hK hh hr2 (by omega)), ?_⟩⟩
      refine Or.inr ⟨by omega, by omega, stp_cong (fun j j1 j2 => ?_) (h4.1.trans h0.1.symm) (h4.2.trans h0.2.symm) (fun i i1 i2 => c0 i (by omega) (by omega)) S, Or.inr ⟨?_, k', r', ?_, by omega, Nat.le_refl _, by omega, ⟨m, rfl, ?_⟩, ?_, ?_, ?_, ?_⟩⟩
      · show u2 (u2 (u2 R' 1 r' 28) 5 r' (nI r)) 5 r (nI r') (0 + j) r = R (0 + j) r
        rw [Rw _ _ ⟨by omega, Or.inr (by omega)⟩, a7 _ _ (by omega)]
      · rw [c0 _ (by omega) (by omega)]
        have : cYr N (175 + 9 * k) = mI N 212 (1975 + 9 * k) := cYr_k (i := 0)
        rw [this]
        exact hkd
      · have : cYr N4 (183 + 9 * k) = mI N4 212 (1983 + 9 * k) := cYr_k (i := 8)
        rw [this, show 1983 + 9 * k = 1975 + 9 * k + 8 by omega]
        exact s4
      · refine seg_mono _ _ _ _ _ _ _ (show r' - (r + 1) + 1 ≤ r' + 1 - r by omega) (seg_cong (h4.1.trans h1.1.symm) (h4.2.trans h1.2.symm) _ _ _ _ _ _ (fun j _ _ x x1 x2 => ?_) (fun i i1 i2 => cw i (by omega) (by omega)) a10)
        show u2 (u2 (u2 R' 1 r' 28) 5 r' (nI r)) 5 r (nI r') (0 + j) x = R' (0 + j) x
        exact Rw _ _ ⟨x2, Or.inl (by omega)⟩
      · show u2 (u2 (u2 R' 1 r' 28) 5 r' (nI r)) 5 r (nI r') (0 + 1) r' = 28
        rw [u2_o (by omega), u2_o (by omega), u2_s]
      · show u2 (u2 (u2 R' 1 r' 28) 5 r' (nI r)) 5 r (nI r') (0 + 5) r' = nI r
        rw [u2_o (by omega), u2_s]
      · show u2 (u2 (u2 R' 1 r' 28) 5 r' (nI r)) 5 r (nI r') (0 + 5) r = nI r'
        rw [u2_s]
      · obtain ⟨f, hf⟩ : ∃ f, r' + 1 - r = f + 1 := ⟨r' - r, by omega⟩
        rw [hf]
        exact Or.inl ⟨rfl, rfl⟩
theorem q_yStepG (hm : m ≤ 3) (IH : ∀ m0, m = m0 + 1 → ∀ M k r op R s, QT M cd n s → qNB M 0 nm hc gc wc → mI M 207 25 = nI k → k ≤ 30 → r + (3 - m0) ≤ 2 * k → (m0 = 3 → tkK cd n s ≠ 0) → (m0 < 3 → tkW cd n s ≠ nI 28) → qYs cd n nm hc gc M (rc M (some 207) (nI (3 - m0))) k r (3 - m0) op R s m0) (C : QT M cd n s) (B : qNB M 0 nm hc gc wc) (h25 : mI M 207 25 = nI k) (hk : k ≤ 30) (hr : r + (3 - m) ≤ 2 * k) (hK0 : m = 3 → tkK cd n s ≠ 0) (hW : m < 3 → tkW cd n s ≠ nI 28) : qYs cd n nm hc gc M (g_X12_readStep rc M (some 207) (nI (3 - m))) k r (3 - m) op R s m := by
  have D := C.1.1
  have e21 : g_X12_readStep rc M (some 207) (nI (3 - m)) = f_X12_readStep_21 rc M (some 207) (nI (3 - m)) (swV (tkW cd n s)) (if opB (tkW cd n s) = true then 1 else 0) := by
    have h := sw_56 cd n s
    unfold g_X12_readStep f_X12_readStep_16
    rw [m_ck D, q_stepWord C.1 C.2.1, bd_s]
    by_cases o : opB (tkW cd n s) = true
    · rw [if_pos o]
      rcases h.mpr o with q | q
      · rw [if_pos q]
      · by_cases q5 : swV (tkW cd n s) = 5
        · rw [if_pos q5]
        · rw [if_neg q5, if_pos q]
    · rw [if_neg o, if_neg (fun z => o (h.mp (Or.inl z))), if_neg (fun z => o (h.mp (Or.inr z)))]
  rw [e21]
  unfold f_X12_readStep_21
  by_cases h0 : ¬ 0 ≤ swV (tkW cd n s)
  · obtain ⟨N, x1, x2, x3⟩ := q_wrong C
    rw [if_neg h0, m_ck D, x1, bv_s, qb_30 x3]
    exact ⟨N, rfl, Or.inl ⟨_, ⟨x2.y, x3⟩, yBd_0 (fun z => hK0 (by omega)) (fun z => hW (by omega)) h0⟩⟩
  rw [Decidable.not_not] at h0
  obtain ⟨kd, kd8, ekd, ekw, eop⟩ := sw_kd h0
  have k2 : tkK cd n s = 2 := by
    rcases tkW_al cd n s with h | ⟨w, hw, h⟩
    · rw [h] at h0
      exact absurd h0 (by decide)
    · exact ((tkW_iff hw).mp h).1
  have w28 : ¬ tkW cd n s = nI 28 := fun z => by
    rw [z] at h0
    exact absurd h0 (by decide)
  have hK : tkK cd n s ≠ 0 := by omega
  have sn := tkK_s hK
  rw [if_pos h0]
  unfold f_X12_readStep_30
  rw [m_gI D, C.2.2, if_pos rfl, m_gI D, h25]
  by_cases k30 : k = 30
  · obtain ⟨N, x1, x2, x3⟩ := q_failS C 6 (by omega) (by omega)
    rw [if_pos (by rw [k30]; rfl), m_gI D, m_ck D, show (6 : Int32) = nI 6 from rfl, x1, bv_s, qb_56 x3]
    refine ⟨N, rfl, Or.inl ⟨_, ⟨x2.y, x3⟩, yBd_1 hK ?_⟩⟩
    unfold yHead
    rw [if_neg w28, if_pos h0, if_pos k30]
  have k29 : k < 30 := by omega
  rw [if_neg (show ¬ nI k = 30 from fun z => k30 ((nI_eq' (b := 30) (by omega) (by omega)).mp z))]
  unfold f_X12_readStep_56
  rw [m_gI D, C.2.2, if_pos rfl]
  by_cases b7 : opB (tkW cd n s) = true ∧ m = 0
  · obtain ⟨N, x1, x2, x3⟩ := q_failS C 7 (by omega) (by omega)
    rw [if_neg (by rw [if_pos b7.1]; decide), if_pos (by rw [b7.2]; rfl), m_gI D, m_ck D, show (7 : Int32) = nI 7 from rfl, x1, bv_s, qb_82 x3]
    refine ⟨N, rfl, Or.inl ⟨_, ⟨x2.y, x3⟩, yBd_1 hK ?_⟩⟩
    unfold yHead
    rw [if_neg w28, if_pos h0, if_neg k30, if_pos ⟨b7.1, by omega⟩]
  have e82 : (if (if opB (tkW cd n s) = true then (1 : Int32) else 0) = 0 then f_X12_readStep_82 rc M (some 207) (nI (3 - m)) (swV (tkW cd n s)) (if opB (tkW cd n s) = true then 1 else 0) else if nI (3 - m) = 3 then gfI M (some 207) 12 15 fun v76 => ck M (some 207) 12 <| bv (f_X12_fail M (some 207) 7 v76) fun M79 => f_X12_readStep_82 rc M79 (some 207) (nI (3 - m)) (swV (tkW cd n s)) (if opB (tkW cd n s) = true then 1 else 0) else f_X12_readStep_82 rc M (some 207) (nI (3 - m)) (swV (tkW cd n s)) (if opB (tkW cd n s) = true then 1 else 0)) = f_X12_readStep_82 rc M (some 207) (nI (3 - m)) (swV (tkW cd n s)) (if opB (tkW cd n s) = true then 1 else 0) := by
    by_cases o : opB (tkW cd n s) = true
    · have m0 : m ≠ 0 := fun z => b7 ⟨o, z⟩
      rw [if_neg (show ¬ (if opB (tkW cd n s) = true then (1 : Int32) else 0) = 0 by rw [if_pos o]; decide), if_neg (show ¬ nI (3 - m) = 3 from fun z => m0 (by have := (nI_eq' (b := 3) (by omega) (by omega)).mp z; omega))]
    · rw [if_pos (show (if opB (tkW cd n s) = true then (1 : Int32) else 0) = 0 by rw [if_neg o])]
  rw [e82]
  have hyh : yHead cd n nm hc gc k r (3 - m) op R s = SR (yRest cd n nm hc gc (kW kd) (nx cd n s) r (u2 R 1 r (kW kd))) fun t R' => .inr (k + 1, (if opB (tkW cd n s) = true then 3 - m + 1 else 3 - m), (if opB (tkW cd n s) = true then (fun j => if j = 3 - m then r else op j) else op), R', t) := by
    unfold yHead
    rw [if_neg w28, if_pos h0, if_neg k30, if_neg (fun z => b7 ⟨z.1, by omega⟩), ekw]
  have D1 : mdL (sI M 207 25 (nI (k + 1))) := D
  have C1 : QT (sI M 207 25 (nI (k + 1))) cd n s := C.cell (by omega) _
  have F1 : qYr M (sI M 207 25 (nI (k + 1))) := qYr.rf.p25 _
  have z1 : mI (sI M 207 25 (nI (k + 1))) 207 25 = nI (k + 1) := mI_sI_s _ _ _ _
  have o1 : ∀ j, mI (sI M 207 25 (nI (k + 1))) 212 j = mI M 212 j := fun j => by rw [mI_o (by decide)]
  unfold f_X12_readStep_82
  rw [m_gI D, C.2.2, if_pos (by decide), m_gI D, h25, nmI_s, m_gI D, h25, nI_1, m_pI D, show (9 : Int32) = nI 9 from rfl, nI_mul, show (1975 : Int32) = nI 1975 from rfl, nI_add, m_ck D1]
  generalize sI M 207 25 (nI (k + 1)) = M1 at *
  obtain ⟨M2, x1, x2, C2⟩ := q_step C1
  have F2 : qYr M (sI M2 212 (1975 + 9 * k) (swV (tkW cd n s))) := (F1.tr x2.y).pI (by omega) _
  have C3 : QT (sI M2 212 (1975 + 9 * k) (swV (tkW cd n s))) cd n (nx cd n s) := C2.o (by decide) (by decide) _ _
  have z3 : mI (sI M2 212 (1975 + 9 * k) (swV (tkW cd n s))) 212 (1975 + 9 * k) = nI kd := by rw [mI_sI_s, ekd]
  have o3 : ∀ j, j < 1975 + 9 * k → mI (sI M2 212 (1975 + 9 * k) (swV (tkW cd n s))) 212 j = mI M 212 j := fun j hj => by rw [mI_f (by omega), (x2.2.2.2.1 212 (by decide)).1, o1]
  have y3 : mI (sI M2 212 (1975 + 9 * k) (swV (tkW cd n s))) 207 25 = nI (k + 1) := by rw [mI_o (by decide), x2.2.2.2.2.1 25 (by omega)]; exact z1
  rw [x1, bv_s, m_r20 C2.1.1, m_as C2.1.1 (by omega)]
  generalize sI M2 212 (1975 + 9 * k) (swV (tkW cd n s)) = M3 at *
  have B3 := qNB_0 B F2
  have g := q_yRest (R := u2 R 1 r (kW kd)) (r := r) C3 B3 k29 kd8 z3 (u2_s _ _ _ _)
  have gtx := nx_gt hK
  rw [m_ck C3.1.1]
  rcases hr1 : yRest cd n nm hc gc (kW kd) (nx cd n s) r (u2 R 1 r (kW kd)) with e | ⟨t, R1⟩
  · rw [hr1] at g
    obtain ⟨N, g1, g2⟩ := g
    have b : qYb M N e := ⟨F2.tr g2.1, g2.2⟩
    obtain ⟨v, z2⟩ := qt_isSign b.2.1 59
    obtain ⟨N', h1, h2⟩ := qb_169 (rc := rc) b (w := 1975 + 9 * k) (by omega) (if opB (tkW cd n s) = true then 1 else 0)
    have e141 : f_X12_readStep_141 rc fu N (some 207) (nI (3 - m)) (if opB (tkW cd n s) = true then 1 else 0) (nI (1975 + 9 * k)) = f_X12_readStep_169 rc N (some 207) (if opB (tkW cd n s) = true then 1 else 0) (nI (1975 + 9 * k)) := by
      show f_X12_readStep_141 rc (65535 + 1) N (some 207) (nI (3 - m)) (if opB (tkW cd n s) = true then 1 else 0) (nI (1975 + 9 * k)) = _
      rw [f_X12_readStep_141]
      by_cases o : opB (tkW cd n s) = true
      · rw [if_pos o, if_neg (by decide), m_gI b.2.1, if_neg (qb_eq b.2)]
      · rw [if_neg o, if_pos rfl]
    rw [g1, bv_s, m_ck b.2.1, z2, bd_s, m_ck b.2.1, qb_must b.2, bv_s, e141, h1]
    refine ⟨N', rfl, Or.inl ⟨e, h2, yBd_1 hK ?_⟩⟩
    rw [hyh, hr1, SR_l]
  · have gtr := yRest_ge hr1
    rw [hr1] at g
    obtain ⟨N, g1, g2, C4, S4⟩ := g
    have F4 : qYr M N := F2.tr g2.1
    have e25 : mI N 207 25 = nI (k + 1) := g2.2.1.trans y3
    have hh : yHead cd n nm hc gc k r (3 - m) op R s = .inr (k + 1, (if opB (tkW cd n s) = true then 3 - m + 1 else 3 - m), (if opB (tkW cd n s) = true then (fun j => if j = 3 - m then r else op j) else op), R1, t) := by rw [hyh, hr1, SR_r]
    have gs := q_semi C4
    have y2 := q_isSign C4 59 (by omega)
    rw [g1, bv_s, m_ck C4.1.1, show f_X12_isSign N (some 207) 59 = _ from y2, bd_s, m_ck C4.1.1]
    rcases hr2 : tSm cd n t with e | u
    · rw [hr2] at gs
      obtain ⟨N2, w1, w2, w3⟩ := gs
      have b : qYb M N2 e := ⟨F4.tr w2.y, w3⟩
      obtain ⟨N', h1, h2⟩ := qb_169 (rc := rc) b (w := 1975 + 9 * k) (by omega) (if opB (tkW cd n s) = true then 1 else 0)
      have e141 : f_X12_readStep_141 rc fu N2 (some 207) (nI (3 - m)) (if opB (tkW cd n s) = true then 1 else 0) (nI (1975 + 9 * k)) = f_X12_readStep_169 rc N2 (some 207) (if opB (tkW cd n s) = true then 1 else 0) (nI (1975 + 9 * k)) := by
        show f_X12_readStep_141 rc (65535 + 1) N2 (some 207) (nI (3 - m)) (if opB (tkW cd n s) = true then 1 else 0) (nI (1975 + 9 * k)) = _
        rw [f_X12_readStep_141]
        by_cases o : opB (tkW cd n s) = true
        · rw [if_pos o, if_neg (by decide), m_gI b.2.1, if_neg (qb_eq b.2)]
        · rw [if_neg o, if_pos rfl]
      rw [w1, bv_s, e141, h1]
      exact ⟨N', rfl, Or.inl ⟨e, h2, yBd_2 hK hh hr2⟩⟩
    · have tu := tSm_gt hr2
      rw [hr2] at gs
      obtain ⟨N2, w1, w2, C5⟩ := gs
      have F5 : qYr M N2 := F4.tr w2.y
      have B5 := qNB_0 B F5
      have e5 : mI N2 207 25 = nI (k + 1) := by rw [w2.2.2.2.2.1 25 (by omega)]; exact e25
      have o5 : ∀ j, mI N2 212 j = mI N 212 j := fun j => by rw [(w2.2.2.2.1 212 (by decide)).1]
      have q5 : ∀ j, j < 1975 + 9 * k → mI N2 212 j = mI M 212 j := fun j hj => by rw [o5, g2.2.2 j (by omega), o3 j hj]
      have kd5 : mI N2 212 (1975 + 9 * k) = nI kd := by rw [o5, g2.2.2 _ (by omega)]; exact z3
      have c5 : ∀ i, cYr N2 i = cYr N i := fun i => by unfold cYr; rw [o5, o5]
      have S5 : stp (PM R1) 0 (cYr N2) k r := stp_cong (fun _ _ _ => rfl) (na_same (c5 0)) (na_same (c5 1)) (fun i _ _ => c5 i) S4
      have R1o : ∀ j x, x < r → R1 j x = R j x := fun j x hx => by
        have h := yRest_o hr1 j x (by omega)
        rw [h, u2_o (by omega)]
      have go := yGo_1 hK hh hr2 (by omega)
      rw [w1, bv_s]
      by_cases o : opB (tkW cd n s) = true
      · obtain ⟨m0, rfl⟩ : ∃ m0, m = m0 + 1 := ⟨m - 1, by
          have : m ≠ 0 := fun z => b7 ⟨o, z⟩
          omega⟩
        have d3 : 3 - (m0 + 1) + 1 = 3 - m0 := by omega
        have kdo := eop.mp o
        rw [if_pos o]
        rw [if_pos o, if_pos o, d3] at go
        obtain ⟨N3, v1, v2⟩ := q_yBlock (rc := rc) (by omega) (IH m0 rfl) (op := fun j => if j = 3 - (m0 + 1) then r else op j) C5 B5 e5 k29 (by omega) (if_pos rfl) S5 (by rw [kd5]; rcases kdo with z | z <;> rw [z]; exact Or.inl rfl; exact Or.inr rfl)
        rw [v1]
        refine ⟨N3, rfl, ?_⟩
        rcases v2 with ⟨e, v3, v4⟩ | ⟨k', r', op', R', s', v3, v4, v5, v6, v7, v8, v9, v10, v11, v12, v13⟩
        · exact Or.inl ⟨e, ⟨F5.tr v3.1, v3.2⟩, go.bd v4⟩
        · refine Or.inr ⟨k', r', op', R', s', by omega, F5.tr v4, v5, v6, v7, v8, fun j hj => ?_, fun j x hx => (v10 j x hx).trans (R1o j x hx), fun j hj => (v11 j hj).trans (q5 j hj), go.tr v12, v13⟩
          rw [v9 j (by omega)]
          exact if_neg (by omega)
      · have nkd : ¬ (kd = 5 ∨ kd = 6) := fun z => o (eop.mpr z)
        rw [if_neg o]
        rw [if_neg o, if_neg o] at go
        have e141 : f_X12_readStep_141 rc fu N2 (some 207) (nI (3 - m)) 0 (nI (1975 + 9 * k)) = some (sI N2 212 (1975 + 9 * k + 8) (nI (k + 1))) := by
          show f_X12_readStep_141 rc (65535 + 1) N2 (some 207) (nI (3 - m)) 0 (nI (1975 + 9 * k)) = _
          rw [f_X12_readStep_141, if_pos rfl]
          unfold f_X12_readStep_169
          rw [if_pos rfl, q_191 C5.1.1 (by omega), e5]
        rw [e141]
        have F6 := F5.pI (j := 1975 + 9 * k + 8) (by omega) (nI (k + 1))
        have C6 : QT (sI N2 212 (1975 + 9 * k + 8) (nI (k + 1))) cd n u := C5.o (by decide) (by decide) _ _
        have o6 : ∀ j, j ≠ 1975 + 9 * k + 8 → mI (sI N2 212 (1975 + 9 * k + 8) (nI (k + 1))) 212 j = mI N2 212 j := fun j hj => mI_f hj
        have s6 : mI (sI N2 212 (1975 + 9 * k + 8) (nI (k + 1))) 212 (1975 + 9 * k + 8) = nI (k + 1) := mI_sI_s _ _ _ _
        have e6 : mI (sI N2 212 (1975 + 9 * k + 8) (nI (k + 1))) 207 25 = nI (k + 1) := by rw [mI_o (by decide)]; exact e5
        generalize sI N2 212 (1975 + 9 * k + 8) (nI (k + 1)) = N6 at *
        have h6 := cYr_h (qNB_0 B F6)
        have h5 := cYr_h B5
        have c6 : ∀ i, 175 ≤ i → i < 183 + 9 * k → cYr N6 i = cYr N2 i := fun i hi hn => by
          unfold cYr
          rw [if_neg (by omega), if_neg (by omega)]
          exact o6 _ (by omega)
        refine ⟨N6, rfl, Or.inr ⟨k + 1, r + 1, op, R1, u, by omega, F6, C6, e6, by omega, by omega, fun _ _ => rfl, R1o, fun j hj => (o6 j (by omega)).trans (q5 j hj), go, ?_⟩⟩
        rw [show r + 1 - r + 1 = 1 + 1 by omega]
        refine Or.inr ⟨by omega, by omega, stp_cong (fun _ _ _ => rfl) (h6.1.trans h5.1.symm) (h6.2.trans h5.2.symm) (fun i i1 i2 => c6 i (by omega) (by omega)) S5, Or.inl ⟨?_, ?_, Or.inl ⟨rfl, rfl⟩⟩⟩
        · rw [c6 _ (by omega) (by omega)]
          have : cYr N2 (175 + 9 * k) = mI N2 212 (1975 + 9 * k) := cYr_k (i := 0)
          rw [this, kd5]
          rintro (z | z)
          · exact nkd (Or.inl ((nI_eq' (b := 5) (by omega) (by omega)).mp z))
          · exact nkd (Or.inr ((nI_eq' (b := 6) (by omega) (by omega)).mp z))
        · have : cYr N6 (183 + 9 * k) = mI N6 212 (1983 + 9 * k) := cYr_k (i := 8)
          rw [this, show 1983 + 9 * k = 1975 + 9 * k + 8 by omega]
          exact s6
theorem q_yStep : ∀ m, m ≤ 3 → ∀ M k r op R s, QT M cd n s → qNB M 0 nm hc gc wc → mI M 207 25 = nI k → k ≤ 30 → r + (3 - m) ≤ 2 * k → (m = 3 → tkK cd n s ≠ 0) → (m < 3 → tkW cd n s ≠ nI 28) → qYs cd n nm hc gc M (f_X12_readStep (m + 5) M (some 207) (nI (3 - m))) k r (3 - m) op R s m := by
  intro m
  induction m with
  | zero =>
    intro hm M k r op R s C B h25 hk hr h1 h2
    exact q_yStepG (rc := f_X12_readStep 4) hm (fun m0 z => by omega) C B h25 hk hr h1 h2
  | succ m ih =>
    intro hm M k r op R s C B h25 hk hr h1 h2
    refine q_yStepG (rc := f_X12_readStep (m + 5)) hm (fun m0 z => ?_) C B h25 hk hr h1 h2
    have e : m0 = m := by omega
    subst e
    exact ih (by omega)
end Q
