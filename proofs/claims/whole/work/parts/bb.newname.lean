/-! TEXTS: the reference reads a new name -/
/-- only what the reference's reading writes -/
def qFr (M N : Mm) : Prop := mK N = mK M ∧ mR N = mR M ∧ mT N = mT M ∧ (∀ y, y ≠ 207 → y ≠ 212 → y ≠ 214 → mI N y = mI M y ∧ mL N y = mL M y) ∧ (∀ k, k < 1800 → mI N 212 k = mI M 212 k) ∧ mL N 212 = mL M 212 ∧ (∀ k, k < 72 → mL N 214 k = mL M 214 k) ∧ mI N 214 = mI M 214 ∧ (∀ k, ¬ (12 ≤ k ∧ k ≤ 18) → mI N 207 k = mI M 207 k) ∧ ∀ k, k ≠ 19 → mL N 207 k = mL M 207 k
theorem qFr.rf {M : Mm} : qFr M M := ⟨rfl, rfl, rfl, fun _ _ _ _ => ⟨rfl, rfl⟩, fun _ _ => rfl, rfl, fun _ _ => rfl, rfl, fun _ _ => rfl, fun _ _ => rfl⟩
theorem qFr.tr {M M' M'' : Mm} (h : qFr M M') (h2 : qFr M' M'') : qFr M M'' := ⟨h2.1.trans h.1, h2.2.1.trans h.2.1, h2.2.2.1.trans h.2.2.1, fun y a b c => ⟨(h2.2.2.2.1 y a b c).1.trans (h.2.2.2.1 y a b c).1, (h2.2.2.2.1 y a b c).2.trans (h.2.2.2.1 y a b c).2⟩, fun k hk => (h2.2.2.2.2.1 k hk).trans (h.2.2.2.2.1 k hk), h2.2.2.2.2.2.1.trans h.2.2.2.2.2.1, fun k hk => (h2.2.2.2.2.2.2.1 k hk).trans (h.2.2.2.2.2.2.1 k hk), h2.2.2.2.2.2.2.2.1.trans h.2.2.2.2.2.2.2.1, fun k hk => (h2.2.2.2.2.2.2.2.2.1 k hk).trans (h.2.2.2.2.2.2.2.2.1 k hk), fun k hk => (h2.2.2.2.2.2.2.2.2.2 k hk).trans (h.2.2.2.2.2.2.2.2.2 k hk)⟩
theorem FTn.q {M N : Mm} (h : FTn M N) : qFr M N := ⟨h.1, h.2.1, h.2.2.1, fun y a _ _ => h.2.2.2.1 y a, fun k _ => by rw [(h.2.2.2.1 212 (by decide)).1], (h.2.2.2.1 212 (by decide)).2, fun k _ => by rw [(h.2.2.2.1 214 (by decide)).2], (h.2.2.2.1 214 (by decide)).1, h.2.2.2.2.1, h.2.2.2.2.2⟩
theorem qFr.pI {M N : Mm} (h : qFr M N) {j : Nat} (hj : 1800 ≤ j) (v : Int32) : qFr M (sI N 212 j v) := ⟨h.1, h.2.1, h.2.2.1, fun y a b c => ⟨by rw [mI_o b]; exact (h.2.2.2.1 y a b c).1, (h.2.2.2.1 y a b c).2⟩, fun k hk => by rw [mI_f (by omega)]; exact h.2.2.2.2.1 k hk, h.2.2.2.2.2.1, h.2.2.2.2.2.2.1, by rw [mI_o (by decide)]; exact h.2.2.2.2.2.2.2.1, fun k hk => by rw [mI_o (by decide)]; exact h.2.2.2.2.2.2.2.2.1 k hk, h.2.2.2.2.2.2.2.2.2⟩
theorem qFr.pL {M N : Mm} (h : qFr M N) {j : Nat} (hj : 72 ≤ j) (v : Int64) : qFr M (sL N 214 j v) := ⟨h.1, h.2.1, h.2.2.1, fun y a b c => ⟨(h.2.2.2.1 y a b c).1, by rw [mL_o c]; exact (h.2.2.2.1 y a b c).2⟩, h.2.2.2.2.1, by rw [mL_o (by decide)]; exact h.2.2.2.2.2.1, fun k hk => by rw [mL_f (by omega)]; exact h.2.2.2.2.2.2.1 k hk, h.2.2.2.2.2.2.2.1, h.2.2.2.2.2.2.2.2.1, fun k hk => by rw [mL_o (by decide)]; exact h.2.2.2.2.2.2.2.2.2 k hk⟩
def qBB (M N : Mm) (e : Nat × Nat) : Prop := qFr M N ∧ qBd N e
theorem qBB.pI {M N : Mm} {e : Nat × Nat} (h : qBB M N e) {j : Nat} (hj : 1800 ≤ j) (v : Int32) : qBB M (sI N 212 j v) e := ⟨h.1.pI hj v, h.2.1, h.2.2.1, h.2.2.2.1, by rw [mI_o (by decide)]; exact h.2.2.2.2.1, by rw [mI_o (by decide)]; exact h.2.2.2.2.2⟩
/-- the reference with the cells f, the names x -/
def mZ (M N : Mm) (f : Nat → Int32) (x : Nat → Int64) : Prop := qFr M N ∧ mI N 212 = f ∧ mL N 214 = x
theorem mZ.rf (M : Mm) : mZ M M (mI M 212) (mL M 214) := ⟨qFr.rf, rfl, rfl⟩
theorem mZ.n {M N N' : Mm} {f : Nat → Int32} {x : Nat → Int64} (h : mZ M N f x) (F : FTn N N') : mZ M N' f x := ⟨h.1.tr F.q, (F.2.2.2.1 212 (by decide)).1.trans h.2.1, (F.2.2.2.1 214 (by decide)).2.trans h.2.2⟩
theorem mZ.pI {M N : Mm} {f : Nat → Int32} {x : Nat → Int64} (h : mZ M N f x) {j : Nat} (hj : 1800 ≤ j) (v : Int32) : mZ M (sI N 212 j v) (sx f j v) x := ⟨h.1.pI hj v, by rw [mI_sx, h.2.1], h.2.2⟩
def sxL (f : Nat → Int64) (k : Nat) (v : Int64) : Nat → Int64 := fun j => if j = k then v else f j
theorem mL_sx (N : Mm) (r j : Nat) (v : Int64) : mL (sL N r j v) r = sxL (mL N r) j v := funext fun k => by
  unfold sxL
  by_cases e : k = j
  · rw [e, mL_s, if_pos rfl]
  · rw [mL_f e, if_neg e]
theorem mZ.pL {M N : Mm} {f : Nat → Int32} {x : Nat → Int64} (h : mZ M N f x) {j : Nat} (hj : 72 ≤ j) (v : Int64) : mZ M (sL N 214 j v) f (sxL x j v) := ⟨h.1.pL hj v, h.2.1, by rw [mL_sx, h.2.2]⟩
theorem mZ.bd {M N N' : Mm} {f : Nat → Int32} {x : Nat → Int64} {e : Nat × Nat} (h : mZ M N f x) (F : FTn N N') (B : qBd N' e) : qBB M N' e := ⟨h.1.tr F.q, B⟩
section Q
variable {M N : Mm} {cd : Nat → Nat} {n s j h g w p : Nat} {nm : Nat → List Nat} {L : List Nat} {e : Nat × Nat}
theorem QT.o (C : QT N cd n s) {r : Nat} (h1 : r ≠ 207) (h2 : r ≠ 211) (k : Nat) (v : Int32) : QT (sI N r k v) cd n s := by
  obtain ⟨⟨a1, a2, a3, a4⟩, T, z⟩ := C
  refine ⟨⟨a1, a2, by rw [mI_o (fun z => h1 z.symm)]; exact a3, fun k hk => by rw [mI_o (fun z => h2 z.symm)]; exact a4 k hk⟩, ?_, by rw [mI_o (fun z => h1 z.symm)]; exact z⟩
  unfold TkM at *
  rw [mI_o (fun z => h1 z.symm)]
  exact T
theorem QT.l (C : QT N cd n s) {r : Nat} (h1 : r ≠ 207) (k : Nat) (v : Int64) : QT (sL N r k v) cd n s := by
  obtain ⟨⟨a1, a2, a3, a4⟩, T, z⟩ := C
  refine ⟨⟨a1, a2, a3, a4⟩, ?_, z⟩
  unfold TkM at *
  rw [mL_o (fun z => h1 z.symm)]
  exact T
theorem qNB_n (B : qNB M j nm h g w) (F : FTn M N) : qNB N j nm h g w := by
  unfold qNB at *
  rw [(F.2.2.2.1 212 (by decide)).1, (F.2.2.2.1 214 (by decide)).2]
  exact B
def qNw (M : Mm) (y : Option Mm) (cd : Nat → Nat) (n p : Nat) (L : List Nat) (r : Sum (Nat × Nat) Nat) : Prop := match r with
  | .inl e => ∃ N, y = some N ∧ FTn M N ∧ qBd N e
  | .inr s' => ∃ N, y = some N ∧ okN L ∧ FTn (sL M 214 (72 + p) (lN (n32 L))) N ∧ QT N cd n s'
theorem q_new (C : QT M cd n s) (B : qNB M 4 nm h g w) (hp : p < 18) : qNw M (f_X12_readNew M (some 207) (nI p)) cd n p (tkL cd n (nx cd n s)) (tNew cd n nm h g w (nx cd n s)) := by
  obtain ⟨N1, a1, a2, C1⟩ := q_step C
  have B1 := qNB_n B a2
  have D := C1.1.1
  have K22 : mK N1 214 = (22, 90) := D.2.2.2.2.2.2.2.1.2
  have K21 : mK N1 212 = (21, 2250) := D.2.2.2.2.2.1.2
  have b65 : ∀ {N e}, qBd N e → f_X12_readNew_65 N (some 207) (nI p) = some N := fun {N e} Bd => by
    unfold f_X12_readNew_65
    rw [m_gI Bd.1, if_neg (qb_le Bd)]
  unfold f_X12_readNew tNew
  rw [m_ck C.1.1, a1, bv_s, m_ck D, q_isName C1.1 C1.2.1, bd_s]
  by_cases q : isNm cd n (nx cd n s) = true
  · obtain ⟨ok, e19, -⟩ := q_nm C1 q
    rw [if_pos q, if_neg (by decide), if_pos q]
    unfold f_X12_readNew_15
    have b56 : ∃ N, f_X12_readNew_56 N1 (some 207) (nI p) = some N ∧ FTn N1 N ∧ qBd N (3, nx cd n s) := by
      obtain ⟨N, z1, z2, z3⟩ := q_failS C1 3 (by omega) (by omega)
      refine ⟨N, ?_, z2, z3⟩
      unfold f_X12_readNew_56
      rw [m_gI D, m_ck D, show (3 : Int32) = nI 3 from rfl, z1, bv_s, b65 z3]
    have n3 := q_namedIn (nm := nm) D ok e19 (a := 12) (m := w) (by have := B.2.2.2.1.2; omega) B1.1 B1.2.2.2.2.2.2
    rw [m_gI D, C1.2.2, if_pos rfl, m_ck D, show (4 : Int32) = nI 4 from rfl, q_houseNamed D B1 ok e19, bd_s]
    have el1 := fnd_le nm (tkL cd n (nx cd n s)) 0 h
    have el2 := fnd_le nm (tkL cd n (nx cd n s)) 8 g
    have el3 := fnd_le nm (tkL cd n (nx cd n s)) 12 w
    have h8 := B.2.1.2
    have g4 := B.2.2.1.2
    have w6 := B.2.2.2.1.2
    have z0 : ∀ v, v < 1000 → (0 : Int32) ≤ nI v := fun v hv => by
      rw [show (0 : Int32) = nI 0 from rfl, nI_leI' (by omega) (by omega)]
      omega
    by_cases q1 : fnd nm (tkL cd n (nx cd n s)) 0 h < h
    · obtain ⟨N, z1, z2, z3⟩ := b56
      rw [if_pos q1, if_pos (z0 _ (by omega)), z1, if_pos (tkn_t (Or.inl q1))]
      exact ⟨N, rfl, a2.tr z2, z3⟩
    rw [if_neg q1, if_neg (by decide), m_ck D, q_gangNamed D B1 ok e19, bd_s]
    by_cases q2 : fnd nm (tkL cd n (nx cd n s)) 8 g < g
    · obtain ⟨N, z1, z2, z3⟩ := b56
      rw [if_pos q2, if_pos (z0 _ (by omega)), z1, if_pos (tkn_t (Or.inr (Or.inl q2)))]
      exact ⟨N, rfl, a2.tr z2, z3⟩
    have i2 : mI N1 212 1802 = nI w := B1.2.2.2.1.1
    rw [if_neg q2, if_neg (by decide), m_r20 D, show (1802 : Int32) = nI 1802 from rfl, alI_s K21 (by omega) (by decide), i2, m_ck D, show (12 : Int32) = nI 12 from rfl, n3, bd_s]
    by_cases q3 : fnd nm (tkL cd n (nx cd n s)) 12 w < w
    · obtain ⟨N, z1, z2, z3⟩ := b56
      rw [if_pos q3, if_neg (nI_pos (by omega)), z1, if_pos (tkn_t (Or.inr (Or.inr q3)))]
      exact ⟨N, rfl, a2.tr z2, z3⟩
    have nt : ¬ tkn nm h g w (tkL cd n (nx cd n s)) = true := fun z => by
      rcases of_decide_eq_true z with z | z | z
      · exact q1 z
      · exact q2 z
      · exact q3 z
    have C2 := C1.l (r := 214) (by decide) (72 + p) (lN (n32 (tkL cd n (nx cd n s))))
    obtain ⟨N, z1, z2, C3⟩ := q_step C2
    rw [if_neg q3, if_pos (by decide), if_neg nt]
    unfold f_X12_readNew_65
    rw [m_gI D, C1.2.2, if_pos (by decide), m_r22 D, m_gL D, e19, show (72 : Int32) = nI 72 from rfl, nI_add, asL_s K22 (by omega) (by decide), m_ck C2.1.1, z1, bv_s]
    refine ⟨N, rfl, ok, ?_, C3⟩
    have a3 : FTn (sL M 214 (72 + p) (lN (n32 (tkL cd n (nx cd n s))))) (sL N1 214 (72 + p) (lN (n32 (tkL cd n (nx cd n s))))) := ⟨a2.1, a2.2.1, a2.2.2.1, fun y hy => ⟨(a2.2.2.2.1 y hy).1, funext fun k => by
      show (if y = 214 ∧ k = 72 + p then _ else mL N1 y k) = (if y = 214 ∧ k = 72 + p then _ else mL M y k)
      rw [(a2.2.2.2.1 y hy).2]⟩, a2.2.2.2.2.1, fun k hk => by rw [mL_o (by decide), mL_o (by decide)]; exact a2.2.2.2.2.2 k hk⟩
    exact a3.tr z2
  · obtain ⟨N, z1, z2, z3⟩ := q_wrong C1
    rw [if_neg q, if_pos rfl, m_ck D, z1, bv_s, if_neg q]
    unfold f_X12_readNew_15
    rw [m_gI z3.1, if_neg (qb_eq z3), b65 z3]
    exact ⟨N, rfl, a2.tr z2, z3⟩
theorem qt_isWord (D : mdL M) (x : Int64) : ∃ v, f_X12_isWord M (some 207) x = some (v, M) := by
  unfold f_X12_isWord g_X12_isWord
  rw [m_gI D]
  by_cases q : mI M 207 14 = 1
  · rw [if_pos q, m_gL D]
    by_cases q2 : lg_cmp (mL M 207 19) x = 0
    · rw [if_pos q2, zc1]; exact ⟨1, rfl⟩
    · rw [if_neg q2, zc0]; exact ⟨0, rfl⟩
  · rw [if_neg q, zc0]; exact ⟨0, rfl⟩
theorem zc_t {v : Int32} (h : v = 0 ∨ v = 1) : zc (some (v, M)) = some (v, M) := by
  rcases h with h | h
  · rw [h, zc0]
  · rw [h, zc1]
theorem qt_isWord2 (D : mdL M) (x : Int64) : ∃ v, (v = 0 ∨ v = 1) ∧ f_X12_isWord M (some 207) x = some (v, M) := by
  unfold f_X12_isWord g_X12_isWord
  rw [m_gI D]
  by_cases q : mI M 207 14 = 1
  · rw [if_pos q, m_gL D]
    by_cases q2 : lg_cmp (mL M 207 19) x = 0
    · rw [if_pos q2, zc1]; exact ⟨1, Or.inr rfl, rfl⟩
    · rw [if_neg q2, zc0]; exact ⟨0, Or.inl rfl, rfl⟩
  · rw [if_neg q, zc0]; exact ⟨0, Or.inl rfl, rfl⟩
theorem qt_isAt (D : mdL M) : ∃ v, f_X12_isAt M (some 207) = some (v, M) := by
  unfold f_X12_isAt g_X12_isAt
  obtain ⟨v, h1, h2⟩ := qt_isWord2 D _
  exact ⟨v, by rw [q_spelled, bd_s, m_ck D, h2, bd_s, zc_t h1]⟩
theorem qt_isWorth (D : mdL M) : ∃ v, f_X12_isWorth M (some 207) = some (v, M) := by
  unfold f_X12_isWorth g_X12_isWorth
  obtain ⟨v, h1, h2⟩ := qt_isWord2 D _
  exact ⟨v, by rw [q_spelled, bd_s, m_ck D, h2, bd_s, zc_t h1]⟩
theorem qt_isPieces (D : mdL M) : ∃ v, f_X12_isPieces M (some 207) = some (v, M) := by
  unfold f_X12_isPieces g_X12_isPieces
  obtain ⟨v, h1, h2⟩ := qt_isWord2 D _
  exact ⟨v, by rw [q_spelled, bd_s, m_ck D, h2, bd_s, zc_t h1]⟩
theorem qt_isWeight (D : mdL M) : ∃ v, f_X12_isWeight M (some 207) = some (v, M) := by
  unfold f_X12_isWeight g_X12_isWeight
  obtain ⟨v, h1, h2⟩ := qt_isWord2 D _
  exact ⟨v, by rw [q_spelled, bd_s, m_ck D, h2, bd_s, zc_t h1]⟩
theorem qt_isHands (D : mdL M) : ∃ v, f_X12_isHands M (some 207) = some (v, M) := by
  unfold f_X12_isHands g_X12_isHands
  obtain ⟨v, h1, h2⟩ := qt_isWord2 D _
  exact ⟨v, by rw [q_spelled, bd_s, m_ck D, h2, bd_s, zc_t h1]⟩
theorem qt_isOf (D : mdL M) : ∃ v, f_X12_isOf M (some 207) = some (v, M) := by
  unfold f_X12_isOf g_X12_isOf
  obtain ⟨v, h1, h2⟩ := qt_isWord2 D _
  exact ⟨v, by rw [q_spelled, bd_s, m_ck D, h2, bd_s, zc_t h1]⟩
theorem qt_isBy (D : mdL M) : ∃ v, f_X12_isBy M (some 207) = some (v, M) := by
  unfold f_X12_isBy g_X12_isBy
  obtain ⟨v, h1, h2⟩ := qt_isWord2 D _
  exact ⟨v, by rw [q_spelled, bd_s, m_ck D, h2, bd_s, zc_t h1]⟩
theorem qt_isWith (D : mdL M) : ∃ v, f_X12_isWith M (some 207) = some (v, M) := by
  unfold f_X12_isWith g_X12_isWith
  obtain ⟨v, h1, h2⟩ := qt_isWord2 D _
  exact ⟨v, by rw [q_spelled, bd_s, m_ck D, h2, bd_s, zc_t h1]⟩
theorem qt_isEnd (D : mdL M) : ∃ v, f_X12_isEnd M (some 207) = some (v, M) := by
  unfold f_X12_isEnd g_X12_isEnd
  obtain ⟨v, h1, h2⟩ := qt_isWord2 D _
  exact ⟨v, by rw [q_spelled, bd_s, m_ck D, h2, bd_s, zc_t h1]⟩
theorem qt_isHouse (D : mdL M) : ∃ v, f_X12_isHouse M (some 207) = some (v, M) := by
  unfold f_X12_isHouse g_X12_isHouse
  obtain ⟨v, h1, h2⟩ := qt_isWord2 D _
  exact ⟨v, by rw [q_spelled, bd_s, m_ck D, h2, bd_s, zc_t h1]⟩
theorem qt_isGang (D : mdL M) : ∃ v, f_X12_isGang M (some 207) = some (v, M) := by
  unfold f_X12_isGang g_X12_isGang
  obtain ⟨v, h1, h2⟩ := qt_isWord2 D _
  exact ⟨v, by rw [q_spelled, bd_s, m_ck D, h2, bd_s, zc_t h1]⟩
theorem qt_isHelped (D : mdL M) : ∃ v, f_X12_isHelped M (some 207) = some (v, M) := by
  unfold f_X12_isHelped g_X12_isHelped
  obtain ⟨v, h1, h2⟩ := qt_isWord2 D _
  exact ⟨v, by rw [q_spelled, bd_s, m_ck D, h2, bd_s, zc_t h1]⟩
theorem qt_isWind (D : mdL M) : ∃ v, f_X12_isWind M (some 207) = some (v, M) := by
  unfold f_X12_isWind g_X12_isWind
  obtain ⟨v, h1, h2⟩ := qt_isWord2 D _
  exact ⟨v, by rw [q_spelled, bd_s, m_ck D, h2, bd_s, zc_t h1]⟩
theorem qt_isLaw (D : mdL M) : ∃ v, f_X12_isLaw M (some 207) = some (v, M) := by
  unfold f_X12_isLaw g_X12_isLaw
  obtain ⟨v, h1, h2⟩ := qt_isWord2 D _
  exact ⟨v, by rw [q_spelled, bd_s, m_ck D, h2, bd_s, zc_t h1]⟩
theorem qt_isSign (D : mdL M) (x : Int32) : ∃ v, f_X12_isSign M (some 207) x = some (v, M) := by
  unfold f_X12_isSign g_X12_isSign
  rw [m_gI D]
  by_cases q : mI M 207 14 = 3
  · rw [if_pos q, m_gI D]
    by_cases q2 : mI M 207 17 = x
    · rw [if_pos q2, zc1]; exact ⟨1, rfl⟩
    · rw [if_neg q2, zc0]; exact ⟨0, rfl⟩
  · rw [if_neg q, zc0]; exact ⟨0, rfl⟩
end Q
