/-! TEXTS: names, the reference -/
section Q
variable {M : Mm} {cd : Nat → Nat} {n s j h g w : Nat} {nm : Nat → List Nat} {L : List Nat} {e : Nat × Nat}
theorem q_namedIn (D : mdL M) (hL : okN L) (e19 : mL M 207 19 = lN (n32 L)) {a m : Nat} (hm : a + m ≤ 18) (hj : j ≤ 4) (hn : ∀ k, k < m → okN (nm (a + k)) ∧ mL M 214 (18 * j + a + k) = lN (n32 (nm (a + k)))) : f_X12_namedIn M (some 207) (nI j) (nI a) (nI m) = some (if fnd nm L a m < m then nI (fnd nm L a m) else -1, M) := by
  have el := fnd_le nm L a m
  have K22 : mK M 214 = (22, 90) := D.2.2.2.2.2.2.2.1.2
  obtain ⟨y, f1, f2⟩ := lupE0 (fun f N k => f_X12_namedIn_3 f N (some 207) (nI j) (nI a) (nI m) (nI k)) (fun k N => N = M) (fnd nm L a m) (fun N => some (if fnd nm L a m < m then nI (fnd nm L a m) else -1, N)) (by omega) (fun f k N hk hI => by
    subst hI
    have hb := fnd_b hk
    have hb2 : ¬ lN (n32 (nm (a + k))) = lN (n32 L) := fun z => hb ((nm_eq (hn k (by omega)).1 hL).2.mp z)
    refine ⟨N, ?_, rfl⟩
    rw [f_X12_namedIn_3, if_neg (by rw [nI_leI' (by omega) (by omega)]; omega), m_r22 D, i18m, nI_add, nI_add, alL_s K22 (by omega) (by decide), m_gL D, (hn k (by omega)).2, e19, if_neg (fun z => hb2 ((lg_cmp_eq _ _).mp z)), nI_1]) (fun f N hI => by
    subst hI
    rw [f_X12_namedIn_3]
    by_cases q : fnd nm L a m < m
    · have he := fnd_e (by omega) q
      rw [if_neg (by rw [nI_leI' (by omega) (by omega)]; omega), m_r22 D, i18m, nI_add, nI_add, alL_s K22 (by omega) (by decide), m_gL D, (hn _ q).2, e19, he, if_pos ((lg_cmp_eq _ _).mpr rfl), if_pos q]
    · rw [if_pos (by rw [nI_leI' (by omega) (by omega)]; omega), if_neg q]) M rfl
  subst f2
  exact f1
theorem q_houseNamed (D : mdL M) (B : qNB M j nm h g w) (hL : okN L) (e19 : mL M 207 19 = lN (n32 L)) : f_X12_houseNamed M (some 207) (nI j) = some (if fnd nm L 0 h < h then nI (fnd nm L 0 h) else -1, M) := by
  obtain ⟨hj, ⟨h3, h8⟩, -, -, hn, -, -⟩ := B
  have K21 : mK M 212 = (21, 2250) := D.2.2.2.2.2.1.2
  unfold f_X12_houseNamed
  rw [m_r20 D, i450m, alI_s K21 (by omega) (by decide), h3, m_ck D, show (0 : Int32) = nI 0 from rfl, q_namedIn D hL e19 (nm := nm) (a := 0) (m := h) (by omega) hj (fun k hk => by rw [Nat.zero_add]; exact hn k hk), bd_s]
theorem q_gangNamed (D : mdL M) (B : qNB M j nm h g w) (hL : okN L) (e19 : mL M 207 19 = lN (n32 L)) : f_X12_gangNamed M (some 207) (nI j) = some (if fnd nm L 8 g < g then nI (fnd nm L 8 g) else -1, M) := by
  obtain ⟨hj, -, ⟨h3, h8⟩, -, -, hn, -⟩ := B
  have K21 : mK M 212 = (21, 2250) := D.2.2.2.2.2.1.2
  unfold f_X12_gangNamed
  rw [m_r20 D, i450m, nI_1, alI_s K21 (by omega) (by decide), h3, m_ck D, show (8 : Int32) = nI 8 from rfl, q_namedIn D hL e19 (nm := nm) (a := 8) (m := g) (by omega) hj hn, bd_s]
theorem q_nm (C : QT M cd n s) (q : isNm cd n s = true) : okN (tkL cd n s) ∧ mL M 207 19 = lN (n32 (tkL cd n s)) ∧ fK cd n s 3 = (3, s) := by
  obtain ⟨h1, h2, -⟩ := nm_u q
  have ok := tkL_ok h1 h2
  have e : mL M 207 19 = lN (n32 (tkL cd n s)) := by
    rw [(C.2.1.2.2.2.2.1 h1).2, if_pos h2]
    rfl
  refine ⟨ok, e, ?_⟩
  unfold fK
  rw [if_neg (by omega)]
theorem mx_0 {v : Nat} (h : v < 1000) : mxI 0 (nI v) = nI v := by
  rw [show (0 : Int32) = nI 0 from rfl, mx_nI (by omega) (by omega)]
  exact congrArg nI (by omega)
/-- the name stays the token -/
def qRs (M : Mm) (x : Option (Int32 × Mm)) (cd : Nat → Nat) (n s : Nat) (r : Sum (Nat × Nat) (Nat × Nat)) : Prop := match r with
  | .inl e => ∃ N v, x = some (v, N) ∧ FTn M N ∧ qBd N e
  | .inr (v, _) => x = some (nI v, M)
def qRm (M : Mm) (x : Option (Int32 × Mm)) (cd : Nat → Nat) (n : Nat) (r : Sum (Nat × Nat) (Nat × Nat)) : Prop := match r with
  | .inl e => ∃ N v, x = some (v, N) ∧ FTn M N ∧ qBd N e
  | .inr (v, s') => ∃ N, x = some (nI v, N) ∧ FTn M N ∧ QT N cd n s'
theorem qb_told (B : qBd M e) (x y : Int32) : f_X12_told M (some 207) x y = some (0, M) := by
  unfold f_X12_told f_X12_told_18
  rw [m_gI B.1, if_neg (qb_eq B), m_gI B.1, if_neg (qb_le B)]
theorem q_told44 (C : QT M cd n s) (a m : Nat) (hm : m ≤ 8) (q : isNm cd n s = true) : qRs M (f_X12_told_44 M (some 207) (if fnd nm (tkL cd n s) a m < m then nI (fnd nm (tkL cd n s) a m) else -1)) cd n s (tNm cd n nm a m s) := by
  have el := fnd_le nm (tkL cd n s) a m
  unfold tNm f_X12_told_44 f_X12_told_58
  rw [if_pos q]
  by_cases z : fnd nm (tkL cd n s) a m < m
  · have z0 : (0 : Int32) ≤ nI (fnd nm (tkL cd n s) a m) := by
      rw [show (0 : Int32) = nI 0 from rfl, nI_leI' (by omega) (by omega)]
      omega
    rw [if_pos z, if_pos z, if_pos z0]
    show some _ = some _
    rw [mx_0 (by omega)]
  · obtain ⟨N, h1, h2, h3⟩ := q_failS C 3 (by omega) (by omega)
    rw [if_neg z, if_neg z, if_neg (by decide), m_gI C.1.1, m_ck C.1.1, show (3 : Int32) = nI 3 from rfl, h1, bv_s]
    exact ⟨N, _, rfl, h2, h3⟩
theorem q_told (C : QT M cd n s) (B : qNB M j nm h g w) (y : Nat) (hy : y ≤ 1) : qRs M (f_X12_told M (some 207) (nI j) (nI y)) cd n s (if y = 0 then tNm cd n nm 0 h s else tNm cd n nm 8 g s) := by
  have D := C.1.1
  unfold f_X12_told
  rw [m_gI D, C.2.2, if_pos rfl, m_ck D, q_isName C.1 C.2.1, bd_s]
  by_cases q : isNm cd n s = true
  · obtain ⟨ok, e, -⟩ := q_nm C q
    rw [if_pos q, if_neg (by decide)]
    unfold f_X12_told_18
    rw [m_gI D, C.2.2, if_pos (by decide)]
    by_cases y0 : y = 0
    · subst y0
      rw [if_pos (show nI 0 = 0 from rfl), m_ck D, q_houseNamed D B ok e, bd_s, if_pos rfl]
      exact q_told44 C 0 h B.2.1.2 q
    · have y1 : y = 1 := by omega
      subst y1
      rw [if_neg (show ¬ nI 1 = 0 by decide), m_ck D, q_gangNamed D B ok e, bd_s, if_neg (show ¬ (1 : Nat) = 0 by omega)]
      exact q_told44 C 8 g (by have := B.2.2.1.2; omega) q
  · obtain ⟨N, h1, h2, h3⟩ := q_wrong C
    have e2 : (if y = 0 then tNm cd n nm 0 h s else tNm cd n nm 8 g s) = .inl (fK cd n s 2) := by
      unfold tNm
      rw [if_neg q, if_neg q]
      by_cases y0 : y = 0
      · rw [if_pos y0]
      · rw [if_neg y0]
    rw [e2, if_neg q, if_pos rfl, m_ck D, h1, bv_s]
    unfold f_X12_told_18
    rw [m_gI h3.1, if_neg (qb_le h3)]
    exact ⟨N, _, rfl, h2, h3⟩
theorem qb_readTold (B : qBd M e) (x y : Int32) : f_X12_readTold M (some 207) x y = some (0, M) := by
  unfold f_X12_readTold
  rw [m_ck B.1, qb_told B, bd_s, m_ck B.1, qb_must B, bv_s]
theorem q_readTold (C : QT M cd n s) (B : qNB M j nm h g w) (y : Nat) (hy : y ≤ 1) : qRm M (f_X12_readTold M (some 207) (nI j) (nI y)) cd n (if y = 0 then tNm cd n nm 0 h s else tNm cd n nm 8 g s) := by
  have t := q_told C B y hy
  have nxs : ∀ v s', (if y = 0 then tNm cd n nm 0 h s else tNm cd n nm 8 g s) = .inr (v, s') → s' = nx cd n s := fun v s' z => by
    have : ∀ a m, tNm cd n nm a m s = .inr (v, s') → s' = nx cd n s := fun a m z => by
      unfold tNm at z
      by_cases q : isNm cd n s = true
      · rw [if_pos q] at z
        by_cases q2 : fnd nm (tkL cd n s) a m < m
        · rw [if_pos q2] at z
          injection z with z
          exact (Prod.mk.inj z).2.symm
        · rw [if_neg q2] at z
          cases z
      · rw [if_neg q] at z
        cases z
    by_cases y0 : y = 0
    · rw [if_pos y0] at z
      exact this _ _ z
    · rw [if_neg y0] at z
      exact this _ _ z
  unfold f_X12_readTold
  rw [m_ck C.1.1]
  rcases hr : (if y = 0 then tNm cd n nm 0 h s else tNm cd n nm 8 g s) with e | ⟨v, s'⟩
  · rw [hr] at t
    obtain ⟨N, v, h1, h2, h3⟩ := t
    rw [h1, bd_s, m_ck h3.1, qb_must h3, bv_s]
    exact ⟨N, v, rfl, h2, h3⟩
  · rw [hr] at t
    have t' : f_X12_told M (some 207) (nI j) (nI y) = some (nI v, M) := t
    obtain ⟨N, h1, h2, h3⟩ := q_must1 C (b := 1) (by decide)
    rw [t', bd_s, m_ck C.1.1, h1, bv_s, nxs v s' hr]
    exact ⟨N, rfl, h2, h3⟩
end Q
