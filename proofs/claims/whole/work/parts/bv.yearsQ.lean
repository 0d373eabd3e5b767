/-! YEARS: the reference's rest of a step -/
def PM (R : Nat → Nat → Int32) : Mm := (fun _ => (0, 0), R, fun _ _ => 0, fun _ _ => none, 0)
theorem mI_PM (R : Nat → Nat → Int32) : mI (PM R) = R := rfl
/-- the cells of the shore that is there, of the steps that are new -/
def cYr (N : Mm) : Nat → Int32 := fun j => if j < 173 then mI N 212 j else mI N 212 (1800 + j)
theorem cYr_k {N : Mm} {k i : Nat} : cYr N (175 + i + 9 * k) = mI N 212 (1975 + i + 9 * k) := by
  unfold cYr
  rw [if_neg (by omega)]
  exact congrArg (mI N 212) (by omega)
def qYr (M N : Mm) : Prop := mK N = mK M ∧ mR N = mR M ∧ mT N = mT M ∧ (∀ y, y ≠ 207 → y ≠ 212 → mI N y = mI M y) ∧ (∀ y, y ≠ 207 → mL N y = mL M y) ∧ (∀ k, k < 1800 → mI N 212 k = mI M 212 k) ∧ (∀ k, ¬ (12 ≤ k ∧ k ≤ 18) → k ≠ 25 → mI N 207 k = mI M 207 k) ∧ ∀ k, k ≠ 19 → mL N 207 k = mL M 207 k
def qYb (M N : Mm) (e : Nat × Nat) : Prop := qYr M N ∧ qBd N e
def qYm (M N : Mm) (k : Nat) : Prop := qYr M N ∧ mI N 207 25 = mI M 207 25 ∧ ∀ j, ¬ (1976 + 9 * k ≤ j ∧ j < 1983 + 9 * k) → mI N 212 j = mI M 212 j
def qYo (M : Mm) (y : Option Mm) (cd : Nat → Nat) (n r k : Nat) (o : Sum (Nat × Nat) (Nat × (Nat → Nat → Int32))) : Prop := match o with
  | .inl e => ∃ N, y = some N ∧ qYb M N e
  | .inr (t, R) => ∃ N, y = some N ∧ qYm M N k ∧ QT N cd n t ∧ stp (PM R) 0 (cYr N) k r
theorem tkK_sg {cd : Nat → Nat} {n s : Nat} (h : tkK cd n s = 4) : cd s = 59 ∨ cd s = 60 ∨ cd s = 62 ∨ cd s = 61 := by
  have h1 : ¬ n ≤ s := by
    have := tkK_s (cd := cd) (n := n) (s := s) (by omega)
    omega
  unfold tkK at h
  rw [if_neg h1] at h
  by_cases q : qL cd s = true
  · rw [if_pos q] at h; omega
  · rw [if_neg q] at h
    by_cases q2 : qD cd s = true
    · rw [if_pos q2] at h
      by_cases q3 : tkE cd n s - s ≤ 4
      · rw [if_pos q3] at h; omega
      · rw [if_neg q3] at h; omega
    · rw [if_neg q2] at h
      by_cases q3 : cd s = 59 ∨ cd s = 60 ∨ cd s = 62 ∨ cd s = 61
      · exact q3
      · rw [if_neg q3] at h; omega
section Q
variable {M N N' : Mm} {cd : Nat → Nat} {n s r k hc gc wc kd : Nat} {nm : Nat → List Nat} {R : Nat → Nat → Int32} {e : Nat × Nat}
theorem qYr.rf : qYr M M := ⟨rfl, rfl, rfl, fun _ _ _ => rfl, fun _ _ => rfl, fun _ _ => rfl, fun _ _ _ => rfl, fun _ _ => rfl⟩
theorem qYr.tr (h : qYr M N) (h2 : qYr N N') : qYr M N' := ⟨h2.1.trans h.1, h2.2.1.trans h.2.1, h2.2.2.1.trans h.2.2.1, fun y a b => (h2.2.2.2.1 y a b).trans (h.2.2.2.1 y a b), fun y a => (h2.2.2.2.2.1 y a).trans (h.2.2.2.2.1 y a), fun k hk => (h2.2.2.2.2.2.1 k hk).trans (h.2.2.2.2.2.1 k hk), fun k a b => (h2.2.2.2.2.2.2.1 k a b).trans (h.2.2.2.2.2.2.1 k a b), fun k hk => (h2.2.2.2.2.2.2.2 k hk).trans (h.2.2.2.2.2.2.2 k hk)⟩
theorem FTn.y (h : FTn M N) : qYr M N := ⟨h.1, h.2.1, h.2.2.1, fun y a _ => (h.2.2.2.1 y a).1, fun y a => (h.2.2.2.1 y a).2, fun k _ => by rw [(h.2.2.2.1 212 (by decide)).1], fun k a _ => h.2.2.2.2.1 k a, h.2.2.2.2.2⟩
theorem qYr.pI (h : qYr M N) {j : Nat} (hj : 1800 ≤ j) (v : Int32) : qYr M (sI N 212 j v) := ⟨h.1, h.2.1, h.2.2.1, fun y a b => by rw [mI_o b]; exact h.2.2.2.1 y a b, h.2.2.2.2.1, fun k hk => by rw [mI_f (by omega)]; exact h.2.2.2.2.2.1 k hk, fun k a b => by rw [mI_o (by decide)]; exact h.2.2.2.2.2.2.1 k a b, h.2.2.2.2.2.2.2⟩
theorem qYr.p25 (h : qYr M N) (v : Int32) : qYr M (sI N 207 25 v) := ⟨h.1, h.2.1, h.2.2.1, fun y a b => by rw [mI_o a]; exact h.2.2.2.1 y a b, h.2.2.2.2.1, fun k hk => by rw [mI_o (by decide)]; exact h.2.2.2.2.2.1 k hk, fun k a b => by rw [mI_f b]; exact h.2.2.2.2.2.2.1 k a b, h.2.2.2.2.2.2.2⟩
theorem qYb.pI (h : qYb M N e) {j : Nat} (hj : 1800 ≤ j) (v : Int32) : qYb M (sI N 212 j v) e := ⟨h.1.pI hj v, h.2.1, h.2.2.1, h.2.2.2.1, by rw [mI_o (by decide)]; exact h.2.2.2.2.1, by rw [mI_o (by decide)]; exact h.2.2.2.2.2⟩
theorem qYm.rf : qYm M M k := ⟨qYr.rf, rfl, fun _ _ => rfl⟩
theorem qYm.fn (h : qYm M N k) (F : FTn N N') : qYm M N' k := ⟨h.1.tr F.y, (F.2.2.2.2.1 25 (by omega)).trans h.2.1, fun j hj => by rw [(F.2.2.2.1 212 (by decide)).1]; exact h.2.2 j hj⟩
theorem qYm.pI (h : qYm M N k) {j : Nat} (hj : 1976 + 9 * k ≤ j ∧ j < 1983 + 9 * k) (v : Int32) : qYm M (sI N 212 j v) k := ⟨h.1.pI (by omega) v, by rw [mI_o (by decide)]; exact h.2.1, fun i hi => by rw [mI_f (by omega)]; exact h.2.2 i hi⟩
theorem qYm.bd (h : qYm M N k) (F : FTn N N') (B : qBd N' e) : qYb M N' e := ⟨h.1.tr F.y, B⟩
theorem qNB_0 (B : qNB M 0 nm hc gc wc) (h : qYr M N) : qNB N 0 nm hc gc wc := by
  unfold qNB at *
  rw [h.2.2.2.2.2.1 (450 * 0) (by omega), h.2.2.2.2.2.1 (450 * 0 + 1) (by omega), h.2.2.2.2.2.1 (450 * 0 + 2) (by omega), h.2.2.2.2.1 214 (by decide)]
  exact B
theorem cYr_h (B : qNB N 0 nm hc gc wc) : hN (cYr N) = hc ∧ gN (cYr N) = gc := by
  obtain ⟨-, ⟨h0, h8⟩, ⟨h1, h4⟩, -⟩ := B
  exact ⟨na_of (n := hc) (k := 0) h0 (by omega), na_of (n := gc) (k := 1) h1 (by omega)⟩
theorem stp_mk (B : qNB N 0 nm hc gc wc) (hkd : kd < 8) (h0 : mI N 212 (1975 + 9 * k) = nI kd) (h1 : R 1 r = kW kd)
    (p0 : kd = 0 → R 2 r = mI N 212 (1976 + 9 * k) ∧ ∃ v, mI N 212 (1976 + 9 * k) = nI v ∧ 1 ≤ v ∧ v ≤ 240)
    (p3 : kd = 3 → R 2 r = mI N 212 (1976 + 9 * k) ∧ R 3 r = mI N 212 (1977 + 9 * k) ∧ (∃ h, h < hc ∧ mI N 212 (1976 + 9 * k) = nI h) ∧ ∃ g, g < gc ∧ mI N 212 (1977 + 9 * k) = nI g)
    (p4 : kd = 4 → R 3 r = mI N 212 (1976 + 9 * k) ∧ ∃ g, g < gc ∧ mI N 212 (1976 + 9 * k) = nI g)
    (p6 : kd = 6 → R 2 r = mI N 212 (1976 + 9 * k) ∧ ∃ v, mI N 212 (1976 + 9 * k) = nI v ∧ 1 ≤ v ∧ v ≤ 99)
    (p5 : kd = 5 → (mI N 212 (1981 + 9 * k) = 0 ∧ R 3 r = 25 ∧ R 2 r = mI N 212 (1976 + 9 * k) ∧ ∃ h, h < hc ∧ mI N 212 (1976 + 9 * k) = nI h) ∨ (mI N 212 (1981 + 9 * k) = 1 ∧ R 3 r = 26 ∧ R 2 r = mI N 212 (1976 + 9 * k) ∧ ∃ h, h < hc ∧ mI N 212 (1976 + 9 * k) = nI h) ∨ (mI N 212 (1981 + 9 * k) = 2 ∧ R 3 r = 2 ∧ R 4 r = mI N 212 (1982 + 9 * k) ∧ R 2 r = mI N 212 (1977 + 9 * k) ∧ ∃ v, mI N 212 (1977 + 9 * k) = nI v ∧ v ≤ 9999)) : stp (PM R) 0 (cYr N) k r := by
  obtain ⟨eh, eg⟩ := cYr_h B
  have c0 : cYr N (175 + 9 * k) = mI N 212 (1975 + 9 * k) := cYr_k (i := 0)
  have c1 : cYr N (176 + 9 * k) = mI N 212 (1976 + 9 * k) := cYr_k (i := 1)
  have c2 : cYr N (177 + 9 * k) = mI N 212 (1977 + 9 * k) := cYr_k (i := 2)
  have c6 : cYr N (181 + 9 * k) = mI N 212 (1981 + 9 * k) := cYr_k (i := 6)
  have c7 : cYr N (182 + 9 * k) = mI N 212 (1982 + 9 * k) := cYr_k (i := 7)
  refine ⟨kd, hkd, c0.trans h0, h1, fun y => ?_, fun y => ?_, fun y => ?_, fun y => ?_, fun y => ?_⟩
  · obtain ⟨a1, v, a2, a3, a4⟩ := p0 y
    exact ⟨a1.trans c1.symm, bdd_of (c1.trans a2) a3 a4 (by omega)⟩
  · obtain ⟨a1, a2, ⟨h, a3, a4⟩, g, a5, a6⟩ := p3 y
    exact ⟨a1.trans c1.symm, a2.trans c2.symm, ⟨h, by rw [eh]; exact a3, c1.trans a4⟩, g, by rw [eg]; exact a5, c2.trans a6⟩
  · obtain ⟨a1, g, a5, a6⟩ := p4 y
    exact ⟨a1.trans c1.symm, g, by rw [eg]; exact a5, c1.trans a6⟩
  · obtain ⟨a1, v, a2, a3, a4⟩ := p6 y
    exact ⟨a1.trans c1.symm, bdd_of (c1.trans a2) a3 a4 (by omega)⟩
  · rcases p5 y with ⟨a1, a2, a3, h, a4, a5⟩ | ⟨a1, a2, a3, h, a4, a5⟩ | ⟨a1, a2, a3, a4, v, a5, a6⟩
    · exact Or.inl ⟨c6.trans a1, a2, a3.trans c1.symm, h, by rw [eh]; exact a4, c1.trans a5⟩
    · exact Or.inr (Or.inl ⟨c6.trans a1, a2, a3.trans c1.symm, h, by rw [eh]; exact a4, c1.trans a5⟩)
    · exact Or.inr (Or.inr ⟨c6.trans a1, a2, a3.trans c7.symm, a4.trans c2.symm, bdd_of (c2.trans a5) (by omega) a6 (by omega)⟩)
theorem q_yCnt (C : QT M cd n s) (B : qNB M 0 nm hc gc wc) (hk : k < 30) (h0 : mI M 212 (1975 + 9 * k) = nI kd) (h1 : R 1 r = kW kd) {hi : Nat} (hkd : (kd = 0 ∧ hi = 240) ∨ (kd = 6 ∧ hi = 99)) : qYo M (bd (f_X12_count M (some 207) (nI 1) (nI hi)) fun v23 M23 => asI M23 (some 212) 21 (nI (1975 + 9 * k) + 1) v23 fun M26 => some M26) cd n r k (yCnt cd n hi s r R) := by
  have g := q_count C 1 hi (by omega) (by omega)
  unfold yCnt
  rcases hr : tN cd n 1 hi s with e | ⟨v, t⟩
  · rw [hr] at g
    obtain ⟨N, g1, g2, g3⟩ := g
    rw [g1, bd_s, nI_1, m_as g3.1 (by omega), Sp_l]
    exact ⟨_, rfl, ((qYm.rf (k := k)).bd g2 g3).pI (by omega) _⟩
  · rw [hr] at g
    obtain ⟨N, g1, g2, g3⟩ := g
    have b := tN_b hr
    have m := (qYm.rf (k := k)).fn g2
    have m1 := m.pI (j := 1975 + 9 * k + 1) (by omega) (nI v)
    have e1 : mI (sI N 212 (1975 + 9 * k + 1) (nI v)) 212 (1976 + 9 * k) = nI v := by
      rw [show 1976 + 9 * k = 1975 + 9 * k + 1 by omega, mI_sI_s]
    rw [g1, bd_s, nI_1, m_as g3.1.1 (by omega), Sp_r]
    refine ⟨_, rfl, m1, g3.o (by decide) (by decide) _ _, stp_mk (kd := kd) (qNB_0 B m1.1) (by omega) ((m1.2.2 _ (by omega)).trans h0) ?_ (fun y => ⟨?_, v, e1, b.1, by omega⟩) (fun y => by omega) (fun y => by omega) (fun y => ⟨?_, v, e1, b.1, by omega⟩) (fun y => by omega)⟩
    · rw [u2_o (by omega)]
      exact h1
    · rw [u2_s, e1]
    · rw [u2_s, e1]
theorem q_yGang (C : QT M cd n s) (B : qNB M 0 nm hc gc wc) (hk : k < 30) (h0 : mI M 212 (1975 + 9 * k) = nI 4) (h1 : R 1 r = kW 4) : qYo M (bd (f_X12_readTold M (some 207) (nI 0) (nI 1)) fun v89 M89 => asI M89 (some 212) 21 (nI (1975 + 9 * k) + 1) v89 fun M92 => some M92) cd n r k (yGang cd n nm gc s r R) := by
  have g := q_readTold C B 1 (by omega)
  rw [if_neg (show ¬ (1 : Nat) = 0 by omega)] at g
  unfold yGang
  rcases hr : tNm cd n nm 8 gc s with e | ⟨v, t⟩
  · rw [hr] at g
    obtain ⟨N, v, g1, g2, g3⟩ := g
    rw [g1, bd_s, nI_1, m_as g3.1 (by omega), Sp_l]
    exact ⟨_, rfl, ((qYm.rf (k := k)).bd g2 g3).pI (by omega) _⟩
  · rw [hr] at g
    obtain ⟨N, g1, g2, g3⟩ := g
    have b := (tNm_lt hr).1
    have m := (qYm.rf (k := k)).fn g2
    have m1 := m.pI (j := 1975 + 9 * k + 1) (by omega) (nI v)
    have e1 : mI (sI N 212 (1975 + 9 * k + 1) (nI v)) 212 (1976 + 9 * k) = nI v := by
      rw [show 1976 + 9 * k = 1975 + 9 * k + 1 by omega, mI_sI_s]
    rw [g1, bd_s, nI_1, m_as g3.1.1 (by omega), Sp_r]
    refine ⟨_, rfl, m1, g3.o (by decide) (by decide) _ _, stp_mk (kd := 4) (qNB_0 B m1.1) (by omega) ((m1.2.2 _ (by omega)).trans h0) ?_ (fun y => by omega) (fun y => by omega) (fun y => ⟨?_, v, b, e1⟩) (fun y => by omega) (fun y => by omega)⟩
    · rw [u2_o (by omega)]
      exact h1
    · rw [u2_s, e1]
theorem q_yLift (C : QT M cd n s) (B : qNB M 0 nm hc gc wc) (hk : k < 30) (h0 : mI M 212 (1975 + 9 * k) = nI 3) (h1 : R 1 r = kW 3) : qYo M (bd (f_X12_readTold M (some 207) (nI 0) (nI 0)) fun v45 M45 => asI M45 (some 212) 21 (nI (1975 + 9 * k) + 1) v45 fun M48 => ck M48 (some 207) 12 <| bd (f_X12_isWith M48 (some 207)) fun v51 M51 => ck M51 (some 207) 12 <| bv (f_X12_must M51 (some 207) v51) fun M54 => gfR M54 (some 207) 12 20 fun v58 => ck M54 (some 207) 12 <| bd (f_X12_readTold M54 (some 207) (nI 0) (nI 1)) fun v67 M67 => asI M67 v58 21 (nI (1975 + 9 * k) + nI 2) v67 fun M70 => some M70) cd n r k (yLift cd n nm hc gc s r R) := by
  have g := q_readTold C B 0 (by omega)
  rw [if_pos rfl] at g
  have bad : ∀ {e P}, qYb M P e → (bd (f_X12_readTold P (some 207) (nI 0) (nI 1)) fun v67 M67 => asI M67 (some 212) 21 (nI (1975 + 9 * k) + nI 2) v67 fun M70 => some M70) = some (sI P 212 (1975 + 9 * k + 2) 0) := fun {e P} b => by
    rw [qb_readTold b.2, bd_s, nI_add, m_as b.2.1 (by omega)]
  unfold yLift
  rcases hr : tNm cd n nm 0 hc s with e | ⟨v, t⟩
  · rw [hr] at g
    obtain ⟨N, v, g1, g2, g3⟩ := g
    have b1 := ((qYm.rf (k := k)).bd g2 g3).pI (j := 1975 + 9 * k + 1) (by omega) v
    obtain ⟨w, w1⟩ := qt_isWith b1.2.1
    rw [g1, bd_s, nI_1, m_as g3.1 (by omega), Sp_l, m_ck b1.2.1, w1, bd_s, m_ck b1.2.1, qb_must b1.2, bv_s, m_r20 b1.2.1, m_ck b1.2.1, bad b1]
    exact ⟨_, rfl, b1.pI (by omega) _⟩
  · rw [hr] at g
    obtain ⟨N, g1, g2, g3⟩ := g
    have b := (tNm_lt hr).1
    have m1 := ((qYm.rf (k := k)).fn g2).pI (j := 1975 + 9 * k + 1) (by omega) (nI v)
    have e1 : mI (sI N 212 (1975 + 9 * k + 1) (nI v)) 212 (1975 + 9 * k + 1) = nI v := mI_sI_s _ _ _ _
    have C1 : QT (sI N 212 (1975 + 9 * k + 1) (nI v)) cd n t := g3.o (by decide) (by decide) _ _
    rw [g1, bd_s, nI_1, m_as g3.1.1 (by omega), Sp_r]
    generalize sI N 212 (1975 + 9 * k + 1) (nI v) = N1 at *
    have g := q_mustW C1 23
    rw [m_ck C1.1.1, q_isWWith C1.1 C1.2.1, bd_s, m_ck C1.1.1]
    rcases hr2 : tW cd n 23 t with e | t2
    · rw [hr2] at g
      obtain ⟨N2, x1, x2, x3⟩ := g
      have b2 := m1.bd x2 x3
      rw [x1, bv_s, m_r20 x3.1, m_ck x3.1, bad b2, Sb_l]
      exact ⟨_, rfl, b2.pI (by omega) _⟩
    · rw [hr2] at g
      obtain ⟨N2, x1, x2, C2⟩ := g
      have m2 := m1.fn x2
      have e2 : mI N2 212 (1975 + 9 * k + 1) = nI v := by rw [(x2.2.2.2.1 212 (by decide)).1]; exact e1
      have g := q_readTold C2 (qNB_0 B m2.1) 1 (by omega)
      rw [if_neg (show ¬ (1 : Nat) = 0 by omega)] at g
      rw [x1, bv_s, m_r20 C2.1.1, m_ck C2.1.1, Sb_r]
      rcases hr3 : tNm cd n nm 8 gc t2 with e | ⟨v2, t3⟩
      · rw [hr3] at g
        obtain ⟨N3, w, g1, g2, g3⟩ := g
        rw [g1, bd_s, nI_add, m_as g3.1 (by omega), Sp_l]
        exact ⟨_, rfl, (m2.bd g2 g3).pI (by omega) _⟩
      · rw [hr3] at g
        obtain ⟨N3, g1, g2, g3⟩ := g
        have b3 := (tNm_lt hr3).1
        have m3 := (m2.fn g2).pI (j := 1975 + 9 * k + 2) (by omega) (nI v2)
        have y1 : mI (sI N3 212 (1975 + 9 * k + 2) (nI v2)) 212 (1976 + 9 * k) = nI v := by
          rw [mI_f (by omega), (g2.2.2.2.1 212 (by decide)).1, show 1976 + 9 * k = 1975 + 9 * k + 1 by omega]
          exact e2
        have y2 : mI (sI N3 212 (1975 + 9 * k + 2) (nI v2)) 212 (1977 + 9 * k) = nI v2 := by
          rw [show 1977 + 9 * k = 1975 + 9 * k + 2 by omega, mI_sI_s]
        rw [g1, bd_s, nI_add, m_as g3.1.1 (by omega), Sp_r]
        refine ⟨_, rfl, m3, g3.o (by decide) (by decide) _ _, stp_mk (kd := 3) (qNB_0 B m3.1) (by omega) ((m3.2.2 _ (by omega)).trans h0) ?_ (fun y => by omega) (fun y => ⟨?_, ?_, ⟨v, b, y1⟩, v2, b3, y2⟩) (fun y => by omega) (fun y => by omega) (fun y => by omega)⟩
        · rw [u2_o (by omega), u2_o (by omega)]
          exact h1
        · rw [u2_o (by omega), u2_s, y1]
        · rw [u2_s, y2]
theorem qb_test47 (b : qBd N e) (w l2 : Int32) : f_X12_readTest_47 N (some 207) w l2 = some N := by
  unfold f_X12_readTest_47
  rw [m_gI b.1, b.2.2.2.1, if_pos (by
    have h1 := b.2.1
    have h2 := b.2.2.1
    rw [show (0 : Int32) = nI 0 from rfl, nI_ltI' (by omega) (by omega)]
    omega)]
theorem q_yT84 (C : QT N cd n s) (m : qYm M N k) (B : qNB M 0 nm hc gc wc) (hk : k < 30) (h0 : mI M 212 (1975 + 9 * k) = nI 5) (h1 : R 1 r = kW 5) (h3 : R 3 r = 2) (h6 : mI N 212 (1981 + 9 * k) = 2) : qYo M (f_X12_readTest_47 N (some 207) (nI (1975 + 9 * k)) 2) cd n r k (if tkK cd n s = 4 ∧ ¬ cd s = 59 then Sp (tN cd n 0 9999 (nx cd n s)) (fun v t => .inr (t, u2 (u2 R 4 r (nI (cd s))) 2 r (nI v))) else .inl (fK cd n s 2)) := by
  have k4 := tkK_4 cd n s
  have D := C.1.1
  unfold f_X12_readTest_47
  rw [m_gI D, C.2.2, if_neg (by decide), if_pos (by decide), m_r20 D, m_gI D, C.2.1.2.2.2.1]
  have f118 : ∀ {N1 : Mm} {y : Int32}, QT N1 cd n s → qYm M N1 k → mI N1 212 (1981 + 9 * k) = 2 → mI N1 212 (1982 + 9 * k) = y → (tkK cd n s = 4 → y = nI (cd s)) → ∀ x : Int32, (x = if tkK cd n s = 4 ∧ ¬ cd s = 59 then 1 else 0) → qYo M (f_X12_readTest_118 N1 (some 207) (nI (1975 + 9 * k)) (some 207) x) cd n r k (if tkK cd n s = 4 ∧ ¬ cd s = 59 then Sp (tN cd n 0 9999 (nx cd n s)) (fun v t => .inr (t, u2 (u2 R 4 r (nI (cd s))) 2 r (nI v))) else .inl (fK cd n s 2)) := fun {N1 y} C1 m1 z6 z7 hy x hx => by
    unfold f_X12_readTest_118
    by_cases q : tkK cd n s = 4 ∧ ¬ cd s = 59
    · rw [if_pos q] at hx
      obtain ⟨N2, x1, x2, C2⟩ := q_must1 C1 (b := x) (by rw [hx]; decide)
      have m2 := m1.fn x2
      have g := q_count C2 0 9999 (by omega) (by omega)
      rw [m_ck C1.1.1, x1, bv_s, m_r20 C2.1.1, m_ck C2.1.1, if_pos q]
      rcases hr : tN cd n 0 9999 (nx cd n s) with e | ⟨v, t⟩
      · rw [hr] at g
        obtain ⟨N3, g1, g2, g3⟩ := g
        rw [show f_X12_count N2 (some 207) 0 9999 = some (0, N3) from g1, bd_s, show (2 : Int32) = nI 2 from rfl, nI_add, m_as g3.1 (by omega), Sp_l]
        exact ⟨_, rfl, (m2.bd g2 g3).pI (by omega) _⟩
      · rw [hr] at g
        obtain ⟨N3, g1, g2, g3⟩ := g
        have b := tN_b hr
        have m3 := (m2.fn g2).pI (j := 1975 + 9 * k + 2) (by omega) (nI v)
        have old : ∀ j, j ≠ 1975 + 9 * k + 2 → mI (sI N3 212 (1975 + 9 * k + 2) (nI v)) 212 j = mI N1 212 j := fun j hj => by rw [mI_f hj, (g2.2.2.2.1 212 (by decide)).1, (x2.2.2.2.1 212 (by decide)).1]
        have y2 : mI (sI N3 212 (1975 + 9 * k + 2) (nI v)) 212 (1977 + 9 * k) = nI v := by
          rw [show 1977 + 9 * k = 1975 + 9 * k + 2 by omega, mI_sI_s]
        rw [show f_X12_count N2 (some 207) 0 9999 = some (nI v, N3) from g1, bd_s, show (2 : Int32) = nI 2 from rfl, nI_add, m_as g3.1.1 (by omega), Sp_r]
        refine ⟨_, rfl, m3, g3.o (by decide) (by decide) _ _, stp_mk (kd := 5) (qNB_0 B m3.1) (by omega) ((m3.2.2 _ (by omega)).trans h0) ?_ (fun y => by omega) (fun y => by omega) (fun y => by omega) (fun y => by omega) (fun y => Or.inr (Or.inr ⟨?_, ?_, ?_, ?_, v, y2, b.2⟩))⟩
        · rw [u2_o (by omega), u2_o (by omega)]
          exact h1
        · rw [old _ (by omega)]
          exact z6
        · rw [u2_o (by omega), u2_o (by omega)]
          exact h3
        · rw [u2_o (by omega), u2_s, old _ (by omega), z7, hy q.1]
        · rw [u2_s, y2]
    · rw [if_neg q] at hx
      obtain ⟨N2, x1, x2, x3⟩ := q_must0 C1
      have b2 := m1.bd x2 x3
      rw [m_ck C1.1.1, hx, x1, bv_s, m_r20 x3.1, m_ck x3.1, qb_count x3, bd_s, if_neg q, show (2 : Int32) = nI 2 from rfl, nI_add, m_as x3.1 (by omega)]
      exact ⟨_, rfl, b2.pI (by omega) _⟩
  have f84 : ∀ {y : Int32}, (tkK cd n s = 4 → y = nI (cd s)) → qYo M (f_X12_readTest_84 N (some 207) (nI (1975 + 9 * k)) (some 212) (nI (1975 + 9 * k) + 7) y) cd n r k (if tkK cd n s = 4 ∧ ¬ cd s = 59 then Sp (tN cd n 0 9999 (nx cd n s)) (fun v t => .inr (t, u2 (u2 R 4 r (nI (cd s))) 2 r (nI v))) else .inl (fK cd n s 2)) := fun {y} hy => by
    have m1 := m.pI (j := 1975 + 9 * k + 7) (by omega) y
    have C1 : QT (sI N 212 (1975 + 9 * k + 7) y) cd n s := C.o (by decide) (by decide) _ _
    have z6 : mI (sI N 212 (1975 + 9 * k + 7) y) 212 (1981 + 9 * k) = 2 := by rw [mI_f (by omega)]; exact h6
    have z7 : mI (sI N 212 (1975 + 9 * k + 7) y) 212 (1982 + 9 * k) = y := by rw [show 1982 + 9 * k = 1975 + 9 * k + 7 by omega, mI_sI_s]
    have f := fun x => f118 (N1 := sI N 212 (1975 + 9 * k + 7) y) (y := y) C1 m1 z6 z7 hy x
    unfold f_X12_readTest_84
    rw [show (7 : Int32) = nI 7 from rfl, nI_add, m_as D (by omega)]
    generalize sI N 212 (1975 + 9 * k + 7) y = N1 at *
    have D1 := C1.1.1
    rw [m_ck D1, show f_X12_isSign N1 (some 207) 60 = _ from q_isSign C1 60 (by omega), bd_s]
    unfold f_X12_readTest_113
    by_cases q : tkK cd n s = 4
    · have sg := tkK_sg q
      by_cases q60 : cd s = 60
      · rw [if_pos (show tkK cd n s = 4 ∧ cd s = 60 from ⟨q, q60⟩), if_neg (by decide)]
        exact f 1 (by rw [if_pos ⟨q, by omega⟩])
      rw [if_neg (show ¬ (tkK cd n s = 4 ∧ cd s = 60) from fun z => q60 z.2), if_pos rfl, m_ck D1, show f_X12_isSign N1 (some 207) 62 = _ from q_isSign C1 62 (by omega), bd_s]
      by_cases q62 : cd s = 62
      · rw [if_pos (show tkK cd n s = 4 ∧ cd s = 62 from ⟨q, q62⟩), if_neg (by decide)]
        exact f 1 (by rw [if_pos ⟨q, by omega⟩])
      rw [if_neg (show ¬ (tkK cd n s = 4 ∧ cd s = 62) from fun z => q62 z.2), if_pos rfl, m_ck D1, show f_X12_isSign N1 (some 207) 61 = _ from q_isSign C1 61 (by omega), bd_s]
      by_cases q61 : cd s = 61
      · rw [if_pos (show tkK cd n s = 4 ∧ cd s = 61 from ⟨q, q61⟩), if_neg (by decide)]
        exact f 1 (by rw [if_pos ⟨q, by omega⟩])
      rw [if_neg (show ¬ (tkK cd n s = 4 ∧ cd s = 61) from fun z => q61 z.2), if_pos rfl]
      exact f 0 (by rw [if_neg (fun z => by have := z.2; omega)])
    · rw [if_neg (show ¬ (tkK cd n s = 4 ∧ cd s = 60) from fun z => q z.1), if_pos rfl, m_ck D1, show f_X12_isSign N1 (some 207) 62 = _ from q_isSign C1 62 (by omega), bd_s, if_neg (show ¬ (tkK cd n s = 4 ∧ cd s = 62) from fun z => q z.1), if_pos rfl, m_ck D1, show f_X12_isSign N1 (some 207) 61 = _ from q_isSign C1 61 (by omega), bd_s, if_neg (show ¬ (tkK cd n s = 4 ∧ cd s = 61) from fun z => q z.1), if_pos rfl]
      exact f 0 (by rw [if_neg (fun z => q z.1)])
  by_cases q : tkK cd n s = 4
  · rw [if_pos ((mkK_1 k4).2.2.1.mpr q), m_gI D, C.2.1.2.2.2.2.2.2 q]
    exact f84 (fun _ => rfl)
  · rw [if_neg (fun z => q ((mkK_1 k4).2.2.1.mp z))]
    exact f84 (fun z => absurd z q)
theorem q_yTest (C : QT M cd n s) (B : qNB M 0 nm hc gc wc) (hk : k < 30) (h0 : mI M 212 (1975 + 9 * k) = nI 5) (h1 : R 1 r = kW 5) : qYo M (f_X12_readTest M (some 207) (nI (1975 + 9 * k))) cd n r k (yTest cd n nm hc s r R) := by
  have D := C.1.1
  unfold f_X12_readTest yTest
  rw [m_ck D, q_testWord C.1 C.2.1, bd_s]
  have named : ∀ x : Nat, (x = 0 ∧ tkW cd n s = nI 25) ∨ (x = 1 ∧ tkW cd n s = nI 26) → qYo M (f_X12_readTest_15 M (some 207) (nI (1975 + 9 * k)) (nI x) (some 207) 1) cd n r k (Sp (tNm cd n nm 0 hc (nx cd n s)) (fun v t => .inr (t, u2 (u2 R 3 r (tkW cd n s)) 2 r (nI v)))) := fun x hx => by
    obtain ⟨N1, x1, x2, C1⟩ := q_must1 C (b := 1) (by decide)
    have m1 := ((qYm.rf (k := k)).fn x2).pI (j := 1975 + 9 * k + 6) (by omega) (nI x)
    have C2 : QT (sI N1 212 (1975 + 9 * k + 6) (nI x)) cd n (nx cd n s) := C1.o (by decide) (by decide) _ _
    have z6 : mI (sI N1 212 (1975 + 9 * k + 6) (nI x)) 212 (1981 + 9 * k) = nI x := by rw [show 1981 + 9 * k = 1975 + 9 * k + 6 by omega, mI_sI_s]
    have nx2 : ¬ (2 : Int32) ≤ nI x := by
      rw [show (2 : Int32) = nI 2 from rfl, nI_leI' (by omega) (by omega)]
      omega
    unfold f_X12_readTest_15
    rw [m_ck D, x1, bv_s, m_r20 C1.1.1, show (6 : Int32) = nI 6 from rfl, nI_add, m_as C1.1.1 (by omega), if_neg nx2]
    generalize sI N1 212 (1975 + 9 * k + 6) (nI x) = N2 at *
    have g := q_readTold C2 (qNB_0 B m1.1) 0 (by omega)
    rw [if_pos rfl] at g
    rw [m_r20 C2.1.1, m_ck C2.1.1]
    rcases hr : tNm cd n nm 0 hc (nx cd n s) with e | ⟨v, t⟩
    · rw [hr] at g
      obtain ⟨N3, w, g1, g2, g3⟩ := g
      have b3 := (m1.bd g2 g3).pI (j := 1975 + 9 * k + 1) (by omega) w
      rw [show f_X12_readTold N2 (some 207) 0 0 = some (w, N3) from g1, bd_s, nI_1, m_as g3.1 (by omega), qb_test47 b3.2, Sp_l]
      exact ⟨_, rfl, b3⟩
    · rw [hr] at g
      obtain ⟨N3, g1, g2, g3⟩ := g
      have b := (tNm_lt hr).1
      have m3 := (m1.fn g2).pI (j := 1975 + 9 * k + 1) (by omega) (nI v)
      have C3 : QT (sI N3 212 (1975 + 9 * k + 1) (nI v)) cd n t := g3.o (by decide) (by decide) _ _
      have y1 : mI (sI N3 212 (1975 + 9 * k + 1) (nI v)) 212 (1976 + 9 * k) = nI v := by
        rw [show 1976 + 9 * k = 1975 + 9 * k + 1 by omega, mI_sI_s]
      have y6 : mI (sI N3 212 (1975 + 9 * k + 1) (nI v)) 212 (1981 + 9 * k) = nI x := by
        rw [mI_f (by omega), (g2.2.2.2.1 212 (by decide)).1]
        exact z6
      have e47 : f_X12_readTest_47 (sI N3 212 (1975 + 9 * k + 1) (nI v)) (some 207) (nI (1975 + 9 * k)) (nI x) = some (sI N3 212 (1975 + 9 * k + 1) (nI v)) := by
        unfold f_X12_readTest_47
        rw [m_gI C3.1.1, C3.2.2, if_neg (by decide), if_neg nx2]
      have r3 : u2 (u2 R 3 r (tkW cd n s)) 2 r (nI v) 3 r = tkW cd n s := by rw [u2_o (by omega), u2_s]
      have r2 : u2 (u2 R 3 r (tkW cd n s)) 2 r (nI v) 2 r = nI v := by rw [u2_s]
      rw [show f_X12_readTold N2 (some 207) 0 0 = some (nI v, N3) from g1, bd_s, nI_1, m_as g3.1.1 (by omega), e47, Sp_r]
      refine ⟨_, rfl, m3, C3, stp_mk (kd := 5) (qNB_0 B m3.1) (by omega) ((m3.2.2 _ (by omega)).trans h0) ?_ (fun y => by omega) (fun y => by omega) (fun y => by omega) (fun y => by omega) (fun y => ?_)⟩
      · rw [u2_o (by omega), u2_o (by omega)]
        exact h1
      · rcases hx with ⟨hx, hw⟩ | ⟨hx, hw⟩
        · exact Or.inl ⟨by rw [y6, hx]; rfl, by rw [r3, hw]; rfl, by rw [r2, y1], v, b, y1⟩
        · exact Or.inr (Or.inl ⟨by rw [y6, hx]; rfl, by rw [r3, hw]; rfl, by rw [r2, y1], v, b, y1⟩)
  by_cases q25 : tkW cd n s = nI 25
  · have e : twV (tkW cd n s) = nI 0 := by rw [q25]; decide
    rw [if_pos (Or.inl q25), e, if_neg (by decide)]
    exact named 0 (Or.inl ⟨rfl, q25⟩)
  by_cases q26 : tkW cd n s = nI 26
  · have e : twV (tkW cd n s) = nI 1 := by rw [q26]; decide
    rw [if_pos (Or.inr q26), e, if_neg (by decide)]
    exact named 1 (Or.inr ⟨rfl, q26⟩)
  rw [if_neg (show ¬ (tkW cd n s = nI 25 ∨ tkW cd n s = nI 26) from fun z => z.elim q25 q26)]
  by_cases q2 : tkW cd n s = nI 2
  · have e : twV (tkW cd n s) = 2 := by rw [q2]; decide
    have et : tW cd n 2 s = .inr (nx cd n s) := if_pos q2
    obtain ⟨N1, x1, x2, C1⟩ := q_must1 C (b := 1) (by decide)
    have m1 := ((qYm.rf (k := k)).fn x2).pI (j := 1975 + 9 * k + 6) (by omega) 2
    have C2 : QT (sI N1 212 (1975 + 9 * k + 6) 2) cd n (nx cd n s) := C1.o (by decide) (by decide) _ _
    have z6 : mI (sI N1 212 (1975 + 9 * k + 6) 2) 212 (1981 + 9 * k) = 2 := by rw [show 1981 + 9 * k = 1975 + 9 * k + 6 by omega, mI_sI_s]
    rw [e, if_neg (by decide), et, Sb_r]
    unfold f_X12_readTest_15
    rw [m_ck D, x1, bv_s, m_r20 C1.1.1, show (6 : Int32) = nI 6 from rfl, nI_add, m_as C1.1.1 (by omega), if_pos (by decide)]
    have g := q_yT84 (R := u2 R 3 r (tkW cd n s)) (r := r) C2 m1 B hk h0 (by rw [u2_o (by omega)]; exact h1) (by rw [u2_s, q2]; rfl) z6
    exact g
  · have e : twV (tkW cd n s) = -1 := by
      unfold twV
      rw [if_neg q25, if_neg q26, if_neg q2]
    have et : tW cd n 2 s = .inl (fK cd n s 2) := if_neg q2
    obtain ⟨N1, x1, x2, x3⟩ := q_must0 C
    have b1 := ((qYm.rf (k := k)).bd x2 x3).pI (j := 1975 + 9 * k + 6) (by omega) (-1)
    have b2 := b1.pI (j := 1975 + 9 * k + 1) (by omega) 0
    rw [e, if_pos (by decide), et, Sb_l]
    unfold f_X12_readTest_15
    rw [m_ck D, x1, bv_s, m_r20 x3.1, show (6 : Int32) = nI 6 from rfl, nI_add, m_as x3.1 (by omega), if_neg (by decide), m_r20 b1.2.1, m_ck b1.2.1, qb_readTold b1.2, bd_s, nI_1, m_as b1.2.1 (by omega), qb_test47 b2.2]
    exact ⟨_, rfl, b2⟩
theorem q_yRest (C : QT M cd n s) (B : qNB M 0 nm hc gc wc) (hk : k < 30) (hkd : kd < 8) (h0 : mI M 212 (1975 + 9 * k) = nI kd) (h1 : R 1 r = kW kd) : qYo M (f_X12_readRest M (some 207) (nI (1975 + 9 * k))) cd n r k (yRest cd n nm hc gc (kW kd) s r R) := by
  have D := C.1.1
  have pass : (kd = 1 ∨ kd = 2 ∨ kd = 7) → stp (PM R) 0 (cYr M) k r := fun h => stp_mk B hkd h0 h1 (fun y => by omega) (fun y => by omega) (fun y => by omega) (fun y => by omega) (fun y => by omega)
  unfold f_X12_readRest
  rw [m_r20 D, m_al D (by omega), h0]
  rcases (show kd = 0 ∨ kd = 1 ∨ kd = 2 ∨ kd = 3 ∨ kd = 4 ∨ kd = 5 ∨ kd = 6 ∨ kd = 7 by omega) with h | h | h | h | h | h | h | h <;> subst h
  · have g := q_yCnt C B hk h0 h1 (hi := 240) (Or.inl ⟨rfl, rfl⟩)
    have e : yRest cd n nm hc gc (kW 0) s r R = yCnt cd n 240 s r R := by
      unfold yRest
      rw [if_pos (show kW 0 = nI 18 from rfl)]
    rw [if_pos (by decide), m_r20 D, m_ck D, e]
    exact g
  · have e : yRest cd n nm hc gc (kW 1) s r R = .inr (s, R) := by
      unfold yRest
      rw [if_neg (by decide), if_neg (by decide), if_neg (by decide), if_neg (by decide), if_neg (by decide)]
    rw [if_neg (by decide), if_neg (by decide), if_neg (by decide), if_neg (by decide), if_neg (by decide), e]
    exact ⟨M, rfl, qYm.rf, C, pass (by omega)⟩
  · have e : yRest cd n nm hc gc (kW 2) s r R = .inr (s, R) := by
      unfold yRest
      rw [if_neg (by decide), if_neg (by decide), if_neg (by decide), if_neg (by decide), if_neg (by decide)]
    rw [if_neg (by decide), if_neg (by decide), if_neg (by decide), if_neg (by decide), if_neg (by decide), e]
    exact ⟨M, rfl, qYm.rf, C, pass (by omega)⟩
  · have g := q_yLift C B hk h0 h1
    have e : yRest cd n nm hc gc (kW 3) s r R = yLift cd n nm hc gc s r R := by
      unfold yRest
      rw [if_neg (by decide), if_neg (by decide), if_pos (show kW 3 = nI 22 from rfl)]
    rw [if_neg (by decide), if_pos (by decide), m_r20 D, m_ck D, e]
    exact g
  · have g := q_yGang C B hk h0 h1
    have e : yRest cd n nm hc gc (kW 4) s r R = yGang cd n nm gc s r R := by
      unfold yRest
      rw [if_neg (by decide), if_pos (show kW 4 = nI 21 from rfl)]
    rw [if_neg (by decide), if_neg (by decide), if_pos (by decide), m_r20 D, m_ck D, e]
    exact g
  · have g := q_yTest C B hk h0 h1
    have e : yRest cd n nm hc gc (kW 5) s r R = yTest cd n nm hc s r R := by
      unfold yRest
      rw [if_neg (by decide), if_neg (by decide), if_neg (by decide), if_pos (show kW 5 = nI 24 from rfl)]
    rw [if_neg (by decide), if_neg (by decide), if_neg (by decide), if_pos (by decide), m_ck D, e]
    rcases hr : yTest cd n nm hc s r R with x | ⟨t, R'⟩
    · rw [hr] at g
      obtain ⟨N, g1, g2⟩ := g
      rw [g1, bv_s]
      exact ⟨N, rfl, g2⟩
    · rw [hr] at g
      obtain ⟨N, g1, g2⟩ := g
      rw [g1, bv_s]
      exact ⟨N, rfl, g2⟩
  · have g := q_yCnt C B hk h0 h1 (hi := 99) (Or.inr ⟨rfl, rfl⟩)
    have e : yRest cd n nm hc gc (kW 6) s r R = yCnt cd n 99 s r R := by
      unfold yRest
      rw [if_neg (by decide), if_neg (by decide), if_neg (by decide), if_neg (by decide), if_pos (show kW 6 = nI 27 from rfl)]
    rw [if_neg (by decide), if_neg (by decide), if_neg (by decide), if_neg (by decide), if_pos (by decide), m_r20 D, m_ck D, e]
    exact g
  · have e : yRest cd n nm hc gc (kW 7) s r R = .inr (s, R) := by
      unfold yRest
      rw [if_neg (by decide), if_neg (by decide), if_neg (by decide), if_neg (by decide), if_neg (by decide)]
    rw [if_neg (by decide), if_neg (by decide), if_neg (by decide), if_neg (by decide), if_neg (by decide), e]
    exact ⟨M, rfl, qYm.rf, C, pass (by omega)⟩
end Q
