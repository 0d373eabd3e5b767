/-! TEXTS: the reference reads a house (whole) -/
section Q
variable {M N : Mm} {cd : Nat → Nat} {n s k : Nat} {nm : Nat → List Nat} {L : List Nat} {e : Nat × Nat} {c : Nat → Int32} {f : Nat → Int32} {x : Nat → Int64}
theorem qh_158 (hk : hN c = k) (k7 : k < 8) (D : dM M c nm) (ok : dOK c) (oL : okN L) {v1 v2 v3 v4 v5 t : Nat} (C : QT N cd n t) (h : mZ M N (sx (sx (sx (sx (mI M 212) (1805 + k) (nI v1)) (1813 + k) (nI v2)) (1821 + k) (nI v3)) (1829 + k) (nI v4)) (sxL (mL M 214) (72 + k) (lN (n32 L)))) : qOut M (f_X12_readHouse_158 N (some 207) (nI k) (some 212) (nI (1837 + k)) (nI v5)) cd n (S3 (Sp (tOp cd n 6 0 9 0 t) fun v6 t6 => .inr (v5, v6, t6)) fun v5 v6 s6 => .inr (s6, hsC c k v1 v2 v3 v4 v5 v6, nmU nm k L)) := by
  have H1 := h.pI (j := 1837 + k) (by omega) (nI v5)
  have C1 := C.o (r := 212) (by decide) (by decide) (1837 + k) (nI v5)
  unfold f_X12_readHouse_158
  rw [m_as C.1.1 (by omega), m_r20 C1.1.1, m_gI C1.1.1, C1.2.2, if_pos rfl, m_ck C1.1.1, q_isWPegs C1.1 C1.2.1, bd_s, show (1845 : Int32) = nI 1845 from rfl, nI_add]
  unfold tOp
  by_cases q6 : tkW cd n t = nI 6
  · have g := q_behind C1 6 0 9 (by omega) (by omega)
    rw [bW_1 q6] at g ⊢
    rw [if_neg (by decide), if_pos q6, m_ck C1.1.1]
    rcases hr : tWN cd n 6 0 9 t with e | ⟨v6, t6⟩
    · rw [hr] at g
      obtain ⟨N', g1, g2, g3⟩ := g
      obtain ⟨N2, z1, z2⟩ := qbh_194 (H1.bd g2 g3) k7 0
      rw [show f_X12_behindWord (sI N 212 (1837 + k) (nI v5)) (some 207) 1 0 9 = some (0, N') from g1, bd_s, z1]
      exact ⟨N2, rfl, z2⟩
    · rw [hr] at g
      obtain ⟨N', g1, g2, g3⟩ := g
      obtain ⟨N2, z1, z2, z3, z4⟩ := qh_end hk k7 D ok oL (v6 := v6) g3 (H1.n g2)
      rw [show f_X12_behindWord (sI N 212 (1837 + k) (nI v5)) (some 207) 1 0 9 = some (nI v6, N') from g1, bd_s, z1]
      exact ⟨N2, rfl, z2, z3, z4⟩
  · obtain ⟨N2, z1, z2, z3, z4⟩ := qh_end hk k7 D ok oL (v6 := 0) C1 H1
    rw [bW_0 q6, if_pos rfl, if_neg q6]
    unfold f_X12_readHouse_193
    rw [show (0 : Int32) = nI 0 from rfl, z1]
    exact ⟨N2, rfl, z2, z3, z4⟩
theorem q_house (C : QT M cd n s) (D : dM M c nm) (ok : dOK c) (hs : tkK cd n s = 2) : qOut M (f_X12_readHouse M (some 207)) cd n (rdH cd n c nm s) := by
  obtain ⟨k, hk⟩ : ∃ k, hN c = k := ⟨_, rfl⟩
  have c0 := ok_h ok.1
  rw [hk] at c0
  have B := D.2
  rw [hk] at B
  have e0 : mI M 212 1800 = nI k := (D.1 0 (by omega)).trans c0.1
  have e6 : fK cd n s 6 = (6, s) := by
    unfold fK
    rw [if_neg (by omega)]
  unfold rdH f_X12_readHouse
  rw [m_r20 C.1.1, show (1800 : Int32) = nI 1800 from rfl, m_al C.1.1 (by omega), e0, hk, e6]
  by_cases k8 : k = 8
  · obtain ⟨N, z1, z2, z3⟩ := q_failS C 6 (by omega) (by omega)
    rw [if_pos (by rw [k8]; rfl), if_pos k8, m_gI C.1.1, m_ck C.1.1, show (6 : Int32) = nI 6 from rfl, z1, bv_s]
    unfold f_X12_readHouse_25
    rw [m_gI z3.1, if_neg (qb_le z3)]
    exact ⟨N, rfl, z2.q, z3⟩
  have k7 : k < 8 := by omega
  rw [if_neg (by rw [show (8 : Int32) = nI 8 from rfl, nI_eq' (by omega) (by omega)]; exact k8), if_neg k8]
  unfold f_X12_readHouse_25
  have g := q_new C B (p := k) (by omega)
  rw [m_gI C.1.1, C.2.2, if_pos (by decide), m_ck C.1.1]
  rcases ht : tNew cd n nm k (gN c) (wN c) (nx cd n s) with e | s1
  · rw [ht] at g
    obtain ⟨N0, z1, z2, z3⟩ := g
    have B0 : qBB M N0 e := ⟨z2.q, z3⟩
    rw [z1, bv_s, Sb_l]
    show ∃ N, _ = some N ∧ qBB M N e
    obtain ⟨y1, zz1⟩ := qt_isAt B0.2.1
    rw [m_r20 B0.2.1, m_ck B0.2.1, zz1, bd_s, m_ck B0.2.1, qb_behind B0.2, bd_s, show (1805 : Int32) = nI 1805 from rfl, nI_add, m_as B0.2.1 (by omega)]
    replace B0 := B0.pI (j := 1805 + k) (by omega) 0
    obtain ⟨y2, zz2⟩ := qt_isWorth B0.2.1
    rw [m_r20 B0.2.1, m_ck B0.2.1, zz2, bd_s, m_ck B0.2.1, qb_behind B0.2, bd_s, show (1813 : Int32) = nI 1813 from rfl, nI_add, m_as B0.2.1 (by omega)]
    replace B0 := B0.pI (j := 1813 + k) (by omega) 0
    obtain ⟨y3, zz3⟩ := qt_isPieces B0.2.1
    rw [m_r20 B0.2.1, m_ck B0.2.1, zz3, bd_s, m_ck B0.2.1, qb_behind B0.2, bd_s, show (1821 : Int32) = nI 1821 from rfl, nI_add, m_as B0.2.1 (by omega)]
    replace B0 := B0.pI (j := 1821 + k) (by omega) 0
    obtain ⟨y4, zz4⟩ := qt_isWeight B0.2.1
    rw [m_r20 B0.2.1, m_ck B0.2.1, zz4, bd_s, m_ck B0.2.1, qb_behind B0.2, bd_s, show (1829 : Int32) = nI 1829 from rfl, nI_add, m_as B0.2.1 (by omega)]
    replace B0 := B0.pI (j := 1829 + k) (by omega) 0
    rw [m_r20 B0.2.1, m_gI B0.2.1, if_neg (qb_eq B0.2)]
    unfold f_X12_readHouse_157
    rw [show (1837 : Int32) = nI 1837 from rfl, nI_add]
    exact qbh_158 B0 k7 4
  rw [ht] at g
  obtain ⟨N2, g1, oL, g2, C2⟩ := g
  have H2 : mZ M N2 (mI M 212) (sxL (mL M 214) (72 + k) (lN (n32 (tkL cd n (nx cd n s))))) := ((mZ.rf M).pL (j := 72 + k) (by omega) (lN (n32 (tkL cd n (nx cd n s))))).n g2
  rw [g1, bv_s, Sb_r]
  have g3 := q_behind C2 1 0 60 (by omega) (by omega)
  rw [m_r20 C2.1.1, m_ck C2.1.1, q_isWAt C2.1 C2.2.1, bd_s, m_ck C2.1.1]
  rcases ht3 : tWN cd n 1 0 60 s1 with e | ⟨v1, s2⟩
  · rw [ht3] at g3
    obtain ⟨N0, z1, z2, z3⟩ := g3
    have B0 := H2.bd z2 z3
    rw [show f_X12_behindWord N2 (some 207) (bW (tkW cd n s1) 1) 0 60 = some (0, N0) from z1, bd_s, Sp_l, show (1805 : Int32) = nI 1805 from rfl, nI_add, m_as B0.2.1 (by omega)]
    replace B0 := B0.pI (j := 1805 + k) (by omega) 0
    show ∃ N, _ = some N ∧ qBB M N e
    obtain ⟨y2, zz2⟩ := qt_isWorth B0.2.1
    rw [m_r20 B0.2.1, m_ck B0.2.1, zz2, bd_s, m_ck B0.2.1, qb_behind B0.2, bd_s, show (1813 : Int32) = nI 1813 from rfl, nI_add, m_as B0.2.1 (by omega)]
    replace B0 := B0.pI (j := 1813 + k) (by omega) 0
    obtain ⟨y3, zz3⟩ := qt_isPieces B0.2.1
    rw [m_r20 B0.2.1, m_ck B0.2.1, zz3, bd_s, m_ck B0.2.1, qb_behind B0.2, bd_s, show (1821 : Int32) = nI 1821 from rfl, nI_add, m_as B0.2.1 (by omega)]
    replace B0 := B0.pI (j := 1821 + k) (by omega) 0
    obtain ⟨y4, zz4⟩ := qt_isWeight B0.2.1
    rw [m_r20 B0.2.1, m_ck B0.2.1, zz4, bd_s, m_ck B0.2.1, qb_behind B0.2, bd_s, show (1829 : Int32) = nI 1829 from rfl, nI_add, m_as B0.2.1 (by omega)]
    replace B0 := B0.pI (j := 1829 + k) (by omega) 0
    rw [m_r20 B0.2.1, m_gI B0.2.1, if_neg (qb_eq B0.2)]
    unfold f_X12_readHouse_157
    rw [show (1837 : Int32) = nI 1837 from rfl, nI_add]
    exact qbh_158 B0 k7 4
  rw [ht3] at g3
  obtain ⟨N3, g1, g2, C3⟩ := g3
  have H3 := (H2.n g2).pI (j := 1805 + k) (by omega) (nI v1)
  have C3' := C3.o (r := 212) (by decide) (by decide) (1805 + k) (nI v1)
  rw [show f_X12_behindWord N2 (some 207) (bW (tkW cd n s1) 1) 0 60 = some (nI v1, N3) from g1, bd_s, Sp_r, show (1805 : Int32) = nI 1805 from rfl, nI_add, m_as C3.1.1 (by omega)]
  have g4 := q_behind C3' 2 0 999 (by omega) (by omega)
  rw [m_r20 C3'.1.1, m_ck C3'.1.1, q_isWWorth C3'.1 C3'.2.1, bd_s, m_ck C3'.1.1]
  rcases ht4 : tWN cd n 2 0 999 s2 with e | ⟨v2, s3⟩
  · rw [ht4] at g4
    obtain ⟨N0, z1, z2, z3⟩ := g4
    have B0 := H3.bd z2 z3
    rw [show f_X12_behindWord (sI N3 212 (1805 + k) (nI v1)) (some 207) (bW (tkW cd n s2) 2) 0 999 = some (0, N0) from z1, bd_s, Sp_l, show (1813 : Int32) = nI 1813 from rfl, nI_add, m_as B0.2.1 (by omega)]
    replace B0 := B0.pI (j := 1813 + k) (by omega) 0
    show ∃ N, _ = some N ∧ qBB M N e
    obtain ⟨y3, zz3⟩ := qt_isPieces B0.2.1
    rw [m_r20 B0.2.1, m_ck B0.2.1, zz3, bd_s, m_ck B0.2.1, qb_behind B0.2, bd_s, show (1821 : Int32) = nI 1821 from rfl, nI_add, m_as B0.2.1 (by omega)]
    replace B0 := B0.pI (j := 1821 + k) (by omega) 0
    obtain ⟨y4, zz4⟩ := qt_isWeight B0.2.1
    rw [m_r20 B0.2.1, m_ck B0.2.1, zz4, bd_s, m_ck B0.2.1, qb_behind B0.2, bd_s, show (1829 : Int32) = nI 1829 from rfl, nI_add, m_as B0.2.1 (by omega)]
    replace B0 := B0.pI (j := 1829 + k) (by omega) 0
    rw [m_r20 B0.2.1, m_gI B0.2.1, if_neg (qb_eq B0.2)]
    unfold f_X12_readHouse_157
    rw [show (1837 : Int32) = nI 1837 from rfl, nI_add]
    exact qbh_158 B0 k7 4
  rw [ht4] at g4
  obtain ⟨N4, g1, g2, C4⟩ := g4
  have H4 := (H3.n g2).pI (j := 1813 + k) (by omega) (nI v2)
  have C4' := C4.o (r := 212) (by decide) (by decide) (1813 + k) (nI v2)
  rw [show f_X12_behindWord (sI N3 212 (1805 + k) (nI v1)) (some 207) (bW (tkW cd n s2) 2) 0 999 = some (nI v2, N4) from g1, bd_s, Sp_r, show (1813 : Int32) = nI 1813 from rfl, nI_add, m_as C4.1.1 (by omega)]
  have g5 := q_behind C4' 3 1 9 (by omega) (by omega)
  rw [m_r20 C4'.1.1, m_ck C4'.1.1, q_isWPieces C4'.1 C4'.2.1, bd_s, m_ck C4'.1.1]
  rcases ht5 : tWN cd n 3 1 9 s3 with e | ⟨v3, s4⟩
  · rw [ht5] at g5
    obtain ⟨N0, z1, z2, z3⟩ := g5
    have B0 := H4.bd z2 z3
    rw [show f_X12_behindWord (sI N4 212 (1813 + k) (nI v2)) (some 207) (bW (tkW cd n s3) 3) 1 9 = some (0, N0) from z1, bd_s, Sp_l, show (1821 : Int32) = nI 1821 from rfl, nI_add, m_as B0.2.1 (by omega)]
    replace B0 := B0.pI (j := 1821 + k) (by omega) 0
    show ∃ N, _ = some N ∧ qBB M N e
    obtain ⟨y4, zz4⟩ := qt_isWeight B0.2.1
    rw [m_r20 B0.2.1, m_ck B0.2.1, zz4, bd_s, m_ck B0.2.1, qb_behind B0.2, bd_s, show (1829 : Int32) = nI 1829 from rfl, nI_add, m_as B0.2.1 (by omega)]
    replace B0 := B0.pI (j := 1829 + k) (by omega) 0
    rw [m_r20 B0.2.1, m_gI B0.2.1, if_neg (qb_eq B0.2)]
    unfold f_X12_readHouse_157
    rw [show (1837 : Int32) = nI 1837 from rfl, nI_add]
    exact qbh_158 B0 k7 4
  rw [ht5] at g5
  obtain ⟨N5, g1, g2, C5⟩ := g5
  have H5 := (H4.n g2).pI (j := 1821 + k) (by omega) (nI v3)
  have C5' := C5.o (r := 212) (by decide) (by decide) (1821 + k) (nI v3)
  rw [show f_X12_behindWord (sI N4 212 (1813 + k) (nI v2)) (some 207) (bW (tkW cd n s3) 3) 1 9 = some (nI v3, N5) from g1, bd_s, Sp_r, show (1821 : Int32) = nI 1821 from rfl, nI_add, m_as C5.1.1 (by omega)]
  have g6 := q_behind C5' 4 1 20 (by omega) (by omega)
  rw [m_r20 C5'.1.1, m_ck C5'.1.1, q_isWWeight C5'.1 C5'.2.1, bd_s, m_ck C5'.1.1]
  rcases ht6 : tWN cd n 4 1 20 s4 with e | ⟨v4, s5⟩
  · rw [ht6] at g6
    obtain ⟨N0, z1, z2, z3⟩ := g6
    have B0 := H5.bd z2 z3
    rw [show f_X12_behindWord (sI N5 212 (1821 + k) (nI v3)) (some 207) (bW (tkW cd n s4) 4) 1 20 = some (0, N0) from z1, bd_s, Sp_l, show (1829 : Int32) = nI 1829 from rfl, nI_add, m_as B0.2.1 (by omega)]
    replace B0 := B0.pI (j := 1829 + k) (by omega) 0
    show ∃ N, _ = some N ∧ qBB M N e
    rw [m_r20 B0.2.1, m_gI B0.2.1, if_neg (qb_eq B0.2)]
    unfold f_X12_readHouse_157
    rw [show (1837 : Int32) = nI 1837 from rfl, nI_add]
    exact qbh_158 B0 k7 4
  rw [ht6] at g6
  obtain ⟨N6, g1, g2, C6⟩ := g6
  have H6 := (H5.n g2).pI (j := 1829 + k) (by omega) (nI v4)
  have C6' := C6.o (r := 212) (by decide) (by decide) (1829 + k) (nI v4)
  rw [show f_X12_behindWord (sI N5 212 (1821 + k) (nI v3)) (some 207) (bW (tkW cd n s4) 4) 1 20 = some (nI v4, N6) from g1, bd_s, Sp_r, show (1829 : Int32) = nI 1829 from rfl, nI_add, m_as C6.1.1 (by omega)]
  unfold tLP
  rw [m_r20 C6'.1.1, m_gI C6'.1.1, C6'.2.2, if_pos rfl, m_ck C6'.1.1, q_isWLong C6'.1 C6'.2.1, bd_s, show (1837 : Int32) = nI 1837 from rfl, nI_add]
  by_cases q5 : tkW cd n s5 = nI 5
  · have gx := q_behind C6' 5 1 20 (by omega) (by omega)
    have eO : tOp cd n 5 1 20 4 s5 = tWN cd n 5 1 20 s5 := if_pos q5
    rw [bW_1 q5] at gx ⊢
    rw [if_neg (by decide), eO, m_ck C6'.1.1]
    rcases hr : tWN cd n 5 1 20 s5 with e | ⟨v5, t5⟩
    · rw [hr] at gx
      obtain ⟨N', z1, z2, z3⟩ := gx
      obtain ⟨N9, y1, y2⟩ := qbh_158 (H6.bd z2 z3) k7 0
      rw [show f_X12_behindWord (sI N6 212 (1829 + k) (nI v4)) (some 207) 1 1 20 = some (0, N') from z1, bd_s, y1]
      exact ⟨N9, rfl, y2⟩
    · rw [hr] at gx
      obtain ⟨N', z1, z2, z3⟩ := gx
      rw [show f_X12_behindWord (sI N6 212 (1829 + k) (nI v4)) (some 207) 1 1 20 = some (nI v5, N') from z1, bd_s, Sp_r]
      exact qh_158 hk k7 D ok oL z3 (H6.n z2)
  · have eO : tOp cd n 5 1 20 4 s5 = .inr (4, s5) := if_neg q5
    rw [bW_0 q5, if_pos rfl, eO, Sp_r]
    unfold f_X12_readHouse_157
    exact qh_158 (v5 := 4) hk k7 D ok oL C6' H6
end Q
