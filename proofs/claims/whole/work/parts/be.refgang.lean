/-! TEXTS: the reference reads a gang, a wind, a debt, a law -/
section Q
variable {M N : Mm} {cd : Nat → Nat} {n s k : Nat} {nm : Nat → List Nat} {L : List Nat} {e : Nat × Nat} {c : Nat → Int32} {f : Nat → Int32} {x : Nat → Int64}
theorem qbg_111 (B : qBB M N e) {k : Nat} (hk : k < 4) (v1 v : Int32) : ∃ N', f_X12_readGang_111 N (some 207) (nI k) v1 (some 212) (nI (1941 + k)) v = some N' ∧ qBB M N' e := by
  have B1 := B.pI (j := 1941 + k) (by omega) v
  refine ⟨_, ?_, B1⟩
  unfold f_X12_readGang_111
  rw [m_as B.2.1 (by omega), m_gI B1.2.1, if_neg (qb_le B1.2)]
theorem qg_end (hk : gN c = k) (k3 : k < 4) (D : dM M c nm) (ok : dOK c) (oL : okN L) {v1 v2 v3 t : Nat} (v1h : v1 < hN c) (C : QT N cd n t) (h : mZ M N (sx (mI M 212) (1937 + k) (nI v2)) (sxL (mL M 214) (72 + (8 + k)) (lN (n32 L)))) : ∃ N', f_X12_readGang_111 N (some 207) (nI k) (nI v1) (some 212) (nI (1941 + k)) (nI v3) = some N' ∧ qFr M N' ∧ QT N' cd n t ∧ dM N' (gsC c k v1 v2 v3) (nmU nm (8 + k) L) := by
  have c0 : c 1 = nI k := by rw [← hk]; exact (ok_g ok.1).1
  have h8 := (ok_h ok.1).2
  have H1 := h.pI (j := 1941 + k) (by omega) (nI v3)
  have C1 := C.o (r := 212) (by decide) (by decide) (1941 + k) (nI v3)
  have H2 := H1.pI (j := 1933 + k) (by omega) (nI v1)
  have C2 := C1.o (r := 212) (by decide) (by decide) (1933 + k) (nI v1)
  have e3 : mI (sI (sI N 212 (1941 + k) (nI v3)) 212 (1933 + k) (nI v1)) 212 (1805 + v1) = c (5 + v1) := by
    rw [H2.2.1, sx_o (by omega), sx_o (by omega), sx_o (by omega), show 1805 + v1 = 1800 + (5 + v1) by omega]
    exact D.1 (5 + v1) (by omega)
  have H3 := H2.pI (j := 1945 + k) (by omega) (c (5 + v1))
  have C3 := C2.o (r := 212) (by decide) (by decide) (1945 + k) (c (5 + v1))
  have H4 := H3.pI (j := 1949 + k) (by omega) (-1)
  have C4 := C3.o (r := 212) (by decide) (by decide) (1949 + k) (-1)
  have e0 : mI (sI (sI (sI (sI N 212 (1941 + k) (nI v3)) 212 (1933 + k) (nI v1)) 212 (1945 + k) (c (5 + v1))) 212 (1949 + k) (-1)) 212 1801 = nI k := by
    rw [H4.2.1, sx_o (by omega), sx_o (by omega), sx_o (by omega), sx_o (by omega), sx_o (by omega)]
    exact (D.1 1 (by omega)).trans c0
  have H5 := H4.pI (j := 1801) (by omega) (nI (k + 1))
  have C5 := C4.o (r := 212) (by decide) (by decide) 1801 (nI (k + 1))
  refine ⟨_, ?_, H5.1, C5, ?_, ?_⟩
  · unfold f_X12_readGang_111
    rw [m_as C.1.1 (by omega), m_gI C1.1.1, C1.2.2, if_pos (by decide), m_r20 C1.1.1, show (1933 : Int32) = nI 1933 from rfl, nI_add, m_as C1.1.1 (by omega), m_r20 C2.1.1, m_r20 C2.1.1, show (1805 : Int32) = nI 1805 from rfl, show (1945 : Int32) = nI 1945 from rfl, show (1949 : Int32) = nI 1949 from rfl, show (1801 : Int32) = nI 1801 from rfl, nI_add, nI_add, nI_add, m_al C2.1.1 (by omega), e3, m_as C2.1.1 (by omega), m_r20 C3.1.1, m_as C3.1.1 (by omega), m_r20 C4.1.1, m_al C4.1.1 (by omega), e0, nI_1, m_as C4.1.1 (by omega)]
  · intro j hj
    rw [H5.2.1]
    by_cases j0 : j = 1
    · subst j0
      rw [sx_s]
      rfl
    rw [sx_o (by omega)]
    by_cases j5 : j = 149 + k
    · rw [j5, show 1800 + (149 + k) = 1949 + k by omega, sx_s]
      unfold gsC
      rw [if_neg (by omega), if_neg (by omega), if_neg (by omega), if_neg (by omega), if_neg (by omega), if_pos rfl]
    rw [sx_o (by omega)]
    by_cases j4 : j = 145 + k
    · rw [j4, show 1800 + (145 + k) = 1945 + k by omega, sx_s]
      unfold gsC
      rw [if_neg (by omega), if_neg (by omega), if_neg (by omega), if_neg (by omega), if_pos rfl]
    rw [sx_o (by omega)]
    by_cases j1 : j = 133 + k
    · rw [j1, show 1800 + (133 + k) = 1933 + k by omega, sx_s]
      unfold gsC
      rw [if_neg (by omega), if_pos rfl]
    rw [sx_o (by omega)]
    by_cases j3 : j = 141 + k
    · rw [j3, show 1800 + (141 + k) = 1941 + k by omega, sx_s]
      unfold gsC
      rw [if_neg (by omega), if_neg (by omega), if_neg (by omega), if_pos rfl]
    rw [sx_o (by omega)]
    by_cases j2 : j = 137 + k
    · rw [j2, show 1800 + (137 + k) = 1937 + k by omega, sx_s]
      unfold gsC
      rw [if_neg (by omega), if_neg (by omega), if_pos rfl]
    rw [sx_o (by omega)]
    rw [gsC_o j0 j1 j2 j3 j4 j5]
    exact D.1 j hj
  · obtain ⟨-, ⟨B3, h8⟩, ⟨B4, g4⟩, ⟨B5, w6⟩, n1, n2, n3⟩ := D.2
    have hN' : hN (gsC c k v1 v2 v3) = hN c := na_same (k := 0) (gsC_o (by omega) (by omega) (by omega) (by omega) (by omega) (by omega))
    have gN' : gN (gsC c k v1 v2 v3) = k + 1 := na_of (k := 1) (if_pos rfl) (by omega)
    have wN' : wN (gsC c k v1 v2 v3) = wN c := na_same (k := 2) (gsC_o (by omega) (by omega) (by omega) (by omega) (by omega) (by omega))
    rw [hN', gN', wN']
    have L' : mL (sI (sI (sI (sI (sI N 212 (1941 + k) (nI v3)) 212 (1933 + k) (nI v1)) 212 (1945 + k) (c (5 + v1))) 212 (1949 + k) (-1)) 212 1801 (nI (k + 1))) 214 = sxL (mL M 214) (72 + (8 + k)) (lN (n32 L)) := H5.2.2
    have lo : ∀ j, j ≠ 72 + (8 + k) → sxL (mL M 214) (72 + (8 + k)) (lN (n32 L)) j = mL M 214 j := fun j hj => if_neg hj
    refine ⟨by omega, ⟨?_, h8⟩, ⟨by rw [H5.2.1, sx_s], by omega⟩, ⟨?_, w6⟩, fun i hi => ?_, fun i hi => ?_, fun i hi => ?_⟩
    · rw [H5.2.1, sx_o (by omega), sx_o (by omega), sx_o (by omega), sx_o (by omega), sx_o (by omega), sx_o (by omega)]
      exact B3
    · rw [H5.2.1, sx_o (by omega), sx_o (by omega), sx_o (by omega), sx_o (by omega), sx_o (by omega), sx_o (by omega)]
      exact B5
    · have z : nmU nm (8 + k) L i = nm i := if_neg (by omega)
      rw [L', z, lo _ (by omega)]
      exact n1 i hi
    · rw [L']
      by_cases ik : i = k
      · subst ik
        unfold nmU sxL
        rw [if_pos rfl, if_pos (by omega)]
        exact ⟨oL, rfl⟩
      · have z : nmU nm (8 + k) L (8 + i) = nm (8 + i) := if_neg (by omega)
        rw [z, lo _ (by omega)]
        exact n2 i (by omega)
    · have z : nmU nm (8 + k) L (12 + i) = nm (12 + i) := if_neg (by omega)
      rw [L', z, lo _ (by omega)]
      exact n3 i hi
theorem qNB_Z (B : qNB M 4 nm (hN c) (gN c) (wN c)) (D : dM M c nm) {p : Nat} {v : Int64} (hp : ∀ i, (i < hN c → p ≠ 72 + i) ∧ (i < gN c → p ≠ 80 + i) ∧ (i < wN c → p ≠ 84 + i)) (h : mZ M N (mI M 212) (sxL (mL M 214) p v)) : qNB N 4 nm (hN c) (gN c) (wN c) := by
  obtain ⟨-, B3, B4, B5, n1, n2, n3⟩ := B
  have lo : ∀ j, j ≠ p → mL N 214 j = mL M 214 j := fun j hj => by
    rw [h.2.2]
    exact if_neg hj
  refine ⟨by omega, by rw [h.2.1]; exact B3, by rw [h.2.1]; exact B4, by rw [h.2.1]; exact B5, fun i hi => ?_, fun i hi => ?_, fun i hi => ?_⟩
  · rw [lo _ (by have := (hp i).1 hi; omega)]
    exact n1 i hi
  · rw [lo _ (by have := (hp i).2.1 hi; omega)]
    exact n2 i hi
  · rw [lo _ (by have := (hp i).2.2 hi; omega)]
    exact n3 i hi
theorem q_gang (C : QT M cd n s) (D : dM M c nm) (ok : dOK c) (hs : tkK cd n s = 2) : qOut M (f_X12_readGang M (some 207)) cd n (rdG cd n c nm s) := by
  obtain ⟨k, hk⟩ : ∃ k, gN c = k := ⟨_, rfl⟩
  have c0 := ok_g ok.1
  have h8 := (ok_h ok.1).2
  have w6 := (ok_w ok.1).2
  rw [hk] at c0
  have B := D.2
  have B' := D.2
  rw [hk] at B
  have e0 : mI M 212 1801 = nI k := (D.1 1 (by omega)).trans c0.1
  have e6 : fK cd n s 6 = (6, s) := by
    unfold fK
    rw [if_neg (by omega)]
  unfold rdG f_X12_readGang
  rw [m_r20 C.1.1, show (1801 : Int32) = nI 1801 from rfl, m_al C.1.1 (by omega), e0, hk, e6]
  by_cases k8 : k = 4
  · obtain ⟨N, z1, z2, z3⟩ := q_failS C 6 (by omega) (by omega)
    rw [if_pos (by rw [k8]; rfl), if_pos k8, m_gI C.1.1, m_ck C.1.1, show (6 : Int32) = nI 6 from rfl, z1, bv_s]
    unfold f_X12_readGang_24
    rw [m_gI z3.1, if_neg (qb_le z3)]
    exact ⟨N, rfl, z2.q, z3⟩
  have k7 : k < 4 := by omega
  rw [if_neg (by rw [show (4 : Int32) = nI 4 from rfl, nI_eq' (by omega) (by omega)]; exact k8), if_neg k8]
  unfold f_X12_readGang_24
  have g := q_new C B (p := 8 + k) (by omega)
  rw [m_gI C.1.1, C.2.2, if_pos (by decide), m_ck C.1.1, show (8 : Int32) = nI 8 from rfl, nI_add]
  rcases ht : tNew cd n nm (hN c) k (wN c) (nx cd n s) with e | s1
  · rw [ht] at g
    obtain ⟨N0, z1, z2, z3⟩ := g
    have B0 : qBB M N0 e := ⟨z2.q, z3⟩
    rw [z1, bv_s, Sb_l]
    show ∃ N, _ = some N ∧ qBB M N e
    obtain ⟨yo, zo⟩ := qt_isOf B0.2.1
    rw [m_ck B0.2.1, zo, bd_s, m_ck B0.2.1, qb_must B0.2, bv_s]
    rw [m_ck B0.2.1, qb_readTold B0.2, bd_s]
    obtain ⟨yh, zh⟩ := qt_isHands B0.2.1
    rw [m_r20 B0.2.1, m_ck B0.2.1, zh, bd_s, m_ck B0.2.1, qb_behind B0.2, bd_s, show (1937 : Int32) = nI 1937 from rfl, nI_add, m_as B0.2.1 (by omega)]
    replace B0 := B0.pI (j := 1937 + k) (by omega) 0
    rw [m_r20 B0.2.1, m_gI B0.2.1, if_neg (qb_eq B0.2)]
    unfold f_X12_readGang_110
    rw [show (1941 : Int32) = nI 1941 from rfl, nI_add]
    exact qbg_111 B0 k7 0 1
  rw [ht] at g
  obtain ⟨N2, g1, oL, g2, C2⟩ := g
  have H2 : mZ M N2 (mI M 212) (sxL (mL M 214) (72 + (8 + k)) (lN (n32 (tkL cd n (nx cd n s))))) := ((mZ.rf M).pL (j := 72 + (8 + k)) (by omega) (lN (n32 (tkL cd n (nx cd n s))))).n g2
  have g3 := q_mustW C2 13
  rw [g1, bv_s, Sb_r, m_ck C2.1.1, q_isWOf C2.1 C2.2.1, bd_s, m_ck C2.1.1]
  rcases ht3 : tW cd n 13 s1 with e | s2
  · rw [ht3] at g3
    obtain ⟨N0, z1, z2, z3⟩ := g3
    have B0 := H2.bd z2 z3
    rw [z1, bv_s, Sb_l]
    show ∃ N, _ = some N ∧ qBB M N e
    rw [m_ck B0.2.1, qb_readTold B0.2, bd_s]
    obtain ⟨yh, zh⟩ := qt_isHands B0.2.1
    rw [m_r20 B0.2.1, m_ck B0.2.1, zh, bd_s, m_ck B0.2.1, qb_behind B0.2, bd_s, show (1937 : Int32) = nI 1937 from rfl, nI_add, m_as B0.2.1 (by omega)]
    replace B0 := B0.pI (j := 1937 + k) (by omega) 0
    rw [m_r20 B0.2.1, m_gI B0.2.1, if_neg (qb_eq B0.2)]
    unfold f_X12_readGang_110
    rw [show (1941 : Int32) = nI 1941 from rfl, nI_add]
    exact qbg_111 B0 k7 0 1
  rw [ht3] at g3
  obtain ⟨N3, g1, g2, C3⟩ := g3
  have H3 := H2.n g2
  have B3 := qNB_Z (N := N3) B' D (fun i => ⟨fun hi => by omega, fun hi => by rw [hk] at hi; omega, fun hi => by omega⟩) H3
  have g4 := q_readTold C3 B3 0 (by omega)
  rw [if_pos rfl] at g4
  rw [g1, bv_s, Sb_r, m_ck C3.1.1]
  rcases ht4 : tNm cd n nm 0 (hN c) s2 with e | ⟨v1, s3⟩
  · rw [ht4] at g4
    obtain ⟨N0, vv, z1, z2, z3⟩ := g4
    have B0 := H3.bd z2 z3
    rw [show f_X12_readTold N3 (some 207) 4 0 = some (vv, N0) from z1, bd_s, Sp_l]
    show ∃ N, _ = some N ∧ qBB M N e
    obtain ⟨yh, zh⟩ := qt_isHands B0.2.1
    rw [m_r20 B0.2.1, m_ck B0.2.1, zh, bd_s, m_ck B0.2.1, qb_behind B0.2, bd_s, show (1937 : Int32) = nI 1937 from rfl, nI_add, m_as B0.2.1 (by omega)]
    replace B0 := B0.pI (j := 1937 + k) (by omega) 0
    rw [m_r20 B0.2.1, m_gI B0.2.1, if_neg (qb_eq B0.2)]
    unfold f_X12_readGang_110
    rw [show (1941 : Int32) = nI 1941 from rfl, nI_add]
    exact qbg_111 B0 k7 vv 1
  obtain ⟨v1h, -⟩ := tNm_lt ht4
  rw [ht4] at g4
  obtain ⟨N4, g1, g2, C4⟩ := g4
  have H4 := H3.n g2
  have g5 := q_behind C4 8 1 40 (by omega) (by omega)
  rw [show f_X12_readTold N3 (some 207) 4 0 = some (nI v1, N4) from g1, bd_s, Sp_r, m_r20 C4.1.1, m_ck C4.1.1, q_isWHands C4.1 C4.2.1, bd_s, m_ck C4.1.1]
  rcases ht5 : tWN cd n 8 1 40 s3 with e | ⟨v2, s4⟩
  · rw [ht5] at g5
    obtain ⟨N0, z1, z2, z3⟩ := g5
    have B0 := H4.bd z2 z3
    rw [show f_X12_behindWord N4 (some 207) (bW (tkW cd n s3) 8) 1 40 = some (0, N0) from z1, bd_s, Sp_l, show (1937 : Int32) = nI 1937 from rfl, nI_add, m_as B0.2.1 (by omega)]
    replace B0 := B0.pI (j := 1937 + k) (by omega) 0
    show ∃ N, _ = some N ∧ qBB M N e
    rw [m_r20 B0.2.1, m_gI B0.2.1, if_neg (qb_eq B0.2)]
    unfold f_X12_readGang_110
    rw [show (1941 : Int32) = nI 1941 from rfl, nI_add]
    exact qbg_111 B0 k7 (nI v1) 1
  rw [ht5] at g5
  obtain ⟨N5, g1, g2, C5⟩ := g5
  have H5 := (H4.n g2).pI (j := 1937 + k) (by omega) (nI v2)
  have C5' := C5.o (r := 212) (by decide) (by decide) (1937 + k) (nI v2)
  rw [show f_X12_behindWord N4 (some 207) (bW (tkW cd n s3) 8) 1 40 = some (nI v2, N5) from g1, bd_s, Sp_r, show (1937 : Int32) = nI 1937 from rfl, nI_add, m_as C5.1.1 (by omega), m_r20 C5'.1.1, m_gI C5'.1.1, C5'.2.2, if_pos rfl, m_ck C5'.1.1, q_isWPace C5'.1 C5'.2.1, bd_s, show (1941 : Int32) = nI 1941 from rfl, nI_add]
  by_cases q9 : tkW cd n s4 = nI 9
  · have gx := q_behind C5' 9 0 9 (by omega) (by omega)
    have eO : tOp cd n 9 0 9 1 s4 = tWN cd n 9 0 9 s4 := if_pos q9
    rw [bW_1 q9] at gx ⊢
    rw [if_neg (by decide), eO, m_ck C5'.1.1]
    rcases hr : tWN cd n 9 0 9 s4 with e | ⟨v3, s5⟩
    · rw [hr] at gx
      obtain ⟨N', z1, z2, z3⟩ := gx
      obtain ⟨N9, y1, y2⟩ := qbg_111 (H5.bd z2 z3) k7 (nI v1) 0
      rw [show f_X12_behindWord (sI N5 212 (1937 + k) (nI v2)) (some 207) 1 0 9 = some (0, N') from z1, bd_s, y1]
      exact ⟨N9, rfl, y2⟩
    · rw [hr] at gx
      obtain ⟨N', z1, z2, z3⟩ := gx
      obtain ⟨N9, y1, y2, y3, y4⟩ := qg_end hk k7 D ok oL (v3 := v3) v1h z3 (H5.n z2)
      rw [show f_X12_behindWord (sI N5 212 (1937 + k) (nI v2)) (some 207) 1 0 9 = some (nI v3, N') from z1, bd_s, Sp_r, y1]
      exact ⟨N9, rfl, y2, y3, y4⟩
  · have eO : tOp cd n 9 0 9 1 s4 = .inr (1, s4) := if_neg q9
    obtain ⟨N9, y1, y2, y3, y4⟩ := qg_end hk k7 D ok oL (v3 := 1) v1h C5' H5
    rw [bW_0 q9, if_pos rfl, eO, Sp_r]
    unfold f_X12_readGang_110
    rw [show (1 : Int32) = nI 1 from rfl, y1]
    exact ⟨N9, rfl, y2, y3, y4⟩
end Q
