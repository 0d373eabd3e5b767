/-! TEXTS: the reference reads a wind, a debt, a law -/
section Q
variable {M N : Mm} {cd : Nat → Nat} {n s k : Nat} {nm : Nat → List Nat} {L : List Nat} {e : Nat × Nat} {c : Nat → Int32} {f : Nat → Int32} {x : Nat → Int64}
theorem q_wind (C : QT M cd n s) (D : dM M c nm) (ok : dOK c) (hs : tkK cd n s = 2) : qOut M (f_X12_readWind M (some 207)) cd n (rdW cd n c nm s) := by
  obtain ⟨k, hk⟩ : ∃ k, wN c = k := ⟨_, rfl⟩
  have c0 := ok_w ok.1
  have h8 := (ok_h ok.1).2
  have g4 := (ok_g ok.1).2
  rw [hk] at c0
  have B := D.2
  have B' := D.2
  rw [hk] at B
  have e0 : mI M 212 1802 = nI k := (D.1 2 (by omega)).trans c0.1
  have e6 : fK cd n s 6 = (6, s) := by
    unfold fK
    rw [if_neg (by omega)]
  unfold rdW f_X12_readWind
  rw [m_r20 C.1.1, show (1802 : Int32) = nI 1802 from rfl, m_al C.1.1 (by omega), e0, hk, e6]
  by_cases k8 : k = 6
  · obtain ⟨N, z1, z2, z3⟩ := q_failS C 6 (by omega) (by omega)
    rw [if_pos (by rw [k8]; rfl), if_pos k8, m_gI C.1.1, m_ck C.1.1, show (6 : Int32) = nI 6 from rfl, z1, bv_s]
    unfold f_X12_readWind_25
    rw [m_gI z3.1, if_neg (qb_le z3)]
    exact ⟨N, rfl, z2.q, z3⟩
  have k7 : k < 6 := by omega
  rw [if_neg (by rw [show (6 : Int32) = nI 6 from rfl, nI_eq' (by omega) (by omega)]; exact k8), if_neg k8]
  unfold f_X12_readWind_25
  have g := q_new C B (p := 12 + k) (by omega)
  rw [m_gI C.1.1, C.2.2, if_pos (by decide), m_ck C.1.1, show (12 : Int32) = nI 12 from rfl, nI_add]
  rcases ht : tNew cd n nm (hN c) (gN c) k (nx cd n s) with e | s1
  · rw [ht] at g
    obtain ⟨N0, z1, z2, z3⟩ := g
    have B0 : qBB M N0 e := ⟨z2.q, z3⟩
    rw [z1, bv_s, Sb_l, m_r20 B0.2.1, m_ck B0.2.1, qb_count B0.2, bd_s, show (1961 : Int32) = nI 1961 from rfl, nI_add, m_as B0.2.1 (by omega)]
    replace B0 := B0.pI (j := 1961 + k) (by omega) 0
    obtain ⟨yo, zo⟩ := qt_isOf B0.2.1
    rw [m_r20 B0.2.1, m_ck B0.2.1, zo, bd_s, m_ck B0.2.1, qb_behind B0.2, bd_s, show (1967 : Int32) = nI 1967 from rfl, nI_add, m_as B0.2.1 (by omega)]
    replace B0 := B0.pI (j := 1967 + k) (by omega) 0
    rw [m_gI B0.2.1, if_neg (qb_eq B0.2)]
    exact ⟨_, rfl, B0⟩
  rw [ht] at g
  obtain ⟨N2, g1, oL, g2, C2⟩ := g
  have H2 : mZ M N2 (mI M 212) (sxL (mL M 214) (72 + (12 + k)) (lN (n32 (tkL cd n (nx cd n s))))) := ((mZ.rf M).pL (j := 72 + (12 + k)) (by omega) (lN (n32 (tkL cd n (nx cd n s))))).n g2
  have g3 := q_count C2 0 99 (by omega) (by omega)
  rw [g1, bv_s, Sb_r, m_r20 C2.1.1, m_ck C2.1.1]
  rcases ht3 : tN cd n 0 99 s1 with e | ⟨v1, s2⟩
  · rw [ht3] at g3
    obtain ⟨N0, z1, z2, z3⟩ := g3
    have B0 := H2.bd z2 z3
    rw [show f_X12_count N2 (some 207) 0 99 = some (0, N0) from z1, bd_s, Sp_l, show (1961 : Int32) = nI 1961 from rfl, nI_add, m_as B0.2.1 (by omega)]
    replace B0 := B0.pI (j := 1961 + k) (by omega) 0
    obtain ⟨yo, zo⟩ := qt_isOf B0.2.1
    rw [m_r20 B0.2.1, m_ck B0.2.1, zo, bd_s, m_ck B0.2.1, qb_behind B0.2, bd_s, show (1967 : Int32) = nI 1967 from rfl, nI_add, m_as B0.2.1 (by omega)]
    replace B0 := B0.pI (j := 1967 + k) (by omega) 0
    rw [m_gI B0.2.1, if_neg (qb_eq B0.2)]
    exact ⟨_, rfl, B0⟩
  rw [ht3] at g3
  obtain ⟨N3, g1, g2, C3⟩ := g3
  have H3 := (H2.n g2).pI (j := 1961 + k) (by omega) (nI v1)
  have C3' := C3.o (r := 212) (by decide) (by decide) (1961 + k) (nI v1)
  have g4' := q_behind C3' 13 1 99 (by omega) (by omega)
  rw [show f_X12_count N2 (some 207) 0 99 = some (nI v1, N3) from g1, bd_s, Sp_r, show (1961 : Int32) = nI 1961 from rfl, nI_add, m_as C3.1.1 (by omega), m_r20 C3'.1.1, m_ck C3'.1.1, q_isWOf C3'.1 C3'.2.1, bd_s, m_ck C3'.1.1]
  rcases ht4 : tWN cd n 13 1 99 s2 with e | ⟨v2, s3⟩
  · rw [ht4] at g4'
    obtain ⟨N0, z1, z2, z3⟩ := g4'
    have B0 := H3.bd z2 z3
    rw [show f_X12_behindWord (sI N3 212 (1961 + k) (nI v1)) (some 207) (bW (tkW cd n s2) 13) 1 99 = some (0, N0) from z1, bd_s, Sp_l, show (1967 : Int32) = nI 1967 from rfl, nI_add, m_as B0.2.1 (by omega)]
    replace B0 := B0.pI (j := 1967 + k) (by omega) 0
    rw [m_gI B0.2.1, if_neg (qb_eq B0.2)]
    exact ⟨_, rfl, B0⟩
  rw [ht4] at g4'
  obtain ⟨N4, g1, g2, C4⟩ := g4'
  have H4 := (H3.n g2).pI (j := 1967 + k) (by omega) (nI v2)
  have C4' := C4.o (r := 212) (by decide) (by decide) (1967 + k) (nI v2)
  have e02 : mI (sI N4 212 (1967 + k) (nI v2)) 212 1802 = nI k := by
    rw [H4.2.1, sx_o (by omega), sx_o (by omega)]
    exact e0
  have H5 := H4.pI (j := 1802) (by omega) (nI (k + 1))
  have C5 := C4'.o (r := 212) (by decide) (by decide) 1802 (nI (k + 1))
  rw [show f_X12_behindWord (sI N3 212 (1961 + k) (nI v1)) (some 207) (bW (tkW cd n s2) 13) 1 99 = some (nI v2, N4) from g1, bd_s, Sp_r, show (1967 : Int32) = nI 1967 from rfl, nI_add, m_as C4.1.1 (by omega), m_gI C4'.1.1, C4'.2.2, if_pos rfl, m_r20 C4'.1.1, show (1802 : Int32) = nI 1802 from rfl, m_al C4'.1.1 (by omega), e02, nI_1, m_as C4'.1.1 (by omega)]
  refine ⟨_, rfl, H5.1, C5, ?_, ?_⟩
  · intro j hj
    rw [H5.2.1]
    by_cases j0 : j = 2
    · subst j0
      rw [sx_s]
      rfl
    rw [sx_o (by omega)]
    by_cases j2 : j = 167 + k
    · rw [j2, show 1800 + (167 + k) = 1967 + k by omega, sx_s]
      unfold wsC
      rw [if_neg (by omega), if_neg (by omega), if_pos rfl]
    rw [sx_o (by omega)]
    by_cases j1 : j = 161 + k
    · rw [j1, show 1800 + (161 + k) = 1961 + k by omega, sx_s]
      unfold wsC
      rw [if_neg (by omega), if_pos rfl]
    rw [sx_o (by omega), wsC_o j0 j1 j2]
    exact D.1 j hj
  · obtain ⟨-, ⟨B3, h8⟩, ⟨B4, g4⟩, ⟨B5, w6⟩, n1, n2, n3⟩ := D.2
    have hN' : hN (wsC c k v1 v2) = hN c := na_same (k := 0) (wsC_o (by omega) (by omega) (by omega))
    have gN' : gN (wsC c k v1 v2) = gN c := na_same (k := 1) (wsC_o (by omega) (by omega) (by omega))
    have wN' : wN (wsC c k v1 v2) = k + 1 := na_of (k := 2) (if_pos rfl) (by omega)
    rw [hN', gN', wN']
    have L' : mL (sI (sI N4 212 (1967 + k) (nI v2)) 212 1802 (nI (k + 1))) 214 = sxL (mL M 214) (72 + (12 + k)) (lN (n32 (tkL cd n (nx cd n s)))) := H5.2.2
    have lo : ∀ j, j ≠ 72 + (12 + k) → sxL (mL M 214) (72 + (12 + k)) (lN (n32 (tkL cd n (nx cd n s)))) j = mL M 214 j := fun j hj => if_neg hj
    refine ⟨by omega, ⟨?_, h8⟩, ⟨?_, g4⟩, ⟨by rw [H5.2.1, sx_s], by omega⟩, fun i hi => ?_, fun i hi => ?_, fun i hi => ?_⟩
    · rw [H5.2.1, sx_o (by omega), sx_o (by omega), sx_o (by omega)]
      exact B3
    · rw [H5.2.1, sx_o (by omega), sx_o (by omega), sx_o (by omega)]
      exact B4
    · have z : nmU nm (12 + k) (tkL cd n (nx cd n s)) i = nm i := if_neg (by omega)
      rw [L', z, lo _ (by omega)]
      exact n1 i hi
    · have z : nmU nm (12 + k) (tkL cd n (nx cd n s)) (8 + i) = nm (8 + i) := if_neg (by omega)
      rw [L', z, lo _ (by omega)]
      exact n2 i hi
    · rw [L']
      by_cases ik : i = k
      · subst ik
        unfold nmU sxL
        rw [if_pos rfl, if_pos (by omega)]
        exact ⟨oL, rfl⟩
      · have z : nmU nm (12 + k) (tkL cd n (nx cd n s)) (12 + i) = nm (12 + i) := if_neg (by omega)
        rw [z, lo _ (by omega)]
        exact n3 i (by omega)
theorem qbd_47 (B : qBd N e) (a b : Int32) : f_X12_readHelped_47 N (some 207) a b = some N := by
  unfold f_X12_readHelped_47
  rw [m_ck B.1, qb_must B, bv_s, m_ck B.1, qb_count B, bd_s, m_gI B.1, if_neg (qb_eq B)]
theorem q_helped (C : QT M cd n s) (D : dM M c nm) (ok : dOK c) : qOut M (f_X12_readHelped M (some 207)) cd n (rdD cd n c nm s) := by
  have h8 := (ok_h ok.1).2
  unfold rdD f_X12_readHelped
  obtain ⟨N1, a1, a2, C1⟩ := q_step C
  have g2 := q_readTold C1 (qNB_n D.2 a2) 0 (by omega)
  rw [if_pos rfl] at g2
  rw [m_ck C.1.1, a1, bv_s, m_ck C1.1.1]
  rcases ht2 : tNm cd n nm 0 (hN c) (nx cd n s) with e | ⟨v1, s1⟩
  · rw [ht2] at g2
    obtain ⟨N0, vv, z1, z2, z3⟩ := g2
    obtain ⟨yo, zo⟩ := qt_isBy z3.1
    rw [show f_X12_readTold N1 (some 207) 4 0 = some (vv, N0) from z1, bd_s, Sp_l, m_ck z3.1, zo, bd_s, m_ck z3.1, qb_must z3, bv_s, m_ck z3.1, qb_told z3, bd_s, m_gI z3.1, if_neg (qb_eq z3), qbd_47 z3]
    exact ⟨_, rfl, (a2.tr z2).q, z3⟩
  obtain ⟨v1h, -⟩ := tNm_lt ht2
  rw [ht2] at g2
  obtain ⟨N2, g1, g2', C2⟩ := g2
  have F2 := a2.tr g2'
  have g3 := q_mustW C2 11
  rw [show f_X12_readTold N1 (some 207) 4 0 = some (nI v1, N2) from g1, bd_s, Sp_r, m_ck C2.1.1, q_isWBy C2.1 C2.2.1, bd_s, m_ck C2.1.1]
  rcases ht3 : tW cd n 11 s1 with e | s2
  · rw [ht3] at g3
    obtain ⟨N0, z1, z2, z3⟩ := g3
    rw [z1, bv_s, Sb_l, m_ck z3.1, qb_told z3, bd_s, m_gI z3.1, if_neg (qb_eq z3), qbd_47 z3]
    exact ⟨_, rfl, (F2.tr z2).q, z3⟩
  rw [ht3] at g3
  obtain ⟨N3, g1, g3', C3⟩ := g3
  have F3 := F2.tr g3'
  have g4 := q_told C3 (qNB_n D.2 F3) 0 (by omega)
  rw [if_pos rfl] at g4
  rw [g1, bv_s, Sb_r, m_ck C3.1.1]
  rcases ht4 : tNm cd n nm 0 (hN c) s2 with e | ⟨v2, s3⟩
  · rw [ht4] at g4
    obtain ⟨N0, vv, z1, z2, z3⟩ := g4
    rw [show f_X12_told N3 (some 207) 4 0 = some (vv, N0) from z1, bd_s, Sp_l, m_gI z3.1, if_neg (qb_eq z3), qbd_47 z3]
    exact ⟨_, rfl, (F3.tr z2).q, z3⟩
  obtain ⟨v2h, es3⟩ := tNm_lt ht4
  rw [ht4] at g4
  rw [show f_X12_told N3 (some 207) 4 0 = some (nI v2, N3) from g4, bd_s, Sp_r, m_gI C3.1.1, C3.2.2, if_pos rfl]
  by_cases e12 : v2 = v1
  · obtain ⟨N0, z1, z2, z3⟩ := q_failS C3 5 (by omega) (by omega)
    rw [if_pos (by rw [e12]), if_pos e12, m_gI C3.1.1, m_ck C3.1.1, show (5 : Int32) = nI 5 from rfl, z1, bv_s, qbd_47 z3]
    exact ⟨_, rfl, (F3.tr z2).q, z3⟩
  obtain ⟨N4, z1, z2, C4⟩ := q_must1 C3 (b := 1) (by decide)
  rw [← es3] at C4
  have F4 := F3.tr z2
  have g5 := q_count C4 0 99 (by omega) (by omega)
  rw [if_neg (by rw [nI_eq' (by omega) (by omega)]; exact e12), if_neg e12]
  unfold f_X12_readHelped_47
  rw [m_ck C3.1.1, z1, bv_s, m_ck C4.1.1]
  rcases ht5 : tN cd n 0 99 s3 with e | ⟨v3, s4⟩
  · rw [ht5] at g5
    obtain ⟨N0, z1, z2, z3⟩ := g5
    rw [show f_X12_count N4 (some 207) 0 99 = some (0, N0) from z1, bd_s, Sp_l, m_gI z3.1, if_neg (qb_eq z3)]
    exact ⟨_, rfl, (F4.tr z2).q, z3⟩
  rw [ht5] at g5
  obtain ⟨N5, z1, z2, C5⟩ := g5
  have F5 := F4.tr z2
  have H5 := ((mZ.rf M).n F5).pI (j := 1869 + 8 * v1 + v2) (by omega) (nI v3)
  rw [show f_X12_count N4 (some 207) 0 99 = some (nI v3, N5) from z1, bd_s, Sp_r, m_gI C5.1.1, C5.2.2, if_pos rfl, m_r20 C5.1.1, show (1869 : Int32) = nI 1869 from rfl, show (8 : Int32) = nI 8 from rfl, nI_mul, nI_add, nI_add, m_as C5.1.1 (by omega)]
  have co : ∀ j, j < 69 ∨ 133 ≤ j → sx c (69 + 8 * v1 + v2) (nI v3) j = c j := fun j hj => sx_o (by omega)
  have hN' : hN (sx c (69 + 8 * v1 + v2) (nI v3)) = hN c := na_same (k := 0) (co 0 (by omega))
  have gN' : gN (sx c (69 + 8 * v1 + v2) (nI v3)) = gN c := na_same (k := 1) (co 1 (by omega))
  have wN' : wN (sx c (69 + 8 * v1 + v2) (nI v3)) = wN c := na_same (k := 2) (co 2 (by omega))
  refine ⟨_, rfl, H5.1, C5.o (by decide) (by decide) _ _, fun j hj => ?_, ?_⟩
  · rw [H5.2.1]
    by_cases q : j = 69 + 8 * v1 + v2
    · rw [q, show 1800 + (69 + 8 * v1 + v2) = 1869 + 8 * v1 + v2 by omega, sx_s, sx_s]
    · rw [sx_o (by omega), sx_o q]
      exact D.1 j hj
  · rw [hN', gN', wN']
    have B := D.2
    unfold qNB at *
    rw [H5.2.1, sx_o (by omega), sx_o (by omega), sx_o (by omega), show mL (sI N5 212 (1869 + 8 * v1 + v2) (nI v3)) 214 = mL M 214 from H5.2.2]
    exact B
theorem QT.cell (C : QT N cd n s) {k : Nat} (hk : 20 ≤ k) (v : Int32) : QT (sI N 207 k v) cd n s := by
  obtain ⟨⟨a1, a2, a3, a4⟩, T, z⟩ := C
  refine ⟨⟨a1, a2, by rw [mI_f (by omega)]; exact a3, fun k hk => by rw [mI_o (by decide)]; exact a4 k hk⟩, ?_, by rw [mI_f (by omega)]; exact z⟩
  unfold TkM at *
  rw [mI_f (by omega), mI_f (by omega), mI_f (by omega), mI_f (by omega), mI_f (by omega)]
  exact T
theorem lwV_n (t : Int32) : (0 ≤ lwV t → mxI 0 (lwV t) = lwV t) ∧ (0 ≤ lwV t ↔ ¬ lwV t < 0) := by
  unfold lwV
  by_cases q1 : t = nI 2
  · rw [if_pos q1]; decide
  rw [if_neg q1]
  by_cases q2 : t = nI 15
  · rw [if_pos q2]; decide
  rw [if_neg q2]
  by_cases q3 : t = nI 16
  · rw [if_pos q3]; decide
  rw [if_neg q3]
  by_cases q4 : t = nI 17
  · rw [if_pos q4]; decide
  rw [if_neg q4]; decide
theorem q_law0 (C : QT M cd n s) (hs : tkK cd n s = 2) (h : ¬ mI M 207 24 = 0) : qOut M (f_X12_readLaw M (some 207)) cd n (.inl (fK cd n s 5)) := by
  obtain ⟨N, z1, z2, z3⟩ := q_failS C 5 (by omega) (by omega)
  have e5 : fK cd n s 5 = (5, s) := by
    unfold fK
    rw [if_neg (by omega)]
  unfold f_X12_readLaw
  rw [m_gI C.1.1, if_neg h, m_gI C.1.1, m_ck C.1.1, show (5 : Int32) = nI 5 from rfl, z1, bv_s, e5]
  unfold f_X12_readLaw_16
  rw [m_gI z3.1, if_neg (qb_le z3)]
  exact ⟨N, rfl, z2.q, z3⟩
theorem q_law (C : QT M cd n s) (D : dM M c nm) (ok : dOK c) (h : mI M 207 24 = 0) : qOut (sI M 207 24 1) (f_X12_readLaw M (some 207)) cd n (rdL cd n c nm s) := by
  have C0 := C.cell (k := 24) (by omega) 1
  obtain ⟨N1, a1, a2, C1⟩ := q_step C0
  unfold rdL f_X12_readLaw f_X12_readLaw_16
  have H2 := ((mZ.rf (sI M 207 24 1)).n a2).pI (j := 1803) (by omega) (mxI 0 (lwV (tkW cd n (nx cd n s))))
  have C2 := C1.o (r := 212) (by decide) (by decide) 1803 (mxI 0 (lwV (tkW cd n (nx cd n s))))
  rw [m_gI C.1.1, if_pos h, m_gI C.1.1, C.2.2, if_pos (by decide), pfZ_s (by rw [C.1.1.1]) (Or.inr rfl), m_ck C0.1.1, a1, bv_s, m_r20 C1.1.1, m_ck C1.1.1, q_lawWord C1.1 C1.2.1, bd_s, show (1803 : Int32) = nI 1803 from rfl, m_as C1.1.1 (by omega), m_ck C2.1.1, q_lawWord C2.1 C2.2.1, bd_s]
  obtain ⟨w1, w2⟩ := lwV_n (tkW cd n (nx cd n s))
  unfold f_X12_readLaw_62
  by_cases q : 0 ≤ lwV (tkW cd n (nx cd n s))
  · obtain ⟨N3, z1, z2, C3⟩ := q_must1 C2 (b := 1) (by decide)
    have H3 := H2.n z2
    rw [if_neg (w2.mp q), if_pos q, m_ck C2.1.1, z1, bv_s]
    have co : ∀ j, j ≠ 3 → sx c 3 (lwV (tkW cd n (nx cd n s))) j = c j := fun j hj => sx_o hj
    have hN' : hN (sx c 3 (lwV (tkW cd n (nx cd n s)))) = hN c := na_same (k := 0) (co 0 (by omega))
    have gN' : gN (sx c 3 (lwV (tkW cd n (nx cd n s)))) = gN c := na_same (k := 1) (co 1 (by omega))
    have wN' : wN (sx c 3 (lwV (tkW cd n (nx cd n s)))) = wN c := na_same (k := 2) (co 2 (by omega))
    have M212 : mI (sI M 207 24 1) 212 = mI M 212 := mI_o (by decide)
    refine ⟨_, rfl, H3.1, C3, fun j hj => ?_, ?_⟩
    · rw [H3.2.1, w1 q, M212]
      by_cases q3 : j = 3
      · rw [q3, sx_s, sx_s]
      · rw [sx_o (by omega), sx_o q3]
        exact D.1 j hj
    · rw [hN', gN', wN']
      have B := D.2
      unfold qNB at *
      rw [H3.2.1, sx_o (by omega), sx_o (by omega), sx_o (by omega), M212, H3.2.2]
      exact B
  · obtain ⟨N3, z1, z2, z3⟩ := q_must0 C2
    rw [if_pos (Decidable.byContradiction fun z => q (w2.mpr z)), if_neg q, m_ck C2.1.1, z1, bv_s]
    exact ⟨_, rfl, H2.bd z2 z3⟩
end Q
