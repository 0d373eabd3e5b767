/-! TEXTS: the reference reads a house -/
def dM (M : Mm) (c : Nat → Int32) (nm : Nat → List Nat) : Prop := (∀ k, k < 450 → mI M 212 (1800 + k) = c k) ∧ qNB M 4 nm (hN c) (gN c) (wN c)
def qOut (M : Mm) (y : Option Mm) (cd : Nat → Nat) (n : Nat) (o : Sum (Nat × Nat) (Nat × (Nat → Int32) × (Nat → List Nat))) : Prop := match o with
  | .inl e => ∃ N, y = some N ∧ qBB M N e
  | .inr (t, c, nm) => ∃ N, y = some N ∧ qFr M N ∧ QT N cd n t ∧ dM N c nm
section Q
variable {M N : Mm} {cd : Nat → Nat} {n s k : Nat} {nm : Nat → List Nat} {L : List Nat} {e : Nat × Nat} {c : Nat → Int32} {f : Nat → Int32} {x : Nat → Int64}
theorem m_as (D : mdL M) {j : Nat} (hj : j < 2250) {v : Int32} {ρ : Type} {K : Mm → Option ρ} : asI M (some 212) 21 (nI j) v K = K (sI M 212 j v) := asI_s D.2.2.2.2.2.1.2 hj (by decide)
theorem m_al (D : mdL M) {j : Nat} (hj : j < 2250) {ρ : Type} {K : Int32 → Option ρ} : alI M (some 212) 21 (nI j) K = K (mI M 212 j) := alI_s D.2.2.2.2.2.1.2 hj (by decide)
theorem qbh_194 (B : qBB M N e) {k : Nat} (hk : k < 8) (v : Int32) : ∃ N', f_X12_readHouse_194 N (some 207) (nI k) (some 212) (nI (1845 + k)) v = some N' ∧ qBB M N' e := by
  have B1 := B.pI (j := 1845 + k) (by omega) v
  refine ⟨_, ?_, B1⟩
  unfold f_X12_readHouse_194
  rw [m_as B.2.1 (by omega), m_gI B1.2.1, if_neg (qb_le B1.2)]
theorem qbh_158 (B : qBB M N e) {k : Nat} (hk : k < 8) (v : Int32) : ∃ N', f_X12_readHouse_158 N (some 207) (nI k) (some 212) (nI (1837 + k)) v = some N' ∧ qBB M N' e := by
  have B1 := B.pI (j := 1837 + k) (by omega) v
  obtain ⟨N', h1, h2⟩ := qbh_194 B1 hk 0
  refine ⟨N', ?_, h2⟩
  unfold f_X12_readHouse_158
  rw [m_as B.2.1 (by omega), m_r20 B1.2.1, m_gI B1.2.1, if_neg (qb_eq B1.2)]
  unfold f_X12_readHouse_193
  rw [show (1845 : Int32) = nI 1845 from rfl, nI_add]
  exact h1
/-- the end of a house -/
theorem qh_end (hk : hN c = k) (k7 : k < 8) (D : dM M c nm) (ok : dOK c) (oL : okN L) {v1 v2 v3 v4 v5 v6 t : Nat} (C : QT N cd n t) (h : mZ M N (sx (sx (sx (sx (sx (mI M 212) (1805 + k) (nI v1)) (1813 + k) (nI v2)) (1821 + k) (nI v3)) (1829 + k) (nI v4)) (1837 + k) (nI v5)) (sxL (mL M 214) (72 + k) (lN (n32 L)))) : ∃ N', f_X12_readHouse_194 N (some 207) (nI k) (some 212) (nI (1845 + k)) (nI v6) = some N' ∧ qFr M N' ∧ QT N' cd n t ∧ dM N' (hsC c k v1 v2 v3 v4 v5 v6) (nmU nm k L) := by
  have c0 : c 0 = nI k := by rw [← hk]; exact (ok_h ok.1).1
  have H1 := h.pI (j := 1845 + k) (by omega) (nI v6)
  have C1 := C.o (r := 212) (by decide) (by decide) (1845 + k) (nI v6)
  have e3 : mI (sI N 212 (1845 + k) (nI v6)) 212 (1821 + k) = nI v3 := by
    rw [H1.2.1, sx_o (by omega), sx_o (by omega), sx_o (by omega), sx_s]
  have H2 := (H1.pI (j := 1853 + k) (by omega) (nI v3)).pI (j := 1861 + k) (by omega) 1
  have C2 := (C1.o (r := 212) (by decide) (by decide) (1853 + k) (nI v3)).o (r := 212) (by decide) (by decide) (1861 + k) 1
  have e0 : mI (sI (sI (sI N 212 (1845 + k) (nI v6)) 212 (1853 + k) (nI v3)) 212 (1861 + k) 1) 212 1800 = nI k := by
    rw [H2.2.1, sx_o (by omega), sx_o (by omega), sx_o (by omega), sx_o (by omega), sx_o (by omega), sx_o (by omega), sx_o (by omega), sx_o (by omega)]
    exact (D.1 0 (by omega)).trans c0
  have H3 := H2.pI (j := 1800) (by omega) (nI (k + 1))
  have C3 := C2.o (r := 212) (by decide) (by decide) 1800 (nI (k + 1))
  refine ⟨_, ?_, H3.1, C3, ?_, ?_⟩
  · unfold f_X12_readHouse_194
    rw [m_as C.1.1 (by omega), m_gI C1.1.1, C1.2.2, if_pos (by decide), m_r20 C1.1.1, m_r20 C1.1.1, show (1821 : Int32) = nI 1821 from rfl, show (1853 : Int32) = nI 1853 from rfl, show (1861 : Int32) = nI 1861 from rfl, show (1800 : Int32) = nI 1800 from rfl, nI_add, nI_add, nI_add, m_al C1.1.1 (by omega), e3, m_as C1.1.1 (by omega), m_r20 (C1.o (r := 212) (by decide) (by decide) (1853 + k) (nI v3)).1.1, m_as (C1.o (r := 212) (by decide) (by decide) (1853 + k) (nI v3)).1.1 (by omega), m_r20 C2.1.1, m_al C2.1.1 (by omega), e0, nI_1, m_as C2.1.1 (by omega)]
  · intro j hj
    rw [H3.2.1]
    by_cases j0 : j = 0
    · subst j0
      rw [sx_s]
      rfl
    rw [sx_o (by omega)]
    by_cases j8 : j = 61 + k
    · rw [j8, show 1800 + (61 + k) = 1861 + k by omega, sx_s]
      unfold hsC
      rw [if_neg (by omega), if_neg (by omega), if_neg (by omega), if_neg (by omega), if_neg (by omega), if_neg (by omega), if_neg (by omega), if_neg (by omega), if_pos rfl]
    rw [sx_o (by omega)]
    by_cases j7 : j = 53 + k
    · rw [j7, show 1800 + (53 + k) = 1853 + k by omega, sx_s]
      unfold hsC
      rw [if_neg (by omega), if_neg (by omega), if_neg (by omega), if_neg (by omega), if_neg (by omega), if_neg (by omega), if_neg (by omega), if_pos rfl]
    rw [sx_o (by omega)]
    by_cases j6 : j = 45 + k
    · rw [j6, show 1800 + (45 + k) = 1845 + k by omega, sx_s]
      unfold hsC
      rw [if_neg (by omega), if_neg (by omega), if_neg (by omega), if_neg (by omega), if_neg (by omega), if_neg (by omega), if_pos rfl]
    rw [sx_o (by omega)]
    by_cases j5 : j = 37 + k
    · rw [j5, show 1800 + (37 + k) = 1837 + k by omega, sx_s]
      unfold hsC
      rw [if_neg (by omega), if_neg (by omega), if_neg (by omega), if_neg (by omega), if_neg (by omega), if_pos rfl]
    rw [sx_o (by omega)]
    by_cases j4 : j = 29 + k
    · rw [j4, show 1800 + (29 + k) = 1829 + k by omega, sx_s]
      unfold hsC
      rw [if_neg (by omega), if_neg (by omega), if_neg (by omega), if_neg (by omega), if_pos rfl]
    rw [sx_o (by omega)]
    by_cases j3 : j = 21 + k
    · rw [j3, show 1800 + (21 + k) = 1821 + k by omega, sx_s]
      unfold hsC
      rw [if_neg (by omega), if_neg (by omega), if_neg (by omega), if_pos rfl]
    rw [sx_o (by omega)]
    by_cases j2 : j = 13 + k
    · rw [j2, show 1800 + (13 + k) = 1813 + k by omega, sx_s]
      unfold hsC
      rw [if_neg (by omega), if_neg (by omega), if_pos rfl]
    rw [sx_o (by omega)]
    by_cases j1 : j = 5 + k
    · rw [j1, show 1800 + (5 + k) = 1805 + k by omega, sx_s]
      unfold hsC
      rw [if_neg (by omega), if_pos rfl]
    rw [sx_o (by omega)]
    rw [hsC_o j0 j1 j2 j3 j4 j5 j6 j7 j8]
    exact D.1 j hj
  · obtain ⟨-, ⟨B3, h8⟩, ⟨B4, g4⟩, ⟨B5, w6⟩, n1, n2, n3⟩ := D.2
    have co : ∀ j, 1 ≤ j ∧ j < 5 → hsC c k v1 v2 v3 v4 v5 v6 j = c j := fun j hj => hsC_o (by omega) (by omega) (by omega) (by omega) (by omega) (by omega) (by omega) (by omega) (by omega)
    have hN' : hN (hsC c k v1 v2 v3 v4 v5 v6) = k + 1 := na_of (k := 0) (if_pos rfl) (by omega)
    have gN' : gN (hsC c k v1 v2 v3 v4 v5 v6) = gN c := na_same (k := 1) (co 1 (by omega))
    have wN' : wN (hsC c k v1 v2 v3 v4 v5 v6) = wN c := na_same (k := 2) (co 2 (by omega))
    rw [hN', gN', wN']
    have L' : mL (sI (sI (sI (sI N 212 (1845 + k) (nI v6)) 212 (1853 + k) (nI v3)) 212 (1861 + k) 1) 212 1800 (nI (k + 1))) 214 = sxL (mL M 214) (72 + k) (lN (n32 L)) := H3.2.2
    have lo : ∀ j, j ≠ 72 + k → sxL (mL M 214) (72 + k) (lN (n32 L)) j = mL M 214 j := fun j hj => if_neg hj
    refine ⟨by omega, ⟨by rw [H3.2.1, sx_s], by omega⟩, ⟨?_, g4⟩, ⟨?_, w6⟩, fun i hi => ?_, fun i hi => ?_, fun i hi => ?_⟩
    · rw [H3.2.1, sx_o (by omega), sx_o (by omega), sx_o (by omega), sx_o (by omega), sx_o (by omega), sx_o (by omega), sx_o (by omega), sx_o (by omega), sx_o (by omega)]
      exact B4
    · rw [H3.2.1, sx_o (by omega), sx_o (by omega), sx_o (by omega), sx_o (by omega), sx_o (by omega), sx_o (by omega), sx_o (by omega), sx_o (by omega), sx_o (by omega)]
      exact B5
    · rw [L']
      by_cases ik : i = k
      · subst ik
        unfold nmU sxL
        rw [if_pos rfl, if_pos (by omega)]
        exact ⟨oL, rfl⟩
      · have z : nmU nm k L i = nm i := if_neg ik
        rw [z, lo _ (by omega)]
        exact n1 i (by omega)
    · have z : nmU nm k L (8 + i) = nm (8 + i) := if_neg (by omega)
      rw [L', z, lo _ (by omega)]
      exact n2 i hi
    · have z : nmU nm k L (12 + i) = nm (12 + i) := if_neg (by omega)
      rw [L', z, lo _ (by omega)]
      exact n3 i hi
end Q
