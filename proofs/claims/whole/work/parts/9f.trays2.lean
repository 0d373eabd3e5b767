section C
variable {M : Mm} {a b y z : Nat}
theorem y_put (H : LL M a b y z) {t k : Nat} (ht : t < 4) (hk : k < 60) (v : Int64) : f_X7_put M (some 4) (nI t) (nI k) v = some (sL M (6 + t) k (cutV (mI M 10 t) v)) := by
  unfold f_X7_put cutV
  rw [y_s H, y_gs H ht]
  by_cases q0 : mI M 10 t = 0
  · rw [if_pos q0, if_pos q0, y_r H, y_rr H ht, y_p H ht hk]
  · rw [if_neg q0, if_neg q0]
    by_cases q1 : mI M 10 t = 1
    · rw [if_pos q1, if_pos q1, y_r H, y_rr H ht, y_p H ht hk]
    · rw [if_neg q1, if_neg q1]
      by_cases q2 : mI M 10 t = 2
      · rw [if_pos q2, if_pos q2, y_r H, y_rr H ht, y_p H ht hk]
      · rw [if_neg q2, if_neg q2, y_r H, y_rr H ht, y_p H ht hk]
theorem n_cut (M : Mm) (s : Int32) (v : Int64) : f_X12_cut M s v = some (cutV s v, M) := by
  unfold f_X12_cut cutV
  by_cases q0 : s = 0
  · rw [if_pos q0, if_pos q0]
  · rw [if_neg q0, if_neg q0]
    by_cases q1 : s = 1
    · rw [if_pos q1, if_pos q1]
    · rw [if_neg q1, if_neg q1]
      by_cases q2 : s = 2
      · rw [if_pos q2, if_pos q2]
      · rw [if_neg q2, if_neg q2]
end C
theorem op_write (x p : Int32) (v : Int64) : opI (fun M => f_X11_write M (some 0) x p v) (fun M => f_X12_write M (some 207) x p v) := by
  intro M hR
  dsimp only
  obtain ⟨a, b, y, z, H⟩ := id hR
  have hL := H.1
  have hT := H.2.2.2.2.2.2.2.1
  obtain ⟨w, hw⟩ : ∃ w, (if 0 ≤ x ∧ x < 4 then (if 0 ≤ mI M 209 x.toNatClampNeg then (if 0 ≤ p ∧ p < mI M 209 x.toNatClampNeg then (0 : Int32) else 4) else 3) else 1) = w := ⟨_, rfl⟩
  have hc := y_why hL x p 1
  rw [why_eq hT, hw] at hc
  by_cases q : w = 0
  · subst q
    obtain ⟨t, n, k, ht, hn, hk, rfl, rfl, l1, l2, l3, l4⟩ := why_ok hT hw
    obtain ⟨v', hv⟩ : ∃ v', cutV (mI M 10 t) v = v' := ⟨_, rfl⟩
    have hL1 : LL (sL M (6 + t) k v') a b y z := LL_same hL rfl rfl rfl
    have nI1 : mI (sL M (6 + t) k v') = mI M := rfl
    have nL1 : ∀ x j, mL (sL M (6 + t) k v') x j = if x = 6 + t ∧ j = k then v' else mL M x j := fun x j => rfl
    have nK1 : mK (sL M (6 + t) k v') = mK M := rfl
    have nR1 : mR (sL M (6 + t) k v') = mR M := rfl
    have nT1 : mT (sL M (6 + t) k v') = mT M := rfl
    have cp := y_put hL ht (show k < 60 by omega) v
    rw [hv] at cp
    obtain ⟨N, hN⟩ : ∃ N, sL M (6 + t) k v' = N := ⟨_, rfl⟩
    rw [hN] at hL1 nI1 nK1 nR1 nT1 cp
    simp only [hN] at nL1
    have D0 : mdL (sI (sI N 0 0 0) 207 1 0) := hL1.2.2.1
    have D1 : mdL (sI (sI (sI N 0 0 0) 207 1 0) 207 0 0) := hL1.2.2.1
    have e1 : ∀ x, x ≠ 0 → x ≠ 207 → mI (sI (sI (sI N 0 0 0) 207 1 0) 207 0 0) x = mI M x := fun x h1 h2 => by
      rw [mI_o h2, mI_o h2, mI_o h1, nI1]
    have e4 : mL (sI (sI (sI N 0 0 0) 207 1 0) 207 0 0) = mL N := rfl
    have eL : ∀ x j, mL (sL (sI (sI (sI N 0 0 0) 207 1 0) 207 0 0) 210 (60 * t + k) v') x j = if x = 210 ∧ j = 60 * t + k then v' else mL N x j := fun x j => rfl
    refine ⟨1, sI N 0 0 0, sL (sI (sI (sI N 0 0 0) 207 1 0) 207 0 0) 210 (60 * t + k) v', ?_, ?_, a, b, y, z, RA_ty H nK1 nR1 nT1 (fun x h1 h2 _ _ _ _ => e1 x h1 h2) (fun j hj => ?_) (fun j hj => ?_) ?_ (fun x h1 h2 => funext fun j => ?_) (fun t' ht' => ?_)⟩
    · unfold f_X11_write g_X11_write
      rw [c_ty hL, y_ck hL, hc, bd_s, if_pos rfl, c_ty hL, y_ck hL, cp, bv_s, c_ck hL1, c_yes hL1, bd_s, zc1]
    · unfold f_X12_write g_X12_write
      rw [m_pI (M := sI N 0 0 0) hL1.2.2.1, m_ck D0, n_placed D0, mI_o (by decide), mI_o (by decide), nI1, hw, bd_s, m_pI D0, m_gI D1, mI_sI_s, if_pos (by decide), m_r6 D1, m_r4 D1, n_s D1 ht, n_cut, bd_s, e1 208 (by decide) (by decide), ← l3, hv]
      simp (disch := omega) only [i2, i3, i4, i5, i13, i21, i29, i37, i45, i53, i61, i69, i133, i137, i141, i145, i149, i153, i157, i161, i167, i4m, i6m, i8m, i9m, i18m, i60m, i256m, i450m, nI_add]
      rw [n_p D1 (by omega), zc1]
    · show mI (sI (sI (sI N 0 0 0) 207 1 0) 207 0 0) 0 j = _
      rw [mI_o (by decide), mI_o (by decide), mI_f hj, nI1]
    · show mI (sI (sI (sI N 0 0 0) 207 1 0) 207 0 0) 207 j = _
      rw [mI_f (by omega), mI_f (by omega), mI_o (by decide), nI1]
    · show mI (sI (sI (sI N 0 0 0) 207 1 0) 207 0 0) 0 0 = mI (sI (sI (sI N 0 0 0) 207 1 0) 207 0 0) 207 0
      rw [mI_sI_s, mI_o (by decide), mI_o (by decide), mI_sI_s]
    · rw [eL, if_neg (fun z => h2 z.1), nL1, if_neg (by omega)]
    · show (mI (sI (sI (sI N 0 0 0) 207 1 0) 207 0 0) 11 t' = -1 ∧ mI (sI (sI (sI N 0 0 0) 207 1 0) 207 0 0) 209 t' = -1) ∨ ∃ n, n ≤ 60 ∧ mI (sI (sI (sI N 0 0 0) 207 1 0) 207 0 0) 11 t' = nI n ∧ mI (sI (sI (sI N 0 0 0) 207 1 0) 207 0 0) 209 t' = nI n ∧ mI (sI (sI (sI N 0 0 0) 207 1 0) 207 0 0) 10 t' = mI (sI (sI (sI N 0 0 0) 207 1 0) 207 0 0) 208 t' ∧ ∀ j, j < n → mL (sL (sI (sI (sI N 0 0 0) 207 1 0) 207 0 0) 210 (60 * t + k) v') (6 + t') j = mL (sL (sI (sI (sI N 0 0 0) 207 1 0) 207 0 0) 210 (60 * t + k) v') 210 (60 * t' + j)
      rw [e1 11 (by decide) (by decide), e1 209 (by decide) (by decide), e1 10 (by decide) (by decide), e1 208 (by decide) (by decide)]
      rcases hT t' ht' with h | ⟨n', g1, g2, g3, g4, g5⟩
      · exact Or.inl h
      · refine Or.inr ⟨n', g1, g2, g3, g4, fun j hj => ?_⟩
        rw [eL, eL, if_neg (by omega), nL1, nL1]
        by_cases q : t' = t ∧ j = k
        · rw [if_pos ⟨by omega, q.2⟩, if_pos ⟨rfl, by omega⟩]
        · rw [if_neg (by omega), if_neg (by omega), if_neg (by omega), g5 j hj]
  · have q2 : ¬ w ≤ 0 := by
      rw [← hw] at q ⊢
      split at q
      · split at q
        · split at q
          · exact absurd rfl q
          · rw [if_pos ‹_›, if_pos ‹_›, if_neg ‹_›]; decide
        · rw [if_pos ‹_›, if_neg ‹_›]; decide
      · rw [if_neg ‹_›]; decide
    have D0 : mdL (sI (sI M 0 0 w) 207 1 0) := hL.2.2.1
    have D1 : mdL (sI (sI (sI M 0 0 w) 207 1 0) 207 0 w) := hL.2.2.1
    refine ⟨0, sI M 0 0 w, _, ?_, ?_, RR_st hR w⟩
    · unfold f_X11_write g_X11_write
      rw [c_ty hL, y_ck hL, hc, bd_s, if_neg q, c_ck hL, c_no hL, bd_s, zc0]
    · unfold f_X12_write g_X12_write
      rw [m_pI (M := sI M 0 0 w) hL.2.2.1, m_ck D0, n_placed D0, mI_o (by decide), mI_o (by decide), hw, bd_s, m_pI D0, m_gI D1, mI_sI_s, if_neg q2, zc0]
      rfl
