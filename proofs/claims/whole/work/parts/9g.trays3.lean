theorem sL_sAL (M : Mm) (a k : Nat) (v : Int64) (f : Nat → Int64) : sL (sAL M a f) a k v = sAL M a (fun j => if j = k then v else f j) := by
  unfold sL sAL
  refine congrArg (fun z => (mK M, mI M, z, mR M, mT M)) (funext fun x => funext fun j => ?_)
  by_cases e : x = a
  · subst e
    by_cases e2 : j = k <;> simp [u2, mL, e2]
  · simp [u2, mL, e]
theorem sAL_self (M : Mm) (a : Nat) : sAL M a (mL M a) = M := by
  unfold sAL
  have e : (fun x k => if x = a then mL M a k else mL M x k) = mL M := by
    funext x k
    by_cases e : x = a
    · subst e; simp
    · simp [e]
  rw [e]
  exact mm_eta M
theorem mL_sAL_s (M : Mm) (a : Nat) (f : Nat → Int64) : mL (sAL M a f) a = f := funext fun k => if_pos rfl
theorem mL_sAL_o (M : Mm) {a b : Nat} (f : Nat → Int64) (h : b ≠ a) : mL (sAL M a f) b = mL M b := funext fun k => if_neg h
theorem sAL_sAL (M : Mm) (a : Nat) (f g : Nat → Int64) : sAL (sAL M a f) a g = sAL M a g := by
  unfold sAL
  refine congrArg (fun z => (mK M, mI M, z, mR M, mT M)) (funext fun x => funext fun j => ?_)
  by_cases e : x = a <;> simp [mL, e]
section C
variable {M : Mm} {a b y z : Nat}
theorem y_lay17 (H : LL M a b y z) {t : Nat} (ht : t < 4) : f_X7_lay_17 fu M (some 4) (nI t) 0 = some (sAL M (6 + t) (fun k => if k < 60 then 0 else mL M (6 + t) k)) := by
  have key := lup0 (fun i j => f_X7_lay_17 i (sAL M (6 + t) (fun k => if k < j then 0 else mL M (6 + t) k)) (some 4) (nI t) (nI j)) 60 (some (sAL M (6 + t) (fun k => if k < 60 then 0 else mL M (6 + t) k))) (by omega) (fun i j hj => ?_) (fun i => ?_)
  · rw [show sAL M (6 + t) (fun k => if k < 0 then 0 else mL M (6 + t) k) = M from sAL_self M (6 + t)] at key
    exact key
  · have H1 : LL (sAL M (6 + t) (fun k => if k < j then 0 else mL M (6 + t) k)) a b y z := LL_same H rfl rfl rfl
    rw [f_X7_lay_17, if_neg (by rw [show (60 : Int32) = nI 60 from rfl, nI_leI' (by omega) (by omega)]; omega), y_r H1, y_rr H1 ht, y_p H1 ht hj, sL_sAL, nI_1]
    refine congrArg (fun z => f_X7_lay_17 i (sAL M (6 + t) z) (some 4) (nI t) (nI (j + 1))) (funext fun k => ?_)
    by_cases q : k = j
    · rw [if_pos q, if_pos (by omega)]
    · rw [if_neg q]
      by_cases q2 : k < j
      · rw [if_pos q2, if_pos (by omega)]
      · rw [if_neg q2, if_neg (by omega)]
  · rw [f_X7_lay_17, if_pos (by decide)]
theorem n_zero (D : mdL M) {t n : Nat} (ht : t < 4) (hn : n ≤ 60) : f_X12_tray_74 fu M (some 207) (nI t) (nI n) 0 = some (1, sAL M 210 (fun q => if 60 * t ≤ q ∧ q < 60 * t + n then 0 else mL M 210 q)) := by
  have key := lup0 (fun i j => f_X12_tray_74 i (sAL M 210 (fun q => if 60 * t ≤ q ∧ q < 60 * t + j then 0 else mL M 210 q)) (some 207) (nI t) (nI n) (nI j)) n (some (1, sAL M 210 (fun q => if 60 * t ≤ q ∧ q < 60 * t + n then 0 else mL M 210 q))) (by omega) (fun i j hj => ?_) (fun i => ?_)
  · rw [show (fun q => if 60 * t ≤ q ∧ q < 60 * t + 0 then 0 else mL M 210 q) = mL M 210 from funext fun q => if_neg (by omega), sAL_self] at key
    exact key
  · have D1 : mdL (sAL M 210 (fun q => if 60 * t ≤ q ∧ q < 60 * t + j then 0 else mL M 210 q)) := D
    rw [f_X12_tray_74, if_neg (by rw [nI_leI' (by omega) (by omega)]; omega), m_r6 D1]
    simp (disch := omega) only [i2, i3, i4, i5, i13, i21, i29, i37, i45, i53, i61, i69, i133, i137, i141, i145, i149, i153, i157, i161, i167, i4m, i6m, i8m, i9m, i18m, i60m, i256m, i450m, nI_add]
    rw [n_p D1 (by omega), sL_sAL, nI_1]
    refine congrArg (fun z => f_X12_tray_74 i (sAL M 210 z) (some 207) (nI t) (nI n) (nI (j + 1))) (funext fun k => ?_)
    by_cases q : k = 60 * t + j
    · rw [if_pos q, if_pos (by omega)]
    · rw [if_neg q]
      by_cases q2 : 60 * t ≤ k ∧ k < 60 * t + j
      · rw [if_pos q2, if_pos (by omega)]
      · rw [if_neg q2, if_neg (by omega)]
  · rw [f_X12_tray_74, if_pos (Int32.le_refl _)]
end C
theorem op_tray (x s n : Int32) : opI (fun M => f_X11_tray M (some 0) x s n) (fun M => f_X12_tray M (some 207) x s n) := by
  intro M hR
  dsimp only
  obtain ⟨a, b, y, z, H⟩ := id hR
  have hL := H.1
  have hT := H.2.2.2.2.2.2.2.1
  have no1 : (¬ (0 ≤ x ∧ x < 4) ∨ ¬ (0 ≤ s ∧ s ≤ 3)) → ∃ r M1 M2, f_X11_tray M (some 0) x s n = some (r, M1) ∧ f_X12_tray M1 (some 207) x s n = some (r, M2) ∧ RR M2 := fun q => by
    refine ⟨0, sI M 0 0 1, _, ?_, ?_, RR_st hR 1⟩
    · unfold f_X11_tray g_X11_tray
      rw [c_ty hL, y_ck hL, y_has, bd_s]
      by_cases q1 : 0 ≤ x ∧ x < 4
      · rw [if_pos q1, if_neg (by decide), q_within, bd_s, if_neg (show ¬ (0 ≤ s ∧ s ≤ 3) from fun z => by rcases q with q | q; exact q q1; exact q z), if_pos rfl, f_X11_tray_20, c_ck hL, c_no hL, bd_s, zc0]
      · rw [if_neg q1, if_pos rfl, f_X11_tray_20, c_ck hL, c_no hL, bd_s, zc0]
    · have D := pre_md hL 1
      unfold f_X12_tray g_X12_tray
      rw [m_pre hL]
      have e : ∀ X : Option (Int32 × Mm), zc (f_X12_tray_28 (pre M 1) (some 207)) = some (0, stM M 1) := fun _ => by
        rw [f_X12_tray_28, m_ck D.1, m_no hL, bd_s, zc0]
        rfl
      by_cases q1 : x < 0
      · rw [if_pos q1]; exact e none
      · rw [if_neg q1]
        by_cases q2 : 4 ≤ x
        · rw [if_pos q2]; exact e none
        · rw [if_neg q2]
          by_cases q3 : s < 0
          · rw [if_pos q3]; exact e none
          · rw [if_neg q3, if_neg (fun z => by rcases q with q | q; exact q ⟨Int32.not_lt.mp q1, Int32.not_le.mp q2⟩; exact q ⟨Int32.not_lt.mp q3, z⟩)]
            exact e none
  by_cases q1 : 0 ≤ x ∧ x < 4
  · by_cases q2 : 0 ≤ s ∧ s ≤ 3
    · have x1 : ¬ x < 0 := Int32.not_lt.mpr q1.1
      have x2 : ¬ 4 ≤ x := Int32.not_le.mpr q1.2
      have x3 : ¬ s < 0 := Int32.not_lt.mpr q2.1
      by_cases q3 : n ≤ 60
      · by_cases q4 : 0 ≤ n
        · obtain ⟨t, ht, rfl⟩ := tIx q1
          obtain ⟨m, hm, rfl⟩ := rng (n := 60) (by decide) ⟨q4, q3⟩
          have hL1 : LL (sI (sI M 10 t s) 11 t (nI m)) a b y z := LL_same hL rfl rfl rfl
          have hL0 : LL (sI M 10 t s) a b y z := LL_same hL rfl rfl rfl
          have l17 := y_lay17 hL1 ht
          have c1 : f_X7_lay M (some 4) (nI t) s (nI m) = f_X7_lay_17 fu (sI (sI M 10 t s) 11 t (nI m)) (some 4) (nI t) 0 := by
            unfold f_X7_lay
            rw [y_s hL, y_ps hL ht, y_l hL0, y_pl hL0 ht]
          rw [l17] at c1
          obtain ⟨N, hN⟩ : ∃ N, sAL (sI (sI M 10 t s) 11 t (nI m)) (6 + t) (fun k => if k < 60 then 0 else mL (sI (sI M 10 t s) 11 t (nI m)) (6 + t) k) = N := ⟨_, rfl⟩
          have hLN : LL N a b y z := by rw [← hN]; exact LL_same hL rfl rfl rfl
          have nK : mK N = mK M := by rw [← hN]; rfl
          have nR : mR N = mR M := by rw [← hN]; rfl
          have nT : mT N = mT M := by rw [← hN]; rfl
          have nI10 : ∀ x j, mI N x j = if x = 11 ∧ j = t then nI m else if x = 10 ∧ j = t then s else mI M x j := fun x j => by rw [← hN]; rfl
          have nLo : ∀ x, x ≠ 6 + t → mL N x = mL M x := fun x hx => by rw [← hN, mL_sAL_o _ _ hx]; rfl
          have nLs : ∀ k, k < 60 → mL N (6 + t) k = 0 := fun k hk => by rw [← hN, mL_sAL_s]; exact if_pos hk
          rw [hN] at c1
          have D0 := pre_md hLN 0
          have DP : mdL (pre N 0) := D0.1
          have pI : ∀ x, x ≠ 0 → x ≠ 207 → mI (pre N 0) x = mI N x := fun x h1 h2 => by unfold pre; rw [mI_o h2, mI_o h2, mI_o h1]
          have pI0 : ∀ k, k ≠ 0 → mI (pre N 0) 0 k = mI N 0 k := fun k hk => by unfold pre; rw [mI_o (by decide), mI_o (by decide), mI_f hk]
          have pI7 : ∀ k, k ≠ 0 → k ≠ 1 → mI (pre N 0) 207 k = mI N 207 k := fun k hk h1 => by unfold pre; rw [mI_f hk, mI_f h1, mI_o (by decide)]
          have ps0 : mI (pre N 0) 0 0 = 0 := by unfold pre; rw [mI_o (by decide), mI_o (by decide), mI_sI_s]
          have ps7 : mI (pre N 0) 207 0 = 0 := by unfold pre; rw [mI_sI_s]
          have pL : mL (pre N 0) = mL N := rfl
          have pK : mK (pre N 0) = mK N := rfl
          have pR : mR (pre N 0) = mR N := rfl
          have pT : mT (pre N 0) = mT N := rfl
          have mp : ∀ K : Mm → Option (Int32 × Mm), (pfI (sI N 0 0 0) (some 207) 12 1 0 fun M2 => pfI M2 (some 207) 12 0 0 K) = K (pre N 0) := fun K => m_pre hLN 0
          obtain ⟨P, hP⟩ : ∃ P, pre N 0 = P := ⟨_, rfl⟩
          rw [hP] at DP ps0 ps7 pL pK pR pT
          simp only [hP] at pI pI0 pI7 mp
          have DQ : mdL (sI (sI P 208 t s) 209 t (nI m)) := DP
          have DQ0 : mdL (sI P 208 t s) := DP
          have nz := n_zero DQ ht hm
          obtain ⟨Q, hQ⟩ : ∃ Q, sAL (sI (sI P 208 t s) 209 t (nI m)) 210 (fun q => if 60 * t ≤ q ∧ q < 60 * t + m then 0 else mL (sI (sI P 208 t s) 209 t (nI m)) 210 q) = Q := ⟨_, rfl⟩
          rw [hQ] at nz
          have qK : mK Q = mK P := by rw [← hQ]; rfl
          have qR : mR Q = mR P := by rw [← hQ]; rfl
          have qT : mT Q = mT P := by rw [← hQ]; rfl
          have qI : ∀ x j, mI Q x j = if x = 209 ∧ j = t then nI m else if x = 208 ∧ j = t then s else mI P x j := fun x j => by rw [← hQ]; rfl
          have qLo : ∀ x, x ≠ 210 → mL Q x = mL P x := fun x hx => by rw [← hQ, mL_sAL_o _ _ hx]; rfl
          have qLs : ∀ k, mL Q 210 k = if 60 * t ≤ k ∧ k < 60 * t + m then 0 else mL P 210 k := fun k => by rw [← hQ, mL_sAL_s]; rfl
          refine ⟨1, sI N 0 0 0, Q, ?_, ?_, a, b, y, z, RA_ty H (by rw [qK, pK, nK]) (by rw [qR, pR, nR]) (by rw [qT, pT, nT]) (fun x h1 h2 h3 h4 h5 h6 => funext fun j => ?_) (fun k hk => ?_) (fun k hk => ?_) ?_ (fun x h1 h2 => ?_) (fun t' ht' => ?_)⟩
          · unfold f_X11_tray g_X11_tray
            rw [c_ty hL, y_ck hL, y_has, bd_s, if_pos q1, if_neg (by decide), q_within, bd_s, if_pos q2, if_neg (by decide), if_pos q3, if_pos q4, c_ty hL, y_ck hL, c1, bv_s, c_ck hLN, c_yes hLN, bd_s, zc1]
          · unfold f_X12_tray g_X12_tray
            rw [mp, if_neg x1, if_neg x2, if_neg x3, if_pos q2.2, if_pos q3, if_pos q4, m_r4 DP, n_ps DP ht, m_r5 DQ0, n_pl DQ0 ht, nz, zc1]
          · rw [qI, if_neg (by omega), if_neg (by omega), pI x h1 h2, nI10, if_neg (by omega), if_neg (by omega)]
          · rw [qI, if_neg (by omega), if_neg (by omega), pI0 k hk, nI10, if_neg (by omega), if_neg (by omega)]
          · rw [qI, if_neg (by omega), if_neg (by omega), pI7 k (by omega) (by omega), nI10, if_neg (by omega), if_neg (by omega)]
          · rw [qI, if_neg (by omega), if_neg (by omega), qI, if_neg (by omega), if_neg (by omega), ps0, ps7]
          · rw [qLo x h2, pL, nLo x (by omega)]
          · have f11 : mI Q 11 t' = if t' = t then nI m else mI M 11 t' := by
              rw [qI, if_neg (by omega), if_neg (by omega), pI 11 (by decide) (by decide), nI10]
              by_cases q : t' = t
              · rw [if_pos ⟨rfl, q⟩, if_pos q]
              · rw [if_neg (fun z => q z.2), if_neg (by omega), if_neg q]
            have f209 : mI Q 209 t' = if t' = t then nI m else mI M 209 t' := by
              rw [qI]
              by_cases q : t' = t
              · rw [if_pos ⟨rfl, q⟩, if_pos q]
              · rw [if_neg (fun z => q z.2), if_neg (by omega), if_neg q, pI 209 (by decide) (by decide), nI10, if_neg (by omega), if_neg (by omega)]
            have f10 : mI Q 10 t' = if t' = t then s else mI M 10 t' := by
              rw [qI, if_neg (by omega), if_neg (by omega), pI 10 (by decide) (by decide), nI10, if_neg (by omega)]
              by_cases q : t' = t
              · rw [if_pos ⟨rfl, q⟩, if_pos q]
              · rw [if_neg (fun z => q z.2), if_neg q]
            have f208 : mI Q 208 t' = if t' = t then s else mI M 208 t' := by
              rw [qI, if_neg (by omega)]
              by_cases q : t' = t
              · rw [if_pos ⟨rfl, q⟩, if_pos q]
              · rw [if_neg (fun z => q z.2), if_neg q, pI 208 (by decide) (by decide), nI10, if_neg (by omega), if_neg (by omega)]
            rw [f11, f209, f10, f208]
            by_cases q : t' = t
            · subst q
              rw [if_pos rfl, if_pos rfl, if_pos rfl, if_pos rfl]
              refine Or.inr ⟨m, hm, rfl, rfl, rfl, fun k hk => ?_⟩
              rw [qLo _ (by omega), pL, nLs k (by omega), qLs, if_pos (by omega)]
            · rw [if_neg q, if_neg q, if_neg q, if_neg q]
              rcases hT t' ht' with h | ⟨n', g1, g2, g3, g4, g5⟩
              · exact Or.inl h
              · refine Or.inr ⟨n', g1, g2, g3, g4, fun k hk => ?_⟩
                rw [qLo _ (by omega), pL, nLo _ (by omega), qLs, if_neg (by omega), pL, nLo _ (by omega), g5 k hk]
        · refine ⟨0, sI M 0 0 6, _, ?_, ?_, RR_st hR 6⟩
          · unfold f_X11_tray g_X11_tray
            rw [c_ty hL, y_ck hL, y_has, bd_s, if_pos q1, if_neg (by decide), q_within, bd_s, if_pos q2, if_neg (by decide), if_pos q3, if_neg q4, c_ck hL, c_no hL, bd_s, zc0]
          · have D := pre_md hL 6
            unfold f_X12_tray g_X12_tray
            rw [m_pre hL, if_neg x1, if_neg x2, if_neg x3, if_pos q2.2, if_pos q3, if_neg q4, m_ck D.1, m_no hL, bd_s, zc0]
            rfl
      · refine ⟨0, sI M 0 0 5, _, ?_, ?_, RR_st hR 5⟩
        · unfold f_X11_tray g_X11_tray
          rw [c_ty hL, y_ck hL, y_has, bd_s, if_pos q1, if_neg (by decide), q_within, bd_s, if_pos q2, if_neg (by decide), if_neg q3, c_ck hL, c_no hL, bd_s, zc0]
        · have D := pre_md hL 5
          unfold f_X12_tray g_X12_tray
          rw [m_pre hL, if_neg x1, if_neg x2, if_neg x3, if_pos q2.2, if_neg q3, m_ck D.1, m_no hL, bd_s, zc0]
          rfl
    · exact no1 (Or.inr q2)
  · exact no1 (Or.inl q1)
