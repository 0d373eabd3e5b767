/-! SCORES -/
section C
variable {M : Mm} {a b y z : Nat}
theorem lt4 {x : Int32} : (0 ≤ x ∧ x ≤ 3) ↔ (0 ≤ x ∧ x < 4) := by
  have : x ≤ 3 ↔ x < 4 := by
    rw [Int32.le_iff_toInt_le, Int32.lt_iff_toInt_lt]
    have h3 : (3 : Int32).toInt = 3 := by decide
    have h4 : (4 : Int32).toInt = 4 := by decide
    omega
  rw [this]
theorem n_isTray (x : Int32) : f_X12_isTray M (some 207) x = some (if 0 ≤ x ∧ x < 4 then 1 else 0, M) := by
  unfold f_X12_isTray g_X12_isTray
  rw [q_isIn, bd_s]
  simp only [j0, u3, lt4]
  exact zc_v ite01
theorem y_within (H : LL M a b y z) {t n : Nat} (ht : t < 4) (hn : n ≤ 60) (w : Int32) : f_X7_areWithin M (some 4) (nI t) (nI n) w = some (if ∀ k, k < n → 0 ≤ mL M (6 + t) k ∧ mL M (6 + t) k ≤ Int32.toInt64 w then 1 else 0, M) := by
  unfold f_X7_areWithin g_X7_areWithin
  have step : ∀ f k, k < n → (0 ≤ mL M (6 + t) k ∧ mL M (6 + t) k ≤ Int32.toInt64 w) → f_X7_areWithin_3 (f + 1) M (some 4) (nI t) (nI n) w (nI k) = f_X7_areWithin_3 f M (some 4) (nI t) (nI n) w (nI (k + 1)) := fun f k hk h => by
    rw [f_X7_areWithin_3, if_neg (by rw [nI_leI' (by omega) (by omega)]; omega), y_r H, y_rr H ht, y_g H ht (by omega), if_neg (fun z => absurd h.1 (Int64.not_le.mpr ((lg_cmp_lt _ _).mp z))), y_r H, y_rr H ht, y_g H ht (by omega), if_pos ((lg_cmp_le _ _).mpr h.2), nI_1]
  by_cases q : ∀ k, k < n → 0 ≤ mL M (6 + t) k ∧ mL M (6 + t) k ≤ Int32.toInt64 w
  · rw [if_pos q]
    rw [show f_X7_areWithin_3 fu M (some 4) (nI t) (nI n) w 0 = some (1, M) from lup0 (fun f k => f_X7_areWithin_3 f M (some 4) (nI t) (nI n) w (nI k)) n _ (by omega) (fun f k hk => step f k hk (q k hk)) (fun f => by rw [f_X7_areWithin_3, if_pos (Int32.le_refl _)]), zc1]
  · rw [if_neg q]
    obtain ⟨j, ⟨j1, j2⟩, j3⟩ := pk_least (fun k => k < n ∧ ¬ (0 ≤ mL M (6 + t) k ∧ mL M (6 + t) k ≤ Int32.toInt64 w)) (Classical.byContradiction fun hn => q fun k hk => Classical.byContradiction fun hh => hn ⟨k, hk, hh⟩)
    rw [show f_X7_areWithin_3 fu M (some 4) (nI t) (nI n) w 0 = some (0, M) from lup0 (fun f k => f_X7_areWithin_3 f M (some 4) (nI t) (nI n) w (nI k)) j _ (by omega) (fun f k hk => step f k (by omega) (Classical.byContradiction fun hh => j3 k hk ⟨by omega, hh⟩)) (fun f => by
      rw [f_X7_areWithin_3, if_neg (by rw [nI_leI' (by omega) (by omega)]; omega), y_r H, y_rr H ht, y_g H ht (by omega)]
      by_cases z : lg_cmp (mL M (6 + t) j) 0 < 0
      · rw [if_pos z]
      · rw [if_neg z, y_r H, y_rr H ht, y_g H ht (by omega), if_neg (fun z2 => j2 ⟨Int64.not_lt.mp (fun w => z ((lg_cmp_lt _ _).mpr w)), (lg_cmp_le _ _).mp z2⟩)]), zc0]
theorem n_num (D : mdL M) {t k : Nat} (ht : t < 4) (hk : k < 60) : f_X12_numberOf M (some 207) (nI t) (nI k) = some (mL M 210 (60 * t + k), M) := by
  unfold f_X12_numberOf
  rw [m_r6 D]
  simp (disch := omega) only [i2, i3, i4, i5, i13, i21, i29, i37, i45, i53, i61, i69, i133, i137, i141, i145, i149, i153, i157, i161, i167, i4m, i6m, i8m, i9m, i18m, i60m, i256m, i450m, nI_add]
  rw [n_g D (by omega)]
theorem n_why77 (D : mdL M) {t u n : Nat} (ht : t < 4) (hu : u < 4) (hn : n ≤ 60) : f_X12_whyNoScore_77 fu M (some 207) (nI t) (nI u) (nI n) 0 = some (if ∀ k, k < n → (0 ≤ mL M 210 (60 * t + k) ∧ mL M 210 (60 * t + k) ≤ 100) ∧ (0 ≤ mL M 210 (60 * u + k) ∧ mL M 210 (60 * u + k) ≤ 1) then 0 else 5, M) := by
  have step : ∀ f k, k < n → ((0 ≤ mL M 210 (60 * t + k) ∧ mL M 210 (60 * t + k) ≤ 100) ∧ (0 ≤ mL M 210 (60 * u + k) ∧ mL M 210 (60 * u + k) ≤ 1)) → f_X12_whyNoScore_77 (f + 1) M (some 207) (nI t) (nI u) (nI n) (nI k) = f_X12_whyNoScore_77 f M (some 207) (nI t) (nI u) (nI n) (nI (k + 1)) := fun f k hk h => by
    rw [f_X12_whyNoScore_77, if_neg (by rw [nI_leI' (by omega) (by omega)]; omega), m_ck D, n_num D ht (by omega), bd_s, q_isIn, bd_s, if_pos h.1, if_neg (by decide), m_ck D, n_num D hu (by omega), bd_s, q_isIn, bd_s, if_pos h.2, if_neg (by decide), nI_1]
  by_cases q : ∀ k, k < n → (0 ≤ mL M 210 (60 * t + k) ∧ mL M 210 (60 * t + k) ≤ 100) ∧ (0 ≤ mL M 210 (60 * u + k) ∧ mL M 210 (60 * u + k) ≤ 1)
  · rw [if_pos q]
    exact lup0 (fun f k => f_X12_whyNoScore_77 f M (some 207) (nI t) (nI u) (nI n) (nI k)) n _ (by omega) (fun f k hk => step f k hk (q k hk)) (fun f => by rw [f_X12_whyNoScore_77, if_pos (Int32.le_refl _)])
  · rw [if_neg q]
    obtain ⟨j, ⟨j1, j2⟩, j3⟩ := pk_least (fun k => k < n ∧ ¬ ((0 ≤ mL M 210 (60 * t + k) ∧ mL M 210 (60 * t + k) ≤ 100) ∧ (0 ≤ mL M 210 (60 * u + k) ∧ mL M 210 (60 * u + k) ≤ 1))) (Classical.byContradiction fun hn => q fun k hk => Classical.byContradiction fun hh => hn ⟨k, hk, hh⟩)
    refine lup0 (fun f k => f_X12_whyNoScore_77 f M (some 207) (nI t) (nI u) (nI n) (nI k)) j _ (by omega) (fun f k hk => step f k (by omega) (Classical.byContradiction fun hh => j3 k hk ⟨by omega, hh⟩)) (fun f => ?_)
    rw [f_X12_whyNoScore_77, if_neg (by rw [nI_leI' (by omega) (by omega)]; omega), m_ck D, n_num D ht (by omega), bd_s, q_isIn, bd_s]
    by_cases z : 0 ≤ mL M 210 (60 * t + j) ∧ mL M 210 (60 * t + j) ≤ 100
    · rw [if_pos z, if_neg (by decide), m_ck D, n_num D hu (by omega), bd_s, q_isIn, bd_s, if_neg (fun z2 => j2 ⟨z, z2⟩), if_pos rfl]
    · rw [if_neg z, if_pos rfl]
end C
/-- why there is no score: both say the same -/
theorem score_why {M : Mm} {a b y z : Nat} (H : LL M a b y z) (hT : rTy M) (x u n : Int32) : ∃ w : Int32, f_X11_whyNoScore M (some 0) x u n = some (w, M) ∧ (∀ s, f_X12_whyNoScore (sI (sI M 0 0 s) 207 1 0) (some 207) x u n = some (w, sI (sI M 0 0 s) 207 1 0)) ∧ ((w = 0 ∧ ∃ t v m, t < 4 ∧ v < 4 ∧ 1 ≤ m ∧ m ≤ 60 ∧ x = nI t ∧ u = nI v ∧ n = nI m ∧ (∀ k, k < m → mL M (6 + t) k = mL M 210 (60 * t + k)) ∧ ∀ k, k < m → mL M (6 + v) k = mL M 210 (60 * v + k)) ∨ (¬ w = 0 ∧ ¬ w ≤ 0)) := by
  have D : ∀ s, mdL (sI (sI M 0 0 s) 207 1 0) := fun s => H.2.2.1
  have e9 : ∀ s, mI (sI (sI M 0 0 s) 207 1 0) 209 = mI M 209 := fun s => by rw [mI_o (by decide), mI_o (by decide)]
  have eL : ∀ s, mL (sI (sI M 0 0 s) 207 1 0) = mL M := fun s => rfl
  by_cases q1 : 0 ≤ x ∧ x < 4
  · by_cases q2 : 0 ≤ u ∧ u < 4
    · obtain ⟨t, ht, rfl⟩ := tIx q1
      obtain ⟨v, hv, rfl⟩ := tIx q2
      rcases hT t ht with ⟨h, h'⟩ | ⟨n1, g1, g2, g3, g4, g5⟩
      · refine ⟨3, ?_, fun s => ?_, Or.inr ⟨by decide, by decide⟩⟩
        · unfold f_X11_whyNoScore
          rw [c_ty H, y_ck H, y_has, bd_s, if_pos q1, if_neg (by decide), c_ty H, y_ck H, y_has, bd_s, if_pos q2, if_neg (by decide), c_ty H, y_ck H, y_miss H ht, bd_s, if_pos h, if_neg (by decide)]
        · unfold f_X12_whyNoScore
          rw [m_ck (D s), n_isTray, bd_s, if_pos q1, if_neg (by decide), m_ck (D s), n_isTray, bd_s, if_pos q2, if_neg (by decide), m_r5 (D s), n_l (D s) ht, e9, h', if_pos (by decide)]
      · have a1 : ¬ mI M 11 t = -1 := by rw [g2]; exact neg1_ne (by omega)
        have b1 : ¬ mI M 209 t < 0 := by rw [g3]; exact nI_pos (by omega)
        rcases hT v hv with ⟨h, h'⟩ | ⟨n2, k1, k2, k3, k4, k5⟩
        · refine ⟨3, ?_, fun s => ?_, Or.inr ⟨by decide, by decide⟩⟩
          · unfold f_X11_whyNoScore
            rw [c_ty H, y_ck H, y_has, bd_s, if_pos q1, if_neg (by decide), c_ty H, y_ck H, y_has, bd_s, if_pos q2, if_neg (by decide), c_ty H, y_ck H, y_miss H ht, bd_s, if_neg a1, if_pos rfl, c_ty H, y_ck H, y_miss H hv, bd_s, if_pos h, if_neg (by decide)]
          · unfold f_X12_whyNoScore
            rw [m_ck (D s), n_isTray, bd_s, if_pos q1, if_neg (by decide), m_ck (D s), n_isTray, bd_s, if_pos q2, if_neg (by decide), m_r5 (D s), n_l (D s) ht, e9, if_neg b1, m_r5 (D s), n_l (D s) hv, e9, h', if_neg (by decide)]
        · have a2 : ¬ mI M 11 v = -1 := by rw [k2]; exact neg1_ne (by omega)
          have b2 : 0 ≤ mI M 209 v := by rw [k3]; exact nI_pos' (by omega)
          by_cases q3 : nI n1 < n
          · refine ⟨4, ?_, fun s => ?_, Or.inr ⟨by decide, by decide⟩⟩
            · unfold f_X11_whyNoScore
              rw [c_ty H, y_ck H, y_has, bd_s, if_pos q1, if_neg (by decide), c_ty H, y_ck H, y_has, bd_s, if_pos q2, if_neg (by decide), c_ty H, y_ck H, y_miss H ht, bd_s, if_neg a1, if_pos rfl, c_ty H, y_ck H, y_miss H hv, bd_s, if_neg a2, if_pos rfl, c_ty H, y_l H, y_gl H ht, g2, if_pos q3]
            · unfold f_X12_whyNoScore
              rw [m_ck (D s), n_isTray, bd_s, if_pos q1, if_neg (by decide), m_ck (D s), n_isTray, bd_s, if_pos q2, if_neg (by decide), m_r5 (D s), n_l (D s) ht, e9, if_neg b1, m_r5 (D s), n_l (D s) hv, e9, if_pos b2, m_r5 (D s), n_l (D s) ht, e9, g3, if_pos q3]
          · by_cases q4 : n ≤ nI n2
            · by_cases q5 : n < 1
              · refine ⟨5, ?_, fun s => ?_, Or.inr ⟨by decide, by decide⟩⟩
                · unfold f_X11_whyNoScore
                  rw [c_ty H, y_ck H, y_has, bd_s, if_pos q1, if_neg (by decide), c_ty H, y_ck H, y_has, bd_s, if_pos q2, if_neg (by decide), c_ty H, y_ck H, y_miss H ht, bd_s, if_neg a1, if_pos rfl, c_ty H, y_ck H, y_miss H hv, bd_s, if_neg a2, if_pos rfl, c_ty H, y_l H, y_gl H ht, g2, if_neg q3, c_ty H, y_l H, y_gl H hv, k2, if_pos q4, if_pos q5]
                · unfold f_X12_whyNoScore
                  rw [m_ck (D s), n_isTray, bd_s, if_pos q1, if_neg (by decide), m_ck (D s), n_isTray, bd_s, if_pos q2, if_neg (by decide), m_r5 (D s), n_l (D s) ht, e9, if_neg b1, m_r5 (D s), n_l (D s) hv, e9, if_pos b2, m_r5 (D s), n_l (D s) ht, e9, g3, if_neg q3, m_r5 (D s), n_l (D s) hv, e9, k3, if_pos q4, q_isIn, bd_s, if_neg (show ¬ ((1 : Int64) ≤ Int32.toInt64 n ∧ Int32.toInt64 n ≤ 60) from fun w => by rw [j1] at w; exact absurd w.1 (Int32.not_le.mpr q5)), if_pos rfl]
              · have n0 : ¬ n < 0 := fun w => q5 (Int32.lt_of_lt_of_le w (by decide))
                obtain ⟨m, hm, rfl⟩ := nI_of n0
                have m1 : 1 ≤ m := by
                  rw [show (1 : Int32) = nI 1 from rfl, nI_ltI' hm (by omega)] at q5
                  omega
                have m2 : m ≤ n1 := by
                  rw [nI_ltI' (by omega) hm] at q3
                  omega
                have m3 : m ≤ n2 := by
                  rw [nI_leI' hm (by omega)] at q4
                  exact q4
                have i60 : ((1 : Int64) ≤ Int32.toInt64 (nI m) ∧ Int32.toInt64 (nI m) ≤ 60) := by
                  rw [j1, u60, show (1 : Int32) = nI 1 from rfl, show (60 : Int32) = nI 60 from rfl, nI_leI' (by omega) (by omega), nI_leI' (by omega) (by omega)]
                  omega
                have eq1 : ∀ k, k < m → mL M (6 + t) k = mL M 210 (60 * t + k) := fun k hk => g5 k (by omega)
                have eq2 : ∀ k, k < m → mL M (6 + v) k = mL M 210 (60 * v + k) := fun k hk => k5 k (by omega)
                have cls : f_X11_whyNoScore M (some 0) (nI t) (nI v) (nI m) = (if (if ∀ k, k < m → 0 ≤ mL M (6 + t) k ∧ mL M (6 + t) k ≤ Int32.toInt64 100 then (1 : Int32) else 0) = 0 then some (5, M) else if (if ∀ k, k < m → 0 ≤ mL M (6 + v) k ∧ mL M (6 + v) k ≤ Int32.toInt64 1 then (1 : Int32) else 0) = 0 then some (5, M) else some (0, M)) := by
                  unfold f_X11_whyNoScore
                  rw [c_ty H, y_ck H, y_has, bd_s, if_pos q1, if_neg (by decide), c_ty H, y_ck H, y_has, bd_s, if_pos q2, if_neg (by decide), c_ty H, y_ck H, y_miss H ht, bd_s, if_neg a1, if_pos rfl, c_ty H, y_ck H, y_miss H hv, bd_s, if_neg a2, if_pos rfl, c_ty H, y_l H, y_gl H ht, g2, if_neg q3, c_ty H, y_l H, y_gl H hv, k2, if_pos q4, if_neg q5, c_ty H, y_ck H, y_within H ht (by omega), bd_s, c_ty H, y_ck H, y_within H hv (by omega), bd_s]
                have mdl : ∀ s, f_X12_whyNoScore (sI (sI M 0 0 s) 207 1 0) (some 207) (nI t) (nI v) (nI m) = some (if ∀ k, k < m → (0 ≤ mL M 210 (60 * t + k) ∧ mL M 210 (60 * t + k) ≤ 100) ∧ (0 ≤ mL M 210 (60 * v + k) ∧ mL M 210 (60 * v + k) ≤ 1) then 0 else 5, sI (sI M 0 0 s) 207 1 0) := fun s => by
                  unfold f_X12_whyNoScore
                  rw [m_ck (D s), n_isTray, bd_s, if_pos q1, if_neg (by decide), m_ck (D s), n_isTray, bd_s, if_pos q2, if_neg (by decide), m_r5 (D s), n_l (D s) ht, e9, if_neg b1, m_r5 (D s), n_l (D s) hv, e9, if_pos b2, m_r5 (D s), n_l (D s) ht, e9, g3, if_neg q3, m_r5 (D s), n_l (D s) hv, e9, k3, if_pos q4, q_isIn, bd_s, if_pos i60, if_neg (by decide), n_why77 (D s) ht hv (by omega), eL]
                by_cases r1 : ∀ k, k < m → 0 ≤ mL M (6 + t) k ∧ mL M (6 + t) k ≤ Int32.toInt64 100
                · by_cases r2 : ∀ k, k < m → 0 ≤ mL M (6 + v) k ∧ mL M (6 + v) k ≤ Int32.toInt64 1
                  · refine ⟨0, ?_, fun s => ?_, Or.inl ⟨rfl, t, v, m, ht, hv, m1, by omega, rfl, rfl, rfl, eq1, eq2⟩⟩
                    · rw [cls, if_pos r1, if_neg (by decide), if_pos r2, if_neg (by decide)]
                    · rw [mdl, if_pos (fun k hk => ⟨by rw [← eq1 k hk]; exact r1 k hk, by rw [← eq2 k hk]; exact r2 k hk⟩)]
                  · refine ⟨5, ?_, fun s => ?_, Or.inr ⟨by decide, by decide⟩⟩
                    · rw [cls, if_pos r1, if_neg (by decide), if_neg r2, if_pos rfl]
                    · rw [mdl, if_neg (fun w => r2 fun k hk => by rw [eq2 k hk]; exact (w k hk).2)]
                · refine ⟨5, ?_, fun s => ?_, Or.inr ⟨by decide, by decide⟩⟩
                  · rw [cls, if_neg r1, if_pos rfl]
                  · rw [mdl, if_neg (fun w => r1 fun k hk => by rw [eq1 k hk]; exact (w k hk).1)]
            · refine ⟨4, ?_, fun s => ?_, Or.inr ⟨by decide, by decide⟩⟩
              · unfold f_X11_whyNoScore
                rw [c_ty H, y_ck H, y_has, bd_s, if_pos q1, if_neg (by decide), c_ty H, y_ck H, y_has, bd_s, if_pos q2, if_neg (by decide), c_ty H, y_ck H, y_miss H ht, bd_s, if_neg a1, if_pos rfl, c_ty H, y_ck H, y_miss H hv, bd_s, if_neg a2, if_pos rfl, c_ty H, y_l H, y_gl H ht, g2, if_neg q3, c_ty H, y_l H, y_gl H hv, k2, if_neg q4]
              · unfold f_X12_whyNoScore
                rw [m_ck (D s), n_isTray, bd_s, if_pos q1, if_neg (by decide), m_ck (D s), n_isTray, bd_s, if_pos q2, if_neg (by decide), m_r5 (D s), n_l (D s) ht, e9, if_neg b1, m_r5 (D s), n_l (D s) hv, e9, if_pos b2, m_r5 (D s), n_l (D s) ht, e9, g3, if_neg q3, m_r5 (D s), n_l (D s) hv, e9, k3, if_neg q4]
    · refine ⟨1, ?_, fun s => ?_, Or.inr ⟨by decide, by decide⟩⟩
      · unfold f_X11_whyNoScore
        rw [c_ty H, y_ck H, y_has, bd_s, if_pos q1, if_neg (by decide), c_ty H, y_ck H, y_has, bd_s, if_neg q2, if_pos rfl]
      · unfold f_X12_whyNoScore
        rw [m_ck (D s), n_isTray, bd_s, if_pos q1, if_neg (by decide), m_ck (D s), n_isTray, bd_s, if_neg q2, if_pos rfl]
  · refine ⟨1, ?_, fun s => ?_, Or.inr ⟨by decide, by decide⟩⟩
    · unfold f_X11_whyNoScore
      rw [c_ty H, y_ck H, y_has, bd_s, if_neg q1, if_pos rfl]
    · unfold f_X12_whyNoScore
      rw [m_ck (D s), n_isTray, bd_s, if_neg q1, if_pos rfl]
def scF (f g : Nat → Int64) (n : Nat) : Int32 := sm (fun k => Int64.toInt32 (f k - 100 * g k) * Int64.toInt32 (f k - 100 * g k)) n
section C
variable {M : Mm} {a b y z : Nat}
theorem y_score (H : LL M a b y z) {t v n : Nat} (ht : t < 4) (hv : v < 4) (hn : n ≤ 60) : f_X11_scoreOf M (some 0) (nI t) (nI v) (nI n) = some (scF (mL M (6 + t)) (mL M (6 + v)) n, M) := by
  refine lup0 (fun f k => f_X11_scoreOf_6 f M (some 0) (nI t) (nI v) (nI n) (scF (mL M (6 + t)) (mL M (6 + v)) k) (nI k)) n _ (by omega) (fun f k hk => ?_) (fun f => ?_)
  · rw [f_X11_scoreOf_6, if_neg (by rw [nI_leI' (by omega) (by omega)]; omega), c_ty H, y_r H, y_rr H ht, y_g H ht (by omega), c_ty H, y_r H, y_rr H hv, y_g H hv (by omega), nmI_s, nmI_s, nI_1]
    rfl
  · rw [f_X11_scoreOf_6, if_pos (Int32.le_refl _)]
theorem n_score (D : mdL M) {t v n : Nat} (ht : t < 4) (hv : v < 4) (hn : n ≤ 60) : f_X12_scoreOf M (some 207) (nI t) (nI v) (nI n) = some (scF (fun k => mL M 210 (60 * t + k)) (fun k => mL M 210 (60 * v + k)) n, M) := by
  refine lup0 (fun f k => f_X12_scoreOf_6 f M (some 207) (nI t) (nI v) (nI n) (scF (fun k => mL M 210 (60 * t + k)) (fun k => mL M 210 (60 * v + k)) k) (nI k)) n _ (by omega) (fun f k hk => ?_) (fun f => ?_)
  · rw [f_X12_scoreOf_6, if_neg (by rw [nI_leI' (by omega) (by omega)]; omega), m_ck D, n_num D ht (by omega), bd_s, m_ck D, n_num D hv (by omega), bd_s, f_X12_square, bd_s, nmI_s, nI_1]
    rfl
  · rw [f_X12_scoreOf_6, if_pos (Int32.le_refl _)]
end C
theorem scF_cong {f g f' g' : Nat → Int64} {n : Nat} (h1 : ∀ k, k < n → f k = f' k) (h2 : ∀ k, k < n → g k = g' k) : scF f g n = scF f' g' n := sm_cong fun k hk => by rw [h1 k hk, h2 k hk]
theorem op_score (x u n : Int32) : opI (fun M => f_X11_score M (some 0) x u n) (fun M => f_X12_score M (some 207) x u n) := by
  intro M hR
  dsimp only
  obtain ⟨a, b, y, z, H⟩ := id hR
  have hL := H.1
  have hT := H.2.2.2.2.2.2.2.1
  obtain ⟨w, w1, w2, w3⟩ := score_why hL hT x u n
  have D0 : mdL (sI (sI M 0 0 w) 207 1 0) := hL.2.2.1
  have D1 : mdL (sI (sI (sI M 0 0 w) 207 1 0) 207 0 w) := hL.2.2.1
  rcases w3 with ⟨rfl, t, v, m, ht, hv, m1, m2, rfl, rfl, rfl, e1, e2⟩ | ⟨h1, h2⟩
  · have eL : mL (sI (sI (sI M 0 0 0) 207 1 0) 207 0 0) = mL M := rfl
    refine ⟨scF (mL M (6 + t)) (mL M (6 + v)) m, sI M 0 0 0, _, ?_, ?_, RR_st hR 0⟩
    · unfold f_X11_score
      rw [c_ck hL, w1, bd_s, if_pos rfl, c_ck hL, y_score hL ht hv m2, bd_s, c_ck hL, c_answer hL, bd_s]
    · unfold f_X12_score
      rw [m_pI (M := sI M 0 0 0) hL.2.2.1, m_ck D0, w2, bd_s, m_pI D0, m_gI D1, mI_sI_s, if_pos (by decide), m_ck D1, n_score D1 ht hv m2, bd_s, eL, scF_cong e1 e2]
      rfl
  · refine ⟨-1, sI M 0 0 w, _, ?_, ?_, RR_st hR w⟩
    · unfold f_X11_score
      rw [c_ck hL, w1, bd_s, if_neg h1, c_ck hL, c_none hL, bd_s]
    · unfold f_X12_score
      rw [m_pI (M := sI M 0 0 w) hL.2.2.1, m_ck D0, w2, bd_s, m_pI D0, m_gI D1, mI_sI_s, if_neg h2]
      rfl
theorem sq_swap (l x : Int32) : l * ((x - 100) * (x - 100)) = (l * (100 - x)) * (100 - x) := by
  have e : x - 100 = -(100 - x) := (Int32.neg_sub).symm
  have e2 : ∀ q : Int32, -q * -q = q * q := fun q => by rw [Int32.neg_mul, Int32.mul_neg, Int32.neg_neg]
  rw [e, e2, ← Int32.mul_assoc]
theorem op_words (x u n : Int32) : opI (fun M => f_X11_words M (some 0) x u n) (fun M => f_X12_words M (some 207) x u n) := by
  intro M hR
  dsimp only
  obtain ⟨a, b, y, z, H⟩ := id hR
  have hL := H.1
  have hT := H.2.2.2.2.2.2.2.1
  obtain ⟨w, w1, w2, w3⟩ := score_why hL hT x u n
  have D0 : mdL (sI (sI M 0 0 w) 207 1 0) := hL.2.2.1
  have D1 : mdL (sI (sI (sI M 0 0 w) 207 1 0) 207 0 w) := hL.2.2.1
  rcases w3 with ⟨rfl, t, v, m, ht, hv, m1, m2, rfl, rfl, rfl, e1, e2⟩ | ⟨h1, h2⟩
  · have eL : mL (sI (sI (sI M 0 0 0) 207 1 0) 207 0 0) = mL M := rfl
    have n0 : ¬ nI m = 0 := nI_pos0 (by omega) (by omega)
    have mx : mxI 1 (nI m) = nI m := mx1 m1 (by omega)
    obtain ⟨s, hs⟩ : ∃ s, sm (fun k => Int64.toInt32 (mL M (6 + v) k)) m = s := ⟨_, rfl⟩
    have cm : f_X11_scoreOfMean M (some 0) (nI v) (nI m) = some (((s * (100 - (100 * s) / nI m)) * (100 - (100 * s) / nI m)) + (((nI m - s) * ((100 * s) / nI m)) * ((100 * s) / nI m)), M) := by
      rw [← hs]
      refine lup0 (fun f k => f_X11_scoreOfMean_5 f M (some 0) (nI v) (nI m) (sm (fun k => Int64.toInt32 (mL M (6 + v) k)) k) (nI k)) m _ (by omega) (fun f k hk => ?_) (fun f => ?_)
      · rw [f_X11_scoreOfMean_5, if_neg (by rw [nI_leI' (by omega) (by omega)]; omega), c_ty hL, y_r hL, y_rr hL hv, y_g hL hv (by omega), nmI_s, nI_1]
        rfl
      · rw [f_X11_scoreOfMean_5, if_pos (Int32.le_refl _), mx, dvI_s n0, nmI_s]
    have mm : f_X12_words_31 fu (sI (sI (sI M 0 0 0) 207 1 0) 207 0 0) (some 207) (nI t) (nI v) (nI m) 0 0 = some (((s * (((100 * s) / nI m - 100) * ((100 * s) / nI m - 100))) + ((nI m - s) * (((100 * s) / nI m) * ((100 * s) / nI m)))) - scF (mL M (6 + t)) (mL M (6 + v)) m, sI (sI (sI M 0 0 0) 207 1 0) 207 0 0) := by
      rw [← hs]
      refine lup0 (fun f k => f_X12_words_31 f (sI (sI (sI M 0 0 0) 207 1 0) 207 0 0) (some 207) (nI t) (nI v) (nI m) (sm (fun k => Int64.toInt32 (mL M (6 + v) k)) k) (nI k)) m _ (by omega) (fun f k hk => ?_) (fun f => ?_)
      · rw [f_X12_words_31, if_neg (by rw [nI_leI' (by omega) (by omega)]; omega), m_ck D1, n_num D1 hv (by omega), bd_s, nmI_s, nI_1, eL, ← e2 k hk]
        rfl
      · rw [f_X12_words_31, if_pos (Int32.le_refl _), dvI_s n0, nmI_s, f_X12_square, bd_s, f_X12_square, bd_s, m_ck D1, n_score D1 ht hv m2, bd_s, eL, scF_cong e1 e2]
    refine ⟨((s * (100 - (100 * s) / nI m)) * (100 - (100 * s) / nI m)) + (((nI m - s) * ((100 * s) / nI m)) * ((100 * s) / nI m)) - scF (mL M (6 + t)) (mL M (6 + v)) m, sI M 0 0 0, _, ?_, ?_, RR_st hR 0⟩
    · unfold f_X11_words
      rw [c_ck hL, w1, bd_s, if_pos rfl, c_ck hL, cm, bd_s, c_ck hL, y_score hL ht hv m2, bd_s, c_ck hL, c_answer hL, bd_s]
    · unfold f_X12_words
      rw [m_pI (M := sI M 0 0 0) hL.2.2.1, m_ck D0, w2, bd_s, m_pI D0, m_gI D1, mI_sI_s, if_pos (by decide), mm, sq_swap, Int32.mul_assoc (nI m - s)]
      rfl
  · refine ⟨-1, sI M 0 0 w, _, ?_, ?_, RR_st hR w⟩
    · unfold f_X11_words
      rw [c_ck hL, w1, bd_s, if_neg h1, c_ck hL, c_none hL, bd_s]
    · unfold f_X12_words
      rw [m_pI (M := sI M 0 0 w) hL.2.2.1, m_ck D0, w2, bd_s, m_pI D0, m_gI D1, mI_sI_s, if_neg h2]
      rfl
