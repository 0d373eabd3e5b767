theorem acL_s {ρ : Type} {M : Mm} {x y n m s d k : Nat} {K : Mm → Option ρ} (hx : mK M x = (22, n)) (hy : mK M y = (22, m)) (h1 : s + k ≤ n) (h2 : d + k ≤ m) (hn : n < 2147483648) (hm : m < 2147483648) : acL M (some x) (nI s) (some y) (nI d) (nI k) K = K (cpL M x s y d k) := by
  show (if _ then _ else _) = _
  rw [hx, hy, nI_cl (by omega), nI_cl (by omega), nI_cl (by omega)]
  exact if_pos ⟨rfl, rfl, nI_pos' (by omega), nI_pos' (by omega), nI_pos' (by omega), h1, h2⟩
/-- so many numbers from A on come to B on -/
def cpF (f : Nat → Int64) (A B n : Nat) : Nat → Int64 := fun q => if B ≤ q ∧ q < B + n then f (A + (q - B)) else f q
section C
variable {M : Mm}
theorem n_pour0 (D : mdL M) {t u i j n : Nat} (ht : t < 4) (hu : u < 4) (hi : i + n ≤ 60) (hj : j + n ≤ 60) (hd : t = u → j ≤ i) : f_X12_pour_158 fu M (some 207) (nI t) (nI i) (nI u) (nI j) (nI n) 0 0 = some (1, sAL M 210 (cpF (mL M 210) (60 * t + i) (60 * u + j) n)) := by
  have key := lup0 (fun f k => f_X12_pour_158 f (sAL M 210 (cpF (mL M 210) (60 * t + i) (60 * u + j) k)) (some 207) (nI t) (nI i) (nI u) (nI j) (nI n) 0 (nI k)) n (some (1, sAL M 210 (cpF (mL M 210) (60 * t + i) (60 * u + j) n))) (by omega) (fun f k hk => ?_) (fun f => ?_)
  · rw [show cpF (mL M 210) (60 * t + i) (60 * u + j) 0 = mL M 210 from funext fun q => if_neg (by omega), sAL_self] at key
    exact key
  · have D1 : mdL (sAL M 210 (cpF (mL M 210) (60 * t + i) (60 * u + j) k)) := D
    rw [f_X12_pour_158, if_neg (by rw [nI_leI' (by omega) (by omega)]; omega), if_pos rfl, f_X12_pour_182, m_r6 D1, m_r6 D1]
    simp (disch := omega) only [i2, i3, i4, i5, i13, i21, i29, i37, i45, i53, i61, i69, i133, i137, i141, i145, i149, i153, i157, i161, i167, i4m, i6m, i8m, i9m, i18m, i60m, i256m, i450m, nI_add]
    rw [n_g D1 (by omega), n_p D1 (by omega), sL_sAL, nI_1, mL_sAL_s]
    refine congrArg (fun z => f_X12_pour_158 f (sAL M 210 z) (some 207) (nI t) (nI i) (nI u) (nI j) (nI n) 0 (nI (k + 1))) (funext fun q => ?_)
    unfold cpF
    by_cases q1 : q = 60 * u + j + k
    · have tu : t = u ∨ t < u ∨ u < t := by omega
      rw [if_pos q1, if_neg (by rcases tu with z | z | z; have := hd z; omega; omega; omega), if_pos (by omega)]
      exact congrArg (mL M 210) (by omega)
    · rw [if_neg q1]
      by_cases q2 : 60 * u + j ≤ q ∧ q < 60 * u + j + k
      · rw [if_pos q2, if_pos (by omega)]
      · rw [if_neg q2, if_neg (by omega)]
  · rw [f_X12_pour_158, if_pos (Int32.le_refl _)]
theorem n_pour1 (D : mdL M) {t u i j n : Nat} (ht : t < 4) (hu : u < 4) (hi : i + n ≤ 60) (hj : j + n ≤ 60) (hd : t = u → i ≤ j) : f_X12_pour_158 fu M (some 207) (nI t) (nI i) (nI u) (nI j) (nI n) 1 0 = some (1, sAL M 210 (cpF (mL M 210) (60 * t + i) (60 * u + j) n)) := by
  have key := lup0 (fun f k => f_X12_pour_158 f (sAL M 210 (cpF (mL M 210) (60 * t + i + (n - k)) (60 * u + j + (n - k)) k)) (some 207) (nI t) (nI i) (nI u) (nI j) (nI n) 1 (nI k)) n (some (1, sAL M 210 (cpF (mL M 210) (60 * t + i) (60 * u + j) n))) (by omega) (fun f k hk => ?_) (fun f => ?_)
  · rw [show cpF (mL M 210) (60 * t + i + (n - 0)) (60 * u + j + (n - 0)) 0 = mL M 210 from funext fun q => if_neg (by omega), sAL_self] at key
    exact key
  · have D1 : mdL (sAL M 210 (cpF (mL M 210) (60 * t + i + (n - k)) (60 * u + j + (n - k)) k)) := D
    rw [f_X12_pour_158, if_neg (by rw [nI_leI' (by omega) (by omega)]; omega), if_neg (by decide), f_X12_pour_182, m_r6 D1, m_r6 D1, show (1 : Int32) = nI 1 from rfl, nI_sub (by omega), nI_sub (by omega), nI_add]
    simp (disch := omega) only [i2, i3, i4, i5, i13, i21, i29, i37, i45, i53, i61, i69, i133, i137, i141, i145, i149, i153, i157, i161, i167, i4m, i6m, i8m, i9m, i18m, i60m, i256m, i450m, nI_add]
    rw [n_g D1 (by omega), n_p D1 (by omega), sL_sAL, mL_sAL_s]
    refine congrArg (fun z => f_X12_pour_158 f (sAL M 210 z) (some 207) (nI t) (nI i) (nI u) (nI j) (nI n) (nI 1) (nI (k + 1))) (funext fun q => ?_)
    unfold cpF
    by_cases q1 : q = 60 * u + j + (n - 1 - k)
    · have tu : t = u ∨ t < u ∨ u < t := by omega
      rw [if_pos q1, if_neg (by rcases tu with z | z | z; have := hd z; omega; omega; omega), if_pos (by omega)]
      exact congrArg (mL M 210) (by omega)
    · rw [if_neg q1]
      by_cases q2 : 60 * u + j + (n - k) ≤ q ∧ q < 60 * u + j + (n - k) + k
      · rw [if_pos q2, if_pos (by omega)]
        exact congrArg (mL M 210) (by omega)
      · rw [if_neg q2, if_neg (by omega)]
  · rw [f_X12_pour_158, if_pos (Int32.le_refl _), Nat.sub_self]
    rfl
end C
theorem lsum {p q n : Nat} (hp : p < 2147483648) (hq : q < 2147483648) (hn : n ≤ 60) : (0 < lg_cmp (Int32.toInt64 (nI p) + Int32.toInt64 (nI q)) (Int32.toInt64 (nI n))) ↔ n < p + q := by
  rw [lg_cmp_gt, lI hp, lI hq, lI (by omega), lN_add, pk_lLT (by omega) (by omega)]
theorem lsum2 {p q n : Nat} (hp : p < 2147483648) (hq : q < 2147483648) (hn : n ≤ 60) : (lg_cmp (Int32.toInt64 (nI p) + Int32.toInt64 (nI q)) (Int32.toInt64 (nI n)) ≤ 0) ↔ p + q ≤ n := by
  rw [lg_cmp_le, lI hp, lI hq, lI (by omega), lN_add, pk_lLE (by omega) (by omega)]
theorem reach_iff {p q n : Nat} (hp : p < 2147483648) (hq : q < 2147483648) (hn : n ≤ 60) : (0 ≤ nI p ∧ nI q ≤ nI n ∧ nI p ≤ nI n - nI q) ↔ p + q ≤ n := by
  constructor
  · rintro ⟨-, h2, h3⟩
    rw [nI_leI' hq (by omega)] at h2
    rw [nI_sub h2, nI_leI' hp (by omega)] at h3
    omega
  · intro h
    refine ⟨nI_pos' hp, ?_, ?_⟩
    · rw [nI_leI' hq (by omega)]; omega
    · rw [nI_sub (by omega), nI_leI' hp (by omega)]; omega
theorem op_pour (x i u j n : Int32) : opI (fun M => f_X11_pour M (some 0) x i u j n) (fun M => f_X12_pour M (some 207) x i u j n) := by
  intro M hR
  dsimp only
  obtain ⟨a, b, y, z, H⟩ := id hR
  have hL := H.1
  have hT := H.2.2.2.2.2.2.2.1
  by_cases q1 : 0 ≤ x ∧ x < 4
  · by_cases q2 : 0 ≤ u ∧ u < 4
    · obtain ⟨t, ht, rfl⟩ := tIx q1
      obtain ⟨v, hv, rfl⟩ := tIx q2
      have x1 : ¬ nI t < 0 := Int32.not_lt.mpr q1.1
      have x2 : ¬ 4 ≤ nI t := Int32.not_le.mpr q1.2
      have x3 : ¬ nI v < 0 := Int32.not_lt.mpr q2.1
      have miss : (mI M 11 t = -1 ∧ mI M 209 t = -1) ∨ (∃ n', n' ≤ 60 ∧ mI M 11 t = nI n' ∧ mI M 209 t = nI n') := by
        rcases hT t ht with h | ⟨n', g1, g2, g3, -⟩
        · exact Or.inl h
        · exact Or.inr ⟨n', g1, g2, g3⟩
      have cA : ∀ X, f_X11_pour M (some 0) (nI t) i (nI v) j n = X ↔ zc (gfR M (some 0) 11 6 fun v29 => ck M v29 7 <| bd (f_X7_isMissing M v29 (nI t)) fun v33 M33 => if v33 = 0 then (gfR M33 (some 0) 11 6 fun v40 => ck M33 v40 7 <| bd (f_X7_isMissing M33 v40 (nI v)) fun v44 M44 => if v44 = 0 then (gfR M44 (some 0) 11 6 fun v57 => gfR M44 v57 7 1 fun v60 => alI M44 v60 21 (nI t) fun v64 => gfR M44 (some 0) 11 6 fun v66 => gfR M44 v66 7 1 fun v69 => alI M44 v69 21 (nI v) fun v73 => if v64 = v73 then (if 0 ≤ n then (gfR M44 (some 0) 11 6 fun v97 => ck M44 v97 7 <| bd (f_X7_reaches M44 v97 (nI t) i n) fun v104 M104 => if v104 = 0 then (f_X11_pour_125  M104 (some 0)) else (gfR M104 (some 0) 11 6 fun v111 => ck M104 v111 7 <| bd (f_X7_reaches M104 v111 (nI v) j n) fun v119 M119 => if v119 = 0 then (f_X11_pour_125  M119 (some 0)) else (gfR M119 (some 0) 11 6 fun v132 => gfR M119 v132 7 0 fun v135 => alR M119 v135 51 (nI t) fun v139 => gfR M119 (some 0) 11 6 fun v142 => gfR M119 v142 7 0 fun v145 => alR M119 v145 51 (nI v) fun v149 => acL M119 v139 i v149 j n fun M154 => ck M154 (some 0) 11 <| bd (f_X11_yes M154 (some 0)) fun v158 M158 => some (v158, M158)))) else (ck M44 (some 0) 11 <| bd (f_X11_no M44 (some 0) 6) fun v92 M92 => some (v92, M92))) else (ck M44 (some 0) 11 <| bd (f_X11_no M44 (some 0) 11) fun v80 M80 => some (v80, M80))) else (f_X11_pour_50  M44 (some 0))) else (f_X11_pour_50  M33 (some 0))) = X := fun X => by
        unfold f_X11_pour g_X11_pour
        rw [c_ty hL, y_ck hL, y_has, bd_s, if_pos q1, if_neg (by decide), c_ty hL, y_ck hL, y_has, bd_s, if_pos q2, if_neg (by decide)]
      have no3 : (mI M 11 t = -1 ∨ mI M 11 v = -1) → ∃ r M1 M2, f_X11_pour M (some 0) (nI t) i (nI v) j n = some (r, M1) ∧ f_X12_pour M1 (some 207) (nI t) i (nI v) j n = some (r, M2) ∧ RR M2 := fun q => by
        refine ⟨0, sI M 0 0 3, _, ?_, ?_, RR_st hR 3⟩
        · rw [cA, c_ty hL, y_ck hL, y_miss hL ht, bd_s]
          by_cases z : mI M 11 t = -1
          · rw [if_pos z, if_neg (by decide), f_X11_pour_50, c_ck hL, c_no hL, bd_s, zc0]
          · rw [if_neg z, if_pos rfl, c_ty hL, y_ck hL, y_miss hL hv, bd_s, if_pos (show mI M 11 v = -1 from by rcases q with q | q; exact absurd q z; exact q), if_neg (by decide), f_X11_pour_50, c_ck hL, c_no hL, bd_s, zc0]
        · have D := pre_md hL 3
          have e209 : mI (pre M 3) 209 = mI M 209 := by unfold pre; rw [mI_o (by decide), mI_o (by decide), mI_o (by decide)]
          have e : zc (f_X12_pour_52 (pre M 3) (some 207)) = some (0, stM M 3) := by
            rw [f_X12_pour_52, m_ck D.1, m_no hL, bd_s, zc0]
            rfl
          unfold f_X12_pour g_X12_pour
          rw [m_pre hL, if_neg x1, if_neg x2, if_neg x3, if_pos q2.2, m_r5 D.1, n_l D.1 ht, e209]
          rcases hT t ht with ⟨h, h'⟩ | ⟨n', g1, g2, g3, -⟩
          · rw [h', if_pos (by decide)]; exact e
          · rw [g3, if_neg (nI_pos (by omega)), m_r5 D.1, n_l D.1 hv, e209]
            rcases hT v hv with ⟨h, h'⟩ | ⟨n2, k1, k2, -⟩
            · rw [h', if_neg (by decide)]; exact e
            · exfalso
              rcases q with q | q
              · rw [g2] at q; exact neg1_ne (by omega) q
              · rw [k2] at q; exact neg1_ne (by omega) q
      rcases hT t ht with ⟨h, h'⟩ | ⟨n1, g1, g2, g3, g4, g5⟩
      · exact no3 (Or.inl h)
      · rcases hT v hv with ⟨h, h'⟩ | ⟨n2, k1, k2, k3, k4, k5⟩
        · exact no3 (Or.inr h)
        · have a1 : ¬ mI M 11 t = -1 := by rw [g2]; exact neg1_ne (by omega)
          have a2 : ¬ mI M 11 v = -1 := by rw [k2]; exact neg1_ne (by omega)
          have a3 : ¬ mI M 209 t < 0 := by rw [g3]; exact nI_pos (by omega)
          have a4 : 0 ≤ mI M 209 v := by rw [k3]; exact nI_pos' (by omega)
          have sR : ∀ s, (∀ x, x ≠ 0 → x ≠ 207 → mI (pre M s) x = mI M x) := fun s x h1 h2 => by unfold pre; rw [mI_o h2, mI_o h2, mI_o h1]
          by_cases q3 : mI M 10 t = mI M 10 v
          · have q3' : mI M 208 t = mI M 208 v := by rw [← g4, ← k4]; exact q3
            by_cases q4 : 0 ≤ n
            · have no4 : ¬ (0 ≤ i ∧ n ≤ mI M 11 t ∧ i ≤ mI M 11 t - n) ∨ ¬ (0 ≤ j ∧ n ≤ mI M 11 v ∧ j ≤ mI M 11 v - n) → ∃ r M1 M2, f_X11_pour M (some 0) (nI t) i (nI v) j n = some (r, M1) ∧ f_X12_pour M1 (some 207) (nI t) i (nI v) j n = some (r, M2) ∧ RR M2 := fun q => by
                refine ⟨0, sI M 0 0 4, _, ?_, ?_, RR_st hR 4⟩
                · rw [cA, c_ty hL, y_ck hL, y_miss hL ht, bd_s, if_neg a1, if_pos rfl, c_ty hL, y_ck hL, y_miss hL hv, bd_s, if_neg a2, if_pos rfl, c_ty hL, y_s hL, y_gs hL ht, c_ty hL, y_s hL, y_gs hL hv, if_pos q3, if_pos q4, c_ty hL, y_ck hL, y_reach hL ht, bd_s]
                  by_cases z : 0 ≤ i ∧ n ≤ mI M 11 t ∧ i ≤ mI M 11 t - n
                  · rw [if_pos z, if_neg (by decide), c_ty hL, y_ck hL, y_reach hL hv, bd_s, if_neg (show ¬ (0 ≤ j ∧ n ≤ mI M 11 v ∧ j ≤ mI M 11 v - n) from by rcases q with q | q; exact absurd z q; exact q), if_pos rfl, f_X11_pour_125, c_ck hL, c_no hL, bd_s, zc0]
                  · rw [if_neg z, if_pos rfl, f_X11_pour_125, c_ck hL, c_no hL, bd_s, zc0]
                · have D := pre_md hL 4
                  have e : zc (f_X12_pour_136 (pre M 4) (some 207)) = some (0, stM M 4) := by
                    rw [f_X12_pour_136, m_ck D.1, m_no hL, bd_s, zc0]
                    rfl
                  unfold f_X12_pour g_X12_pour
                  rw [m_pre hL, if_neg x1, if_neg x2, if_neg x3, if_pos q2.2, m_r5 D.1, n_l D.1 ht, sR 4 209 (by decide) (by decide), if_neg a3, m_r5 D.1, n_l D.1 hv, sR 4 209 (by decide) (by decide), if_pos a4, m_r4 D.1, n_s D.1 ht, m_r4 D.1, n_s D.1 hv, sR 4 208 (by decide) (by decide), if_pos q3', if_pos q4]
                  by_cases i0 : i < 0
                  · rw [if_pos i0]; exact e
                  · rw [if_neg i0]
                    by_cases j0 : j < 0
                    · rw [if_pos j0]; exact e
                    · obtain ⟨i', hi', rfl⟩ := nI_of i0
                      obtain ⟨j', hj', rfl⟩ := nI_of j0
                      obtain ⟨n', hn', rfl⟩ := nI_of (Int32.not_lt.mpr q4)
                      rw [g2, k2, reach_iff hi' hn' g1, reach_iff hj' hn' k1] at q
                      rw [if_neg j0, m_r5 D.1, n_l D.1 ht, sR 4 209 (by decide) (by decide), g3]
                      by_cases z : n1 < i' + n'
                      · rw [if_pos ((lsum hi' hn' g1).mpr z)]; exact e
                      · rw [if_neg (fun w => z ((lsum hi' hn' g1).mp w)), m_r5 D.1, n_l D.1 hv, sR 4 209 (by decide) (by decide), k3, if_neg (fun w => by have := (lsum2 hj' hn' k1).mp w; omega)]
                        exact e
              by_cases r1 : 0 ≤ i ∧ n ≤ mI M 11 t ∧ i ≤ mI M 11 t - n
              · by_cases r2 : 0 ≤ j ∧ n ≤ mI M 11 v ∧ j ≤ mI M 11 v - n
                · obtain ⟨i', hi', rfl⟩ := nI_of (Int32.not_lt.mpr r1.1)
                  obtain ⟨j', hj', rfl⟩ := nI_of (Int32.not_lt.mpr r2.1)
                  obtain ⟨n', hn', rfl⟩ := nI_of (Int32.not_lt.mpr q4)
                  have r1' := r1
                  have r2' := r2
                  rw [g2, reach_iff hi' hn' g1] at r1'
                  rw [k2, reach_iff hj' hn' k1] at r2'
                  obtain ⟨N, hN⟩ : ∃ N, cpL M (6 + t) i' (6 + v) j' n' = N := ⟨_, rfl⟩
                  have hLN : LL N a b y z := by rw [← hN]; exact LL_same hL rfl rfl rfl
                  have nK : mK N = mK M := by rw [← hN]; rfl
                  have nR : mR N = mR M := by rw [← hN]; rfl
                  have nT : mT N = mT M := by rw [← hN]; rfl
                  have nI1 : mI N = mI M := by rw [← hN]; rfl
                  have nL : ∀ x k, mL N x k = if x = 6 + v then (if j' ≤ k ∧ k < j' + n' then mL M (6 + t) (i' + (k - j')) else mL M (6 + v) k) else mL M x k := fun x k => by rw [← hN]; rfl
                  have D0 := pre_md hLN 0
                  have DP : mdL (pre N 0) := D0.1
                  have pI : ∀ x, x ≠ 0 → x ≠ 207 → mI (pre N 0) x = mI N x := fun x h1 h2 => by unfold pre; rw [mI_o h2, mI_o h2, mI_o h1]
                  have pI0 : ∀ k, k ≠ 0 → mI (pre N 0) 0 k = mI N 0 k := fun k hk => by unfold pre; rw [mI_o (by decide), mI_o (by decide), mI_f hk]
                  have pI7 : ∀ k, k ≠ 0 → k ≠ 1 → mI (pre N 0) 207 k = mI N 207 k := fun k hk h1 => by unfold pre; rw [mI_f hk, mI_f h1, mI_o (by decide)]
                  have ps0 : mI (pre N 0) 0 0 = 0 := by unfold pre; rw [mI_o (by decide), mI_o (by decide), mI_sI_s]
                  have ps7 : mI (pre N 0) 207 0 = 0 := by unfold pre; rw [mI_sI_s]
                  have pL : mL (pre N 0) = mL N := rfl
                  have pK : mK (pre N 0) = mK N := rfl
                  have pR : mR (pre N 0) = mR N := rfl
                  have pT : mT (pre N 0) = mT N := rfl
                  have mp : ∀ K : Mm → Option (Int32 × Mm), (pfI (sI N 0 0 0) (some 207) 12 1 0 fun M2 => pfI M2 (some 207) 12 0 0 K) = K (pre N 0) := fun K => m_pre hLN 0
                  obtain ⟨P, hP⟩ : ∃ P, pre N 0 = P := ⟨_, rfl⟩
                  rw [hP] at DP ps0 ps7 pL pK pR pT
                  simp only [hP] at pI pI0 pI7 mp
                  refine ⟨1, sI N 0 0 0, sAL P 210 (cpF (mL P 210) (60 * t + i') (60 * v + j') n'), ?_, ?_, a, b, y, z, RA_ty H (pK.trans nK) (pR.trans nR) (pT.trans nT) (fun x h1 h2 h3 h4 h5 h6 => ?_) (fun k hk => ?_) (fun k hk => ?_) ?_ (fun x h1 h2 => ?_) (fun w hw => ?_)⟩
                  · rw [cA, c_ty hL, y_ck hL, y_miss hL ht, bd_s, if_neg a1, if_pos rfl, c_ty hL, y_ck hL, y_miss hL hv, bd_s, if_neg a2, if_pos rfl, c_ty hL, y_s hL, y_gs hL ht, c_ty hL, y_s hL, y_gs hL hv, if_pos q3, if_pos q4, c_ty hL, y_ck hL, y_reach hL ht, bd_s, if_pos r1, if_neg (by decide), c_ty hL, y_ck hL, y_reach hL hv, bd_s, if_pos r2, if_neg (by decide), c_ty hL, y_r hL, y_rr hL ht, c_ty hL, y_r hL, y_rr hL hv, acL_s (hL.1.2.1.2.2.2.2.2.2.2 t ht).2 (hL.1.2.1.2.2.2.2.2.2.2 v hv).2 (by omega) (by omega) (by omega) (by omega), hN, c_ck hLN, c_yes hLN, bd_s, zc1]
                  · unfold f_X12_pour g_X12_pour
                    rw [mp, if_neg x1, if_neg x2, if_neg x3, if_pos q2.2, m_r5 DP, n_l DP ht, pI 209 (by decide) (by decide), nI1, if_neg a3, m_r5 DP, n_l DP hv, pI 209 (by decide) (by decide), nI1, if_pos a4, m_r4 DP, n_s DP ht, m_r4 DP, n_s DP hv, pI 208 (by decide) (by decide), nI1, if_pos q3', if_pos q4, if_neg (nI_pos hi'), if_neg (nI_pos hj'), m_r5 DP, n_l DP ht, pI 209 (by decide) (by decide), nI1, g3, if_neg (fun w => by have := (lsum hi' hn' g1).mp w; omega), m_r5 DP, n_l DP hv, pI 209 (by decide) (by decide), nI1, k3, if_pos ((lsum2 hj' hn' k1).mpr r2')]
                    by_cases ij : nI j' ≤ nI i'
                    · rw [if_pos ij, f_X12_pour_153, n_pour0 DP ht hv (by omega) (by omega) (fun _ => by rw [nI_leI' hj' hi'] at ij; exact ij), zc1]
                    · rw [if_neg ij, f_X12_pour_153, n_pour1 DP ht hv (by omega) (by omega) (fun _ => by rw [nI_leI' hj' hi'] at ij; omega), zc1]
                  · show mI P x = _
                    rw [pI x h1 h2, nI1]
                  · show mI P 0 k = _
                    rw [pI0 k hk, nI1]
                  · show mI P 207 k = _
                    rw [pI7 k (by omega) (by omega), nI1]
                  · exact ps0.trans ps7.symm
                  · rw [mL_sAL_o _ _ h2, pL]
                    funext k
                    rw [nL, if_neg (by omega)]
                  · show (mI P 11 w = -1 ∧ mI P 209 w = -1) ∨ ∃ n, n ≤ 60 ∧ mI P 11 w = nI n ∧ mI P 209 w = nI n ∧ mI P 10 w = mI P 208 w ∧ ∀ k, k < n → mL (sAL P 210 (cpF (mL P 210) (60 * t + i') (60 * v + j') n')) (6 + w) k = mL (sAL P 210 (cpF (mL P 210) (60 * t + i') (60 * v + j') n')) 210 (60 * w + k)
                    rw [pI 11 (by decide) (by decide), pI 209 (by decide) (by decide), pI 10 (by decide) (by decide), pI 208 (by decide) (by decide), nI1]
                    rcases hT w hw with h | ⟨n3, e1, e2, e3, e4, e5⟩
                    · exact Or.inl h
                    · refine Or.inr ⟨n3, e1, e2, e3, e4, fun k hk => ?_⟩
                      rw [mL_sAL_o _ _ (by omega), mL_sAL_s, pL, nL]
                      unfold cpF
                      by_cases wv : w = v
                      · subst wv
                        have n23 : n3 = n2 := by
                          have := e2.symm.trans k2
                          rw [nI_eq' (by omega) (by omega)] at this
                          exact this
                        rw [if_pos rfl]
                        by_cases r : j' ≤ k ∧ k < j' + n'
                        · rw [if_pos r, if_pos (by omega), nL, if_neg (by omega), g5 _ (by omega)]
                          exact congrArg (mL M 210) (by omega)
                        · rw [if_neg r, if_neg (by omega), nL, if_neg (by omega), e5 k hk]
                      · rw [if_neg (by omega), if_neg (by omega), nL, if_neg (by omega), e5 k hk]
                · exact no4 (Or.inr r2)
              · exact no4 (Or.inl r1)
            · refine ⟨0, sI M 0 0 6, _, ?_, ?_, RR_st hR 6⟩
              · rw [cA, c_ty hL, y_ck hL, y_miss hL ht, bd_s, if_neg a1, if_pos rfl, c_ty hL, y_ck hL, y_miss hL hv, bd_s, if_neg a2, if_pos rfl, c_ty hL, y_s hL, y_gs hL ht, c_ty hL, y_s hL, y_gs hL hv, if_pos q3, if_neg q4, c_ck hL, c_no hL, bd_s, zc0]
              · have D := pre_md hL 6
                unfold f_X12_pour g_X12_pour
                rw [m_pre hL, if_neg x1, if_neg x2, if_neg x3, if_pos q2.2, m_r5 D.1, n_l D.1 ht, sR 6 209 (by decide) (by decide), if_neg a3, m_r5 D.1, n_l D.1 hv, sR 6 209 (by decide) (by decide), if_pos a4, m_r4 D.1, n_s D.1 ht, m_r4 D.1, n_s D.1 hv, sR 6 208 (by decide) (by decide), if_pos q3', if_neg q4, m_ck D.1, m_no hL, bd_s, zc0]
                rfl
          · have q3' : ¬ mI M 208 t = mI M 208 v := by rw [← g4, ← k4]; exact q3
            refine ⟨0, sI M 0 0 11, _, ?_, ?_, RR_st hR 11⟩
            · rw [cA, c_ty hL, y_ck hL, y_miss hL ht, bd_s, if_neg a1, if_pos rfl, c_ty hL, y_ck hL, y_miss hL hv, bd_s, if_neg a2, if_pos rfl, c_ty hL, y_s hL, y_gs hL ht, c_ty hL, y_s hL, y_gs hL hv, if_neg q3, c_ck hL, c_no hL, bd_s, zc0]
            · have D := pre_md hL 11
              unfold f_X12_pour g_X12_pour
              rw [m_pre hL, if_neg x1, if_neg x2, if_neg x3, if_pos q2.2, m_r5 D.1, n_l D.1 ht, sR 11 209 (by decide) (by decide), if_neg a3, m_r5 D.1, n_l D.1 hv, sR 11 209 (by decide) (by decide), if_pos a4, m_r4 D.1, n_s D.1 ht, m_r4 D.1, n_s D.1 hv, sR 11 208 (by decide) (by decide), if_neg q3', m_ck D.1, m_no hL, bd_s, zc0]
              rfl
    · refine ⟨0, sI M 0 0 1, _, ?_, ?_, RR_st hR 1⟩
      · unfold f_X11_pour g_X11_pour
        rw [c_ty hL, y_ck hL, y_has, bd_s, if_pos q1, if_neg (by decide), c_ty hL, y_ck hL, y_has, bd_s, if_neg q2, if_pos rfl, f_X11_pour_22, c_ck hL, c_no hL, bd_s, zc0]
      · have D := pre_md hL 1
        have e : zc (f_X12_pour_28 (pre M 1) (some 207)) = some (0, stM M 1) := by
          rw [f_X12_pour_28, m_ck D.1, m_no hL, bd_s, zc0]
          rfl
        unfold f_X12_pour g_X12_pour
        rw [m_pre hL, if_neg (Int32.not_lt.mpr q1.1), if_neg (Int32.not_le.mpr q1.2)]
        by_cases z : u < 0
        · rw [if_pos z]; exact e
        · rw [if_neg z, if_neg (fun w => q2 ⟨Int32.not_lt.mp z, w⟩)]; exact e
  · refine ⟨0, sI M 0 0 1, _, ?_, ?_, RR_st hR 1⟩
    · unfold f_X11_pour g_X11_pour
      rw [c_ty hL, y_ck hL, y_has, bd_s, if_neg q1, if_pos rfl, f_X11_pour_22, c_ck hL, c_no hL, bd_s, zc0]
    · have D := pre_md hL 1
      have e : zc (f_X12_pour_28 (pre M 1) (some 207)) = some (0, stM M 1) := by
        rw [f_X12_pour_28, m_ck D.1, m_no hL, bd_s, zc0]
        rfl
      unfold f_X12_pour g_X12_pour
      rw [m_pre hL]
      by_cases z : x < 0
      · rw [if_pos z]; exact e
      · rw [if_neg z]
        by_cases z2 : 4 ≤ x
        · rw [if_pos z2]; exact e
        · exact absurd ⟨Int32.not_lt.mp z, Int32.not_le.mp z2⟩ q1
