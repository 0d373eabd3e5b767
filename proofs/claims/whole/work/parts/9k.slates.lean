/-! SIGNS, FLOWN, LIKELIEST -/
def cntF (f : Nat → Int64) (w : Int64) (n : Nat) : Int32 := sm (fun k => if f k = w then 1 else 0) n
section C
variable {M : Mm} {a b y z : Nat}
theorem y_times (H : LL M a b y z) {t n : Nat} (ht : t < 4) (hn : n ≤ 60) (w : Int32) : f_X7_timesOf M (some 4) (nI t) (nI n) w = some (cntF (mL M (6 + t)) (Int32.toInt64 w) n, M) := by
  refine lup0 (fun f k => f_X7_timesOf_6 f M (some 4) (nI t) (nI n) w (cntF (mL M (6 + t)) (Int32.toInt64 w) k) (nI k)) n _ (by omega) (fun f k hk => ?_) (fun f => ?_)
  · rw [f_X7_timesOf_6, if_neg (by rw [nI_leI' (by omega) (by omega)]; omega), y_r H, y_rr H ht, y_g H ht (by omega)]
    conv => rhs; rw [cntF, sm]
    by_cases q : mL M (6 + t) k = Int32.toInt64 w
    · rw [if_pos ((lg_cmp_eq _ _).mpr q), if_pos q, f_X7_timesOf_30, nI_1]
      rfl
    · rw [if_neg (fun z => q ((lg_cmp_eq _ _).mp z)), if_neg q, f_X7_timesOf_30, nI_1, Int32.add_zero]
      rfl
  · rw [f_X7_timesOf_6, if_pos (Int32.le_refl _)]
end C
theorem rng_of {x : Int32} (hx : ¬ x < 1) : ∃ m, 1 ≤ m ∧ m < 2147483648 ∧ x = nI m := by
  have n0 : ¬ x < 0 := fun w => hx (Int32.lt_of_lt_of_le w (by decide))
  obtain ⟨m, hm, rfl⟩ := nI_of n0
  refine ⟨m, ?_, hm, rfl⟩
  rw [show (1 : Int32) = nI 1 from rfl, nI_ltI' hm (by omega)] at hx
  omega
theorem mx0 (x : Int32) : ∃ m, m < 2147483648 ∧ mxI 0 x = nI m ∧ (∀ n, n ≤ 60 → (m ≤ n ↔ x ≤ nI n)) ∧ (1 ≤ x → x = nI m) := by
  by_cases q : 0 < x
  · obtain ⟨m, hm, rfl⟩ := nI_of (fun w => Int32.lt_irrefl (Int32.lt_trans q w) : ¬ x < 0)
    refine ⟨m, hm, by unfold mxI; rw [if_pos q], fun n hn => (nI_leI' hm (by omega)).symm, fun _ => rfl⟩
  · refine ⟨0, by omega, by unfold mxI; rw [if_neg q]; rfl, fun n hn => ⟨fun _ => Int32.le_trans (Int32.not_lt.mp q) (nI_pos' (by omega)), fun _ => by omega⟩, fun h => absurd (Int32.lt_of_lt_of_le (by decide) h) q⟩
theorem op_signs (x n : Int32) : opI (fun M => f_X11_signs M (some 0) x n) (fun M => f_X12_signs M (some 207) x n) := by
  (refine opI_st fun M a b y z H => ?_; have hL := H.1; have S := H.2.1; have O := S.2.2; have h8 := (ok_h O).2; have g4 := (ok_g O).2; have w6 := (ok_w O).2; have L := S.1)
  have hT := H.2.2.2.2.2.2.2.1
  obtain ⟨m, hm, mx, m60, m1⟩ := mx0 n
  have hc := y_why hL x 0 (mxI 0 n)
  have no : ∀ s : Int32, f_X7_whyNot M (some 4) x 0 (mxI 0 n) = some (s, M) → s ≠ 0 → f_X11_signs M (some 0) x n = some (-1, sI M 0 0 s) := fun s h h0 => by
    unfold f_X11_signs
    rw [c_ty hL, y_ck hL, h, bd_s, if_neg h0, c_ck hL, c_none hL, bd_s]
  by_cases q1 : 0 ≤ x ∧ x < 4
  · obtain ⟨t, ht, rfl⟩ := tIx q1
    rw [if_pos q1, nI_cl (by omega)] at hc
    rcases hT t ht with ⟨h, h'⟩ | ⟨n1, g1, g2, g3, g4, g5⟩
    · rw [if_pos h] at hc
      refine ⟨-1, 3, no 3 hc (by decide), ?_⟩
      have D := pre_md hL 3
      unfold f_X12_signs
      rw [m_pre hL, m_ck D.1, n_isTray, bd_s, if_pos q1, if_neg (by decide), m_r5 D.1, n_l D.1 ht, pre_o (by decide) (by decide), h', if_neg (by decide), m_ck D.1, m_refuse hL, bd_s]
      rfl
    · rw [if_neg (by rw [g2]; exact neg1_ne (by omega)), g2, mx] at hc
      have a1 : 0 ≤ mI M 209 t := by rw [g3]; exact nI_pos' (by omega)
      have ri := reach_iff (p := 0) (q := m) (n := n1) (by omega) hm g1
      rw [show nI 0 = (0 : Int32) from rfl, Nat.zero_add] at ri
      by_cases q2 : m ≤ n1
      · rw [if_pos (ri.mpr q2)] at hc
        have q2' : n ≤ nI n1 := (m60 n1 g1).mp q2
        rw [← mx] at hc
        by_cases q3 : 1 ≤ n
        · have en := m1 q3
          subst en
          have e1 : 1 ≤ m := by
            rw [show (1 : Int32) = nI 1 from rfl, nI_leI' (by omega) hm] at q3
            exact q3
          have i60 : ((1 : Int64) ≤ Int32.toInt64 (nI m) ∧ Int32.toInt64 (nI m) ≤ 60) := by
            rw [j1, u60, show (1 : Int32) = nI 1 from rfl, show (60 : Int32) = nI 60 from rfl, nI_leI' (by omega) (by omega), nI_leI' (by omega) (by omega)]
            omega
          have wi := y_within hL ht (show m ≤ 60 by omega) (mI M 212 0 - 1)
          have eq1 : ∀ k, k < m → mL M (6 + t) k = mL M 210 (60 * t + k) := fun k hk => g5 k (by omega)
          have mdl : ∀ s, f_X12_signs (sI M 0 0 s) (some 207) (nI t) (nI m) = f_X12_signs_75 fu (pre M s) (some 207) (nI t) (nI m) 0 := fun s => by
            have D := pre_md hL s
            unfold f_X12_signs
            rw [m_pre hL, m_ck D.1, n_isTray, bd_s, if_pos q1, if_neg (by decide), m_r5 D.1, n_l D.1 ht, pre_o (by decide) (by decide), if_pos a1, m_r5 D.1, n_l D.1 ht, pre_o (by decide) (by decide), g3, if_pos q2', q_isIn, bd_s, if_pos i60, if_neg (by decide)]
          have pL : ∀ s, mL (pre M s) = mL M := fun s => rfl
          have step : ∀ s f k, k < m → (0 ≤ mL M (6 + t) k ∧ mL M (6 + t) k ≤ Int32.toInt64 (mI M 212 0 - 1)) → f_X12_signs_75 (f + 1) (pre M s) (some 207) (nI t) (nI m) (nI k) = f_X12_signs_75 f (pre M s) (some 207) (nI t) (nI m) (nI (k + 1)) := fun s f k hk h => by
            have D := pre_md hL s
            rw [f_X12_signs_75, if_neg (by rw [nI_leI' (by omega) (by omega)]; omega), m_ck D.1, n_num D.1 ht (by omega), bd_s, m_r20 D.1, m_c0 D, q_isIn, bd_s, pL, ← eq1 k hk, if_pos h, if_neg (by decide), nI_1]
          by_cases q4 : ∀ k, k < m → 0 ≤ mL M (6 + t) k ∧ mL M (6 + t) k ≤ Int32.toInt64 (mI M 212 0 - 1)
          · rw [if_pos q4] at wi
            obtain ⟨v, hv⟩ : ∃ v : Nat → Int32, v = fun h => mxI 0 (cntF (mL M (6 + t)) (Int32.toInt64 (nI h)) m - mI M 212 (21 + h)) := ⟨_, rfl⟩
            have ev : ∀ h, mxI 0 (cntF (mL M (6 + t)) (Int32.toInt64 (nI h)) m - mI M 212 (21 + h)) = v h := fun h => by rw [hv]
            refine ⟨sm v (hN (mI M 212)), 0, ?_, ?_⟩
            · unfold f_X11_signs
              rw [c_ty hL, y_ck hL, hc, bd_s, if_pos rfl, if_pos q3, c_ty hL, c_sh hL, e_hc S, y_ck hL, wi, bd_s, if_neg (by decide)]
              refine lup0 (fun f k => f_X11_signs_69 f M (some 0) (nI t) (nI m) (sm v k) (nI k)) (hN (mI M 212)) _ (by omega) (fun f k hk => ?_) (fun f => ?_)
              · rw [f_X11_signs_69]
                simp (disch := omega) only [↓c_ck hL, ↓c_gI hL, ↓c_sh hL, ↓c_answer hL, ↓c_none hL, ↓c_no hL, ↓c_yes hL, ↓c_isHouse hL S, ↓c_isGang hL S, ↓q_within, ↓bd_s, ↓bv_s, ↓nmI_s, nI_1, ↓reduceIte, ite01z, not_true_eq_false, not_false_eq_true, if_true, if_false, z10, ↓e_hc S, ↓e_gc S, ↓e_wc S, ↓e_law S, ↓e_min S, ↓l_hs S.1, ↓l_gs S.1, ↓l_ws S.1, ↓l_ds S.1, ↓l_h S.1, ↓l_g S.1, ↓l_w S.1, ↓l_d S.1, ↓e_db S, ↓e_hat S, ↓e_hwo S, ↓e_hpi S, ↓e_hwe S, ↓e_hlo S, ↓e_hpe S, ↓e_hon S, ↓e_hsd S, ↓e_gho S, ↓e_gha S, ↓e_gpa S, ↓e_gat S, ↓e_ghd S, ↓e_gwa S, ↓e_gpc S, ↓e_wst S, ↓e_wch S, ↓lc_h S.1, ↓lc_g S.1, ↓lc_s S.1, eq_false (hc_in O hk), ↓c_ty hL, ↓y_ck hL, y_times hL ht (show m ≤ 60 by omega), ev, sm]
              · rw [f_X11_signs_69]
                simp (disch := omega) only [↓c_ck hL, ↓c_gI hL, ↓c_sh hL, ↓c_answer hL, ↓c_none hL, ↓c_no hL, ↓c_yes hL, ↓c_isHouse hL S, ↓c_isGang hL S, ↓q_within, ↓bd_s, ↓bv_s, ↓nmI_s, nI_1, ↓reduceIte, ite01z, not_true_eq_false, not_false_eq_true, if_true, if_false, z10, ↓e_hc S, ↓e_gc S, ↓e_wc S, ↓e_law S, ↓e_min S, ↓l_hs S.1, ↓l_gs S.1, ↓l_ws S.1, ↓l_ds S.1, ↓l_h S.1, ↓l_g S.1, ↓l_w S.1, ↓l_d S.1, ↓e_db S, ↓e_hat S, ↓e_hwo S, ↓e_hpi S, ↓e_hwe S, ↓e_hlo S, ↓e_hpe S, ↓e_hon S, ↓e_hsd S, ↓e_gho S, ↓e_gha S, ↓e_gpa S, ↓e_gat S, ↓e_ghd S, ↓e_gwa S, ↓e_gpc S, ↓e_wst S, ↓e_wch S, ↓lc_h S.1, ↓lc_g S.1, ↓lc_s S.1, eq_true (hc_out O)]
            · rw [mdl]
              have D := pre_md hL 0
              refine lup0 (fun f k => f_X12_signs_75 f (pre M 0) (some 207) (nI t) (nI m) (nI k)) m _ (by omega) (fun f k hk => step 0 f k hk (q4 k hk)) (fun f => ?_)
              rw [f_X12_signs_75, if_pos (Int32.le_refl _)]
              refine lup0 (fun f k => f_X12_signs_119 f (pre M 0) (some 207) (nI t) (nI m) (sm v k) (nI k)) (hN (mI M 212)) _ (by omega) (fun f k hk => ?_) (fun f => ?_)
              · rw [f_X12_signs_119]
                simp (disch := omega) only [↓q_isIn, j0, j1, u1, u3, u4, u5, u8, u9, u20, u60, u99, u100, u240, u9999, ite01z, not_true_eq_false, not_false_eq_true, if_true, if_false, z10, ↓m_r4 D.1, ↓m_r5 D.1, ↓m_r6 D.1, ↓m_r7 D.1, ↓m_r20 D.1, ↓m_r21 D.1, ↓m_r22 D.1, ↓m_r27 D.1, ↓m_r28 D.1, ↓m_r29 D.1, ↓m_r31 D.1, ↓m_r32 D.1, ↓m_r35 D.1, ↓m_ck D.1, ↓m_c0 D, ↓m_c1 D, ↓m_c2 D, ↓m_c3 D, ↓m_c4 D, ↓m_c D, i2, i3, i4, i5, i13, i21, i29, i37, i45, i53, i61, i69, i133, i137, i141, i145, i149, i153, i157, i161, i167, i4m, i6m, i8m, i9m, i18m, i60m, i256m, i450m, nI_add, ↓nmI_s, ↓bd_s, ↓bv_s, nI_1, ↓reduceIte, eq_false (hc_in O hk)]
                refine lup0 (fun i o => f_X12_signs_136 (f_X12_signs_119 f) i (pre M 0) (some 207) (nI t) (nI m) (sm v k) (nI k) (cntF (mL M (6 + t)) (Int32.toInt64 (nI k)) o) (nI o)) m _ (by omega) (fun i o ho => ?_) (fun i => ?_)
                · rw [f_X12_signs_136, if_neg (by rw [nI_leI' (by omega) (by omega)]; omega), m_ck D.1, n_num D.1 ht (by omega), bd_s, pL, ← eq1 o ho]
                  conv => rhs; rw [cntF, sm]
                  by_cases q : mL M (6 + t) o = Int32.toInt64 (nI k)
                  · rw [if_pos ((lg_cmp_eq _ _).mpr q), if_pos q, f_X12_signs_163, nmI_s, nI_1]
                    rfl
                  · rw [if_neg (fun z => q ((lg_cmp_eq _ _).mp z)), if_neg q, f_X12_signs_163, nmI_s, nI_1]
                    rfl
                · rw [f_X12_signs_136, if_pos (Int32.le_refl _)]
                  simp (disch := omega) only [↓m_r4 D.1, ↓m_r5 D.1, ↓m_r6 D.1, ↓m_r7 D.1, ↓m_r20 D.1, ↓m_r21 D.1, ↓m_r22 D.1, ↓m_r27 D.1, ↓m_r28 D.1, ↓m_r29 D.1, ↓m_r31 D.1, ↓m_r32 D.1, ↓m_r35 D.1, ↓m_ck D.1, ↓m_c0 D, ↓m_c1 D, ↓m_c2 D, ↓m_c3 D, ↓m_c4 D, ↓m_c D, i2, i3, i4, i5, i13, i21, i29, i37, i45, i53, i61, i69, i133, i137, i141, i145, i149, i153, i157, i161, i167, i4m, i6m, i8m, i9m, i18m, i60m, i256m, i450m, nI_add, ↓nmI_s, ↓bd_s, ↓bv_s, nI_1, ↓reduceIte, ev, sm]
              · rw [f_X12_signs_119]
                simp (disch := omega) only [↓q_isIn, j0, j1, u1, u3, u4, u5, u8, u9, u20, u60, u99, u100, u240, u9999, ite01z, not_true_eq_false, not_false_eq_true, if_true, if_false, z10, ↓m_r4 D.1, ↓m_r5 D.1, ↓m_r6 D.1, ↓m_r7 D.1, ↓m_r20 D.1, ↓m_r21 D.1, ↓m_r22 D.1, ↓m_r27 D.1, ↓m_r28 D.1, ↓m_r29 D.1, ↓m_r31 D.1, ↓m_r32 D.1, ↓m_r35 D.1, ↓m_ck D.1, ↓m_c0 D, ↓m_c1 D, ↓m_c2 D, ↓m_c3 D, ↓m_c4 D, ↓m_c D, i2, i3, i4, i5, i13, i21, i29, i37, i45, i53, i61, i69, i133, i137, i141, i145, i149, i153, i157, i161, i167, i4m, i6m, i8m, i9m, i18m, i60m, i256m, i450m, nI_add, ↓nmI_s, ↓bd_s, ↓bv_s, nI_1, ↓reduceIte, eq_true (hc_out O)]
                rfl
          · rw [if_neg q4] at wi
            refine ⟨-1, 2, ?_, ?_⟩
            · unfold f_X11_signs
              rw [c_ty hL, y_ck hL, hc, bd_s, if_pos rfl, if_pos q3, c_ty hL, c_sh hL, e_hc S, y_ck hL, wi, bd_s, if_pos rfl, c_ck hL, c_none hL, bd_s]
            · rw [mdl]
              have D := pre_md hL 2
              obtain ⟨j, ⟨j1, j2⟩, j3⟩ := pk_least (fun k => k < m ∧ ¬ (0 ≤ mL M (6 + t) k ∧ mL M (6 + t) k ≤ Int32.toInt64 (mI M 212 0 - 1))) (Classical.byContradiction fun hn => q4 fun k hk => Classical.byContradiction fun hh => hn ⟨k, hk, hh⟩)
              refine lup0 (fun f k => f_X12_signs_75 f (pre M 2) (some 207) (nI t) (nI m) (nI k)) j _ (by omega) (fun f k hk => step 2 f k (by omega) (Classical.byContradiction fun hh => j3 k hk ⟨by omega, hh⟩)) (fun f => ?_)
              rw [f_X12_signs_75, if_neg (by rw [nI_leI' (by omega) (by omega)]; omega), m_ck D.1, n_num D.1 ht (by omega), bd_s, m_r20 D.1, m_c0 D, q_isIn, bd_s, pL, ← eq1 j j1, if_neg j2, if_pos rfl, m_ck D.1, m_refuse hL, bd_s]
              rfl
        · refine ⟨-1, 5, ?_, ?_⟩
          · unfold f_X11_signs
            rw [c_ty hL, y_ck hL, hc, bd_s, if_pos rfl, if_neg q3, c_ck hL, c_none hL, bd_s]
          · have D := pre_md hL 5
            unfold f_X12_signs
            rw [m_pre hL, m_ck D.1, n_isTray, bd_s, if_pos q1, if_neg (by decide), m_r5 D.1, n_l D.1 ht, pre_o (by decide) (by decide), if_pos a1, m_r5 D.1, n_l D.1 ht, pre_o (by decide) (by decide), g3, if_pos q2', q_isIn, bd_s, if_neg (show ¬ ((1 : Int64) ≤ Int32.toInt64 n ∧ Int32.toInt64 n ≤ 60) from fun w => by rw [j1] at w; exact q3 w.1), if_pos rfl, m_ck D.1, m_refuse hL, bd_s]
            rfl
      · rw [if_neg (fun z => q2 (ri.mp z)), ← mx] at hc
        refine ⟨-1, 4, no 4 hc (by decide), ?_⟩
        have D := pre_md hL 4
        unfold f_X12_signs
        rw [m_pre hL, m_ck D.1, n_isTray, bd_s, if_pos q1, if_neg (by decide), m_r5 D.1, n_l D.1 ht, pre_o (by decide) (by decide), if_pos a1, m_r5 D.1, n_l D.1 ht, pre_o (by decide) (by decide), g3, if_neg (fun z => q2 ((m60 n1 g1).mpr z)), m_ck D.1, m_refuse hL, bd_s]
        rfl
  · rw [if_neg q1] at hc
    refine ⟨-1, 1, no 1 hc (by decide), ?_⟩
    have D := pre_md hL 1
    unfold f_X12_signs
    rw [m_pre hL, m_ck D.1, n_isTray, bd_s, if_neg q1, if_pos rfl, m_ck D.1, m_refuse hL, bd_s]
    rfl
/-- the winds by which just the set s falls -/
def fitW (c : Nat → Int32) (s : Int32) : Int32 := st (fun w => st (falls c (c (161 + w))) (hN c) = s) (wN c)
theorem st_and {p q : Nat → Prop} [DecidablePred p] [DecidablePred q] {n : Nat} (hn : n ≤ 8) : st p n &&& st q n = st (fun k => p k ∧ q k) n := by
  rw [st_nI _ (by omega), st_nI _ (by omega), st_nI _ (by omega), nI_and]
  have l1 := stN_lt p n
  have l2 := stN_lt (fun k => p k ∧ q k) n
  have p2 : 2 ^ n ≤ 2 ^ 8 := Nat.pow_le_pow_right (by omega) hn
  refine congrArg nI (bit_ext (n := 8) (Nat.lt_of_le_of_lt Nat.and_le_left (by omega)) (by omega) fun k hk => ?_)
  rw [Nat.testBit_and, stN_bit, stN_bit, stN_bit]
  by_cases h1 : k < n <;> by_cases h2 : p k <;> by_cases h3 : q k <;> simp [h1, h2, h3]
/-- why there is no telling what flew, and which winds fit -/
theorem flown_why {M : Mm} {a b y z : Nat} (H : RA M a b y z) (x : Int32) : ∃ w r : Int32, f_X11_whyNotFlown M (some 0) x = some (w, M) ∧ (w = 0 → f_X11_windsThatFit M (some 0) x = some (r, M)) ∧ (∀ s, f_X12_flownBy (pre M s) (some 207) x = if w = 0 then some (r, pre M s) else some (-1, sI (sI (sI M 0 0 s) 207 1 0) 207 0 w)) ∧ (w = 0 ∨ ¬ w ≤ 0) ∧ (w = 0 → ∃ q, q < 64 ∧ r = nI q) := by
  have hL := H.1
  have S := H.2.1
  have O := S.2.2
  have h8 := (ok_h O).2
  have w6 := (ok_w O).2
  have hT := H.2.2.2.2.2.2.2.1
  have eh := (ok_h O).1
  have hc := y_why hL x 0 (mI M 212 0)
  have pL : ∀ s, mL (pre M s) = mL M := fun s => rfl
  have no : ∀ w : Int32, f_X7_whyNot M (some 4) x 0 (mI M 212 0) = some (w, M) → w ≠ 0 → f_X11_whyNotFlown M (some 0) x = some (w, M) := fun w h h0 => by
    unfold f_X11_whyNotFlown
    rw [c_ty hL, c_sh hL, e_hc S, y_ck hL, h, bd_s, if_neg h0]
  by_cases q1 : 0 ≤ x ∧ x < 4
  · obtain ⟨t, ht, rfl⟩ := tIx q1
    rw [if_pos q1, nI_cl (by omega)] at hc
    rcases hT t ht with ⟨h, h'⟩ | ⟨n1, g1, g2, g3, g4, g5⟩
    · rw [if_pos h] at hc
      refine ⟨3, 0, no 3 hc (by decide), fun z => absurd z (by decide), fun s => ?_, Or.inr (by decide), fun z => absurd z (by decide)⟩
      have D := pre_md hL s
      unfold f_X12_flownBy
      rw [m_ck D.1, n_isTray, bd_s, if_pos q1, if_neg (by decide), m_r5 D.1, n_l D.1 ht, pre_o (by decide) (by decide), h', if_neg (by decide), m_ck D.1, m_refuse hL, bd_s, if_neg (by decide)]
    · rw [if_neg (by rw [g2]; exact neg1_ne (by omega)), g2, eh] at hc
      have a1 : 0 ≤ mI M 209 t := by rw [g3]; exact nI_pos' (by omega)
      have ri := reach_iff (p := 0) (q := hN (mI M 212)) (n := n1) (by omega) (by omega) g1
      rw [show nI 0 = (0 : Int32) from rfl, Nat.zero_add] at ri
      by_cases q2 : hN (mI M 212) ≤ n1
      · rw [if_pos (ri.mpr q2), ← eh] at hc
        have q2' : mI M 212 0 ≤ nI n1 := by rw [eh, nI_leI' (by omega) (by omega)]; exact q2
        have wi := y_within hL ht (show hN (mI M 212) ≤ 60 by omega) 1
        rw [← eh] at wi
        have eq1 : ∀ k, k < hN (mI M 212) → mL M (6 + t) k = mL M 210 (60 * t + k) := fun k hk => g5 k (by omega)
        have e64 : Int32.toInt64 1 = 1 := by decide
        rw [e64] at wi
        have wnf : f_X11_whyNotFlown M (some 0) (nI t) = some (if ∀ k, k < hN (mI M 212) → 0 ≤ mL M (6 + t) k ∧ mL M (6 + t) k ≤ 1 then 0 else 5, M) := by
          unfold f_X11_whyNotFlown
          rw [c_ty hL, c_sh hL, e_hc S, y_ck hL, hc, bd_s, if_pos rfl, c_ty hL, c_sh hL, e_hc S, y_ck hL, wi, bd_s]
          by_cases q : ∀ k, k < hN (mI M 212) → 0 ≤ mL M (6 + t) k ∧ mL M (6 + t) k ≤ 1
          · rw [if_pos q, if_pos q, if_neg (by decide)]
          · rw [if_neg q, if_neg q, if_pos rfl]
        have mdl : ∀ s, f_X12_flownBy (pre M s) (some 207) (nI t) = f_X12_flownBy_54 fu (pre M s) (some 207) (nI t) 0 0 := fun s => by
          have D := pre_md hL s
          unfold f_X12_flownBy
          rw [m_ck D.1, n_isTray, bd_s, if_pos q1, if_neg (by decide), m_r5 D.1, n_l D.1 ht, pre_o (by decide) (by decide), if_pos a1, m_r5 D.1, n_l D.1 ht, pre_o (by decide) (by decide), m_r20 D.1, m_c0 D, g3, if_pos q2']
        have step : ∀ s f k, k < hN (mI M 212) → (0 ≤ mL M (6 + t) k ∧ mL M (6 + t) k ≤ 1) → f_X12_flownBy_54 (f + 1) (pre M s) (some 207) (nI t) (st (fun h => mI M 212 (61 + h) = 1 ∧ mL M (6 + t) h = 1) k) (nI k) = f_X12_flownBy_54 f (pre M s) (some 207) (nI t) (st (fun h => mI M 212 (61 + h) = 1 ∧ mL M (6 + t) h = 1) (k + 1)) (nI (k + 1)) := fun s f k hk h => by
          have D := pre_md hL s
          rw [f_X12_flownBy_54, m_r20 D.1, m_c0 D, if_neg (hc_in O hk), m_ck D.1, n_num D.1 ht (by omega), bd_s, q_isIn, bd_s, pL, ← eq1 k hk, if_pos h, if_neg (by decide), m_ck D.1, q_stands D (by omega), bd_s]
          by_cases s1 : mI M 212 (61 + k) = 1
          · rw [if_pos s1, if_neg (by decide), m_ck D.1, n_num D.1 ht (by omega), bd_s, pL, ← eq1 k hk]
            by_cases s2 : mL M (6 + t) k = 1
            · rw [if_pos ((lg_cmp_eq _ _).mpr s2), st_y (p := fun h => mI M 212 (61 + h) = 1 ∧ mL M (6 + t) h = 1) ⟨s1, s2⟩, f_X12_flownBy_111, nmI_s, nI_1]
            · rw [if_neg (fun z => s2 ((lg_cmp_eq _ _).mp z)), st_n (fun z => s2 z.2), f_X12_flownBy_110, f_X12_flownBy_111, or0, nmI_s, nI_1]
          · rw [if_neg s1, if_pos rfl, st_n (fun z => s1 z.1), f_X12_flownBy_110, f_X12_flownBy_111, or0, nmI_s, nI_1]
        by_cases q4 : ∀ k, k < hN (mI M 212) → 0 ≤ mL M (6 + t) k ∧ mL M (6 + t) k ≤ 1
        · rw [if_pos q4] at wnf
          have b01 : ∀ k, k < hN (mI M 212) → mL M (6 + t) k = 0 ∨ mL M (6 + t) k = 1 := fun k hk => by
            have := q4 k hk
            rw [Int64.le_iff_toInt_le, Int64.le_iff_toInt_le, Int64.toInt_zero, show (1 : Int64).toInt = 1 from by decide] at this
            rcases (show (mL M (6 + t) k).toInt = 0 ∨ (mL M (6 + t) k).toInt = 1 by omega) with z | z
            · exact Or.inl (Int64.toInt_inj.mp (by rw [z, Int64.toInt_zero]))
            · exact Or.inr (Int64.toInt_inj.mp (by rw [z]; decide))
          refine ⟨0, fitW (mI M 212) (st (fun h => mI M 212 (61 + h) = 1 ∧ mL M (6 + t) h = 1) (hN (mI M 212))), wnf, fun _ => ?_, fun s => ?_, Or.inl rfl, fun _ => ?_⟩
          · refine lup0 (fun f k => f_X11_windsThatFit_4 f M (some 0) (nI t) (st (fun h => mL M (6 + t) h = 1) k) (nI k)) (hN (mI M 212)) _ (by omega) (fun f k hk => ?_) (fun f => ?_)
            · rw [f_X11_windsThatFit_4, c_sh hL, e_hc S, if_neg (hc_in O hk), c_ty hL, y_r hL, y_rr hL ht, y_g hL ht (by omega), nmI_s, nI_1]
              rcases b01 k hk with z | z
              · rw [z, st_n (by rw [z]; decide)]
                have : ((0 : Int64).toInt32 <<< (nI k &&& 31)) = 0 := by
                  have : ∀ k, k < 8 → ((0 : Int64).toInt32 <<< (nI k &&& 31)) = 0 := by decide +kernel
                  exact this k (by omega)
                rw [this, or0]
              · rw [z, st_y z]
                rfl
            · rw [f_X11_windsThatFit_4, c_sh hL, e_hc S, if_pos (hc_out O), c_sh hL, lc_s S.1, p_standing S, bd_s, nmI_s, st_and h8]
              have ec : st (fun k => mL M (6 + t) k = 1 ∧ mI M 212 (61 + k) = 1) (hN (mI M 212)) = st (fun h => mI M 212 (61 + h) = 1 ∧ mL M (6 + t) h = 1) (hN (mI M 212)) := st_cong fun k _ => And.comm
              rw [ec]
              refine lup0 (fun i k => f_X11_windsThatFit_53 i M (some 0) (st (fun h => mI M 212 (61 + h) = 1 ∧ mL M (6 + t) h = 1) (hN (mI M 212))) (st (fun w => st (falls (mI M 212) (mI M 212 (161 + w))) (hN (mI M 212)) = st (fun h => mI M 212 (61 + h) = 1 ∧ mL M (6 + t) h = 1) (hN (mI M 212))) k) (nI k)) (wN (mI M 212)) _ (by omega) (fun i k hk => ?_) (fun i => ?_)
              · rw [f_X11_windsThatFit_53, c_sh hL, e_wc S, if_neg (wc_in O hk), c_sh hL, c_sh hL, e_ws S, e_w S (by omega), e_wst S hk, lc_s S.1, p_falling S, bd_s]
                by_cases q : st (falls (mI M 212) (mI M 212 (161 + k))) (hN (mI M 212)) = st (fun h => mI M 212 (61 + h) = 1 ∧ mL M (6 + t) h = 1) (hN (mI M 212))
                · rw [if_pos q, st_y (p := fun w => st (falls (mI M 212) (mI M 212 (161 + w))) (hN (mI M 212)) = st (fun h => mI M 212 (61 + h) = 1 ∧ mL M (6 + t) h = 1) (hN (mI M 212))) q, nmI_s, f_X11_windsThatFit_96, nI_1]
                · rw [if_neg q, st_n q, f_X11_windsThatFit_96, nI_1]
              · rw [f_X11_windsThatFit_53, c_sh hL, e_wc S, if_pos (wc_out O)]
                rfl
          · have D := pre_md hL s
            rw [mdl, if_pos rfl]
            refine lup0 (fun f k => f_X12_flownBy_54 f (pre M s) (some 207) (nI t) (st (fun h => mI M 212 (61 + h) = 1 ∧ mL M (6 + t) h = 1) k) (nI k)) (hN (mI M 212)) _ (by omega) (fun f k hk => step s f k hk (q4 k hk)) (fun f => ?_)
            rw [f_X12_flownBy_54, m_r20 D.1, m_c0 D, if_pos (hc_out O)]
            refine lup0 (fun i k => f_X12_flownBy_124 i (pre M s) (some 207) (st (fun h => mI M 212 (61 + h) = 1 ∧ mL M (6 + t) h = 1) (hN (mI M 212))) (st (fun w => st (falls (mI M 212) (mI M 212 (161 + w))) (hN (mI M 212)) = st (fun h => mI M 212 (61 + h) = 1 ∧ mL M (6 + t) h = 1) (hN (mI M 212))) k) (nI k)) (wN (mI M 212)) _ (by omega) (fun i k hk => ?_) (fun i => ?_)
            · rw [f_X12_flownBy_124]
              simp (disch := omega) only [↓m_r4 D.1, ↓m_r5 D.1, ↓m_r6 D.1, ↓m_r7 D.1, ↓m_r20 D.1, ↓m_r21 D.1, ↓m_r22 D.1, ↓m_r27 D.1, ↓m_r28 D.1, ↓m_r29 D.1, ↓m_r31 D.1, ↓m_r32 D.1, ↓m_r35 D.1, ↓m_ck D.1, ↓m_c0 D, ↓m_c1 D, ↓m_c2 D, ↓m_c3 D, ↓m_c4 D, ↓m_c D, i2, i3, i4, i5, i13, i21, i29, i37, i45, i53, i61, i69, i133, i137, i141, i145, i149, i153, i157, i161, i167, i4m, i6m, i8m, i9m, i18m, i60m, i256m, i450m, nI_add, ↓nmI_s, ↓bd_s, ↓bv_s, nI_1, ↓reduceIte, eq_false (wc_in O hk), if_false, q_fallSet D O]
              by_cases q : st (falls (mI M 212) (mI M 212 (161 + k))) (hN (mI M 212)) = st (fun h => mI M 212 (61 + h) = 1 ∧ mL M (6 + t) h = 1) (hN (mI M 212))
              · rw [if_pos q, st_y (p := fun w => st (falls (mI M 212) (mI M 212 (161 + w))) (hN (mI M 212)) = st (fun h => mI M 212 (61 + h) = 1 ∧ mL M (6 + t) h = 1) (hN (mI M 212))) q, f_X12_flownBy_163, nmI_s, nI_1]
              · rw [if_neg q, st_n q, f_X12_flownBy_163, or0, nmI_s, nI_1]
            · rw [f_X12_flownBy_124]
              simp (disch := omega) only [↓m_r4 D.1, ↓m_r5 D.1, ↓m_r6 D.1, ↓m_r7 D.1, ↓m_r20 D.1, ↓m_r21 D.1, ↓m_r22 D.1, ↓m_r27 D.1, ↓m_r28 D.1, ↓m_r29 D.1, ↓m_r31 D.1, ↓m_r32 D.1, ↓m_r35 D.1, ↓m_ck D.1, ↓m_c0 D, ↓m_c1 D, ↓m_c2 D, ↓m_c3 D, ↓m_c4 D, ↓m_c D, i2, i3, i4, i5, i13, i21, i29, i37, i45, i53, i61, i69, i133, i137, i141, i145, i149, i153, i157, i161, i167, i4m, i6m, i8m, i9m, i18m, i60m, i256m, i450m, nI_add, ↓nmI_s, ↓bd_s, ↓bv_s, nI_1, ↓reduceIte, eq_true (wc_out O), if_true]
              rfl
          · have l := stN_lt (fun w => st (falls (mI M 212) (mI M 212 (161 + w))) (hN (mI M 212)) = st (fun h => mI M 212 (61 + h) = 1 ∧ mL M (6 + t) h = 1) (hN (mI M 212))) (wN (mI M 212))
            have p2 : 2 ^ wN (mI M 212) ≤ 2 ^ 6 := Nat.pow_le_pow_right (by omega) w6
            exact ⟨_, by omega, st_nI _ (by omega)⟩
        · rw [if_neg q4] at wnf
          refine ⟨5, 0, wnf, fun z => absurd z (by decide), fun s => ?_, Or.inr (by decide), fun z => absurd z (by decide)⟩
          have D := pre_md hL s
          obtain ⟨j, ⟨j1, j2⟩, j3⟩ := pk_least (fun k => k < hN (mI M 212) ∧ ¬ (0 ≤ mL M (6 + t) k ∧ mL M (6 + t) k ≤ 1)) (Classical.byContradiction fun hn => q4 fun k hk => Classical.byContradiction fun hh => hn ⟨k, hk, hh⟩)
          rw [mdl, if_neg (by decide)]
          refine lup0 (fun f k => f_X12_flownBy_54 f (pre M s) (some 207) (nI t) (st (fun h => mI M 212 (61 + h) = 1 ∧ mL M (6 + t) h = 1) k) (nI k)) j _ (by omega) (fun f k hk => step s f k (by omega) (Classical.byContradiction fun hh => j3 k hk ⟨by omega, hh⟩)) (fun f => ?_)
          rw [f_X12_flownBy_54, m_r20 D.1, m_c0 D, if_neg (hc_in O j1), m_ck D.1, n_num D.1 ht (by omega), bd_s, q_isIn, bd_s, pL, ← eq1 j j1, if_neg j2, if_pos rfl, m_ck D.1, m_refuse hL, bd_s]
      · rw [if_neg (fun z => q2 (ri.mp z)), ← eh] at hc
        refine ⟨4, 0, no 4 hc (by decide), fun z => absurd z (by decide), fun s => ?_, Or.inr (by decide), fun z => absurd z (by decide)⟩
        have D := pre_md hL s
        have q2' : ¬ mI M 212 0 ≤ nI n1 := by rw [eh, nI_leI' (by omega) (by omega)]; exact q2
        unfold f_X12_flownBy
        rw [m_ck D.1, n_isTray, bd_s, if_pos q1, if_neg (by decide), m_r5 D.1, n_l D.1 ht, pre_o (by decide) (by decide), if_pos a1, m_r5 D.1, n_l D.1 ht, pre_o (by decide) (by decide), m_r20 D.1, m_c0 D, g3, if_neg q2', m_ck D.1, m_refuse hL, bd_s, if_neg (by decide)]
  · rw [if_neg q1] at hc
    refine ⟨1, 0, no 1 hc (by decide), fun z => absurd z (by decide), fun s => ?_, Or.inr (by decide), fun z => absurd z (by decide)⟩
    have D := pre_md hL s
    unfold f_X12_flownBy
    rw [m_ck D.1, n_isTray, bd_s, if_neg q1, if_pos rfl, m_ck D.1, m_refuse hL, bd_s, if_neg (by decide)]
theorem op_flown (x : Int32) : opI (fun M => f_X11_flown M (some 0) x) (fun M => f_X12_flown M (some 207) x) := by
  (refine opI_st fun M a b y z H => ?_; have hL := H.1; have S := H.2.1; have O := S.2.2; have h8 := (ok_h O).2; have g4 := (ok_g O).2; have w6 := (ok_w O).2; have L := S.1)
  obtain ⟨w, r, h1, h2, h3, h4, -⟩ := flown_why H x
  by_cases q : w = 0
  · subst q
    refine ⟨r, 0, ?_, ?_⟩
    · unfold f_X11_flown
      rw [c_ck hL, h1, bd_s, if_pos rfl, c_ck hL, h2 rfl, bd_s, c_ck hL, c_answer hL, bd_s]
    · have D := pre_md hL 0
      unfold f_X12_flown
      rw [m_pre hL, m_ck D.1, h3, if_pos rfl, bd_s]
      rfl
  · refine ⟨-1, w, ?_, ?_⟩
    · unfold f_X11_flown
      rw [c_ck hL, h1, bd_s, if_neg q, c_ck hL, c_none hL, bd_s]
    · have D := pre_md hL w
      unfold f_X12_flown
      rw [m_pre hL, m_ck D.1, h3, if_neg q, bd_s]
      rfl
theorem op_likeliest (x : Int32) : opI (fun M => f_X11_likeliest M (some 0) x) (fun M => f_X12_likeliest M (some 207) x) := by
  (refine opI_st fun M a b y z H => ?_; have hL := H.1; have S := H.2.1; have O := S.2.2; have h8 := (ok_h O).2; have g4 := (ok_g O).2; have w6 := (ok_w O).2; have L := S.1)
  obtain ⟨w, r, h1, h2, h3, h4, -⟩ := flown_why H x
  by_cases q : w = 0
  · subst q
    obtain ⟨p, hp⟩ : ∃ p : Nat → Bool, p = fun i => decide (hasB r i) := ⟨_, rfl⟩
    have pt : ∀ i, p i = true ↔ hasB r i := fun i => by rw [hp]; exact decide_eq_true_iff
    obtain ⟨v, hv⟩ : ∃ v : Nat → Int32, v = fun i => mI M 212 (167 + i) := ⟨_, rfl⟩
    have ev : ∀ i, mI M 212 (167 + i) = v i := fun w => by rw [hv]
    have vp : ∀ i, i < wN (mI M 212) → ¬ v i ≤ 0 := fun i hi => by
      rw [← ev]
      have b := (O.2.2.2.2.2.2.2.2.1 i hi).2
      rw [b.1]
      exact nI_nle (by have := b.2.1; omega) (by have := b.2.2; omega)
    have hi := am_inv p v (fun x y => decide (x < y)) 0
    have hc : f_X11_likeliest M (some 0) x = if (am p v (fun x y => decide (x < y)) 0 (wN (mI M 212))).1 = -1 then some (-1, sI M 0 0 8) else some ((am p v (fun x y => decide (x < y)) 0 (wN (mI M 212))).1, sI M 0 0 0) := by
      unfold f_X11_likeliest
      rw [c_ck hL, h1, bd_s, if_pos rfl, c_ck hL, h2 rfl, bd_s]
      refine lup0 (fun f k => f_X11_likeliest_31 f M (some 0) r (am p v (fun x y => decide (x < y)) 0 k).1 (am p v (fun x y => decide (x < y)) 0 k).2 (nI k)) (wN (mI M 212)) _ (by omega) (fun f k hk => ?_) (fun f => ?_)
      · rw [f_X11_likeliest_31]
        simp (disch := omega) only [↓c_ck hL, ↓c_gI hL, ↓c_sh hL, ↓c_answer hL, ↓c_none hL, ↓c_no hL, ↓c_yes hL, ↓c_isHouse hL S, ↓c_isGang hL S, ↓q_within, ↓bd_s, ↓bv_s, ↓nmI_s, nI_1, ↓reduceIte, ite01z, not_true_eq_false, not_false_eq_true, if_true, if_false, z10, ↓e_hc S, ↓e_gc S, ↓e_wc S, ↓e_law S, ↓e_min S, ↓l_hs S.1, ↓l_gs S.1, ↓l_ws S.1, ↓l_ds S.1, ↓l_h S.1, ↓l_g S.1, ↓l_w S.1, ↓l_d S.1, ↓e_db S, ↓e_hat S, ↓e_hwo S, ↓e_hpi S, ↓e_hwe S, ↓e_hlo S, ↓e_hpe S, ↓e_hon S, ↓e_hsd S, ↓e_gho S, ↓e_gha S, ↓e_gpa S, ↓e_gat S, ↓e_ghd S, ↓e_gwa S, ↓e_gpc S, ↓e_wst S, ↓e_wch S, ↓lc_h S.1, ↓lc_g S.1, ↓lc_s S.1, eq_false (wc_in O hk), ev]
        by_cases q1 : hasB r k
        · have pk := (pt k).mpr q1
          rw [if_pos q1]
          by_cases q2 : v k ≤ (am p v (fun x y => decide (x < y)) 0 k).2
          · have q3 : ¬ (am p v (fun x y => decide (x < y)) 0 k).1 = -1 := fun z => by
              rcases hi k with ⟨-, q3⟩ | ⟨b, hb, q3, -, -⟩
              · rw [q3] at q2
                exact vp k hk q2
              · rw [q3] at z
                exact neg1_ne (by omega) z
            rw [if_pos q2, am_keep pk q3 (by rw [decide_eq_true_eq]; exact Int32.not_lt.mpr q2), f_X11_likeliest_90, nI_1]
          · rw [if_neg q2, am_take pk (Or.inr (by rw [decide_eq_true_eq]; exact Int32.not_le.mp q2)), f_X11_likeliest_90, nI_1]
        · rw [if_neg q1, am_skip (fun z => q1 ((pt k).mp z)), f_X11_likeliest_90, nI_1]
      · rw [f_X11_likeliest_31]
        simp (disch := omega) only [↓c_ck hL, ↓c_gI hL, ↓c_sh hL, ↓c_answer hL, ↓c_none hL, ↓c_no hL, ↓c_yes hL, ↓c_isHouse hL S, ↓c_isGang hL S, ↓q_within, ↓bd_s, ↓bv_s, ↓nmI_s, nI_1, ↓reduceIte, ite01z, not_true_eq_false, not_false_eq_true, if_true, if_false, z10, ↓e_hc S, ↓e_gc S, ↓e_wc S, ↓e_law S, ↓e_min S, ↓l_hs S.1, ↓l_gs S.1, ↓l_ws S.1, ↓l_ds S.1, ↓l_h S.1, ↓l_g S.1, ↓l_w S.1, ↓l_d S.1, ↓e_db S, ↓e_hat S, ↓e_hwo S, ↓e_hpi S, ↓e_hwe S, ↓e_hlo S, ↓e_hpe S, ↓e_hon S, ↓e_hsd S, ↓e_gho S, ↓e_gha S, ↓e_gpa S, ↓e_gat S, ↓e_ghd S, ↓e_gwa S, ↓e_gpc S, ↓e_wst S, ↓e_wch S, ↓lc_h S.1, ↓lc_g S.1, ↓lc_s S.1, eq_true (wc_out O)]
    have hm : ∀ s, f_X12_likeliest (sI M 0 0 s) (some 207) x = if 0 ≤ (am p v (fun x y => decide (x < y)) 0 (wN (mI M 212))).1 then some ((am p v (fun x y => decide (x < y)) 0 (wN (mI M 212))).1, pre M s) else some (-1, sI (sI (sI M 0 0 s) 207 1 0) 207 0 8) := fun s => by
      have D := pre_md hL s
      have e0 : mI (pre M s) 207 0 = 0 := by unfold pre; rw [mI_sI_s]
      unfold f_X12_likeliest
      rw [m_pre hL, m_ck D.1, h3, if_pos rfl, bd_s, m_gI D.1, e0, if_pos (by decide)]
      refine lup0 (fun f k => f_X12_likeliest_30 f (pre M s) (some 207) r (am p v (fun x y => decide (x < y)) 0 k).1 (nI k)) (wN (mI M 212)) _ (by omega) (fun f k hk => ?_) (fun f => ?_)
      · rw [f_X12_likeliest_30]
        simp (disch := omega) only [↓q_isIn, j0, j1, u1, u3, u4, u5, u8, u9, u20, u60, u99, u100, u240, u9999, ite01z, not_true_eq_false, not_false_eq_true, if_true, if_false, z10, ↓m_r4 D.1, ↓m_r5 D.1, ↓m_r6 D.1, ↓m_r7 D.1, ↓m_r20 D.1, ↓m_r21 D.1, ↓m_r22 D.1, ↓m_r27 D.1, ↓m_r28 D.1, ↓m_r29 D.1, ↓m_r31 D.1, ↓m_r32 D.1, ↓m_r35 D.1, ↓m_ck D.1, ↓m_c0 D, ↓m_c1 D, ↓m_c2 D, ↓m_c3 D, ↓m_c4 D, ↓m_c D, i2, i3, i4, i5, i13, i21, i29, i37, i45, i53, i61, i69, i133, i137, i141, i145, i149, i153, i157, i161, i167, i4m, i6m, i8m, i9m, i18m, i60m, i256m, i450m, nI_add, ↓nmI_s, ↓bd_s, ↓bv_s, nI_1, ↓reduceIte, eq_false (wc_in O hk), if_false, q_has, ev]
        by_cases q1 : hasB r k
        · have pk := (pt k).mpr q1
          rw [if_neg (fun z => z q1)]
          rcases hi k with ⟨q3, -⟩ | ⟨b, hb, q3, q4, -⟩
          · rw [am_take pk (Or.inl q3), q3, if_pos (by decide), f_X12_likeliest_78, f_X12_likeliest_81, nI_1]
          · have q5 : ¬ (am p v (fun x y => decide (x < y)) 0 k).1 = -1 := by rw [q3]; exact neg1_ne (by omega)
            rw [q3, if_neg (nI_pos (by omega))]
            simp (disch := omega) only [↓m_r4 D.1, ↓m_r5 D.1, ↓m_r6 D.1, ↓m_r7 D.1, ↓m_r20 D.1, ↓m_r21 D.1, ↓m_r22 D.1, ↓m_r27 D.1, ↓m_r28 D.1, ↓m_r29 D.1, ↓m_r31 D.1, ↓m_r32 D.1, ↓m_r35 D.1, ↓m_ck D.1, ↓m_c0 D, ↓m_c1 D, ↓m_c2 D, ↓m_c3 D, ↓m_c4 D, ↓m_c D, i2, i3, i4, i5, i13, i21, i29, i37, i45, i53, i61, i69, i133, i137, i141, i145, i149, i153, i157, i161, i167, i4m, i6m, i8m, i9m, i18m, i60m, i256m, i450m, nI_add, ↓nmI_s, ↓bd_s, ↓bv_s, nI_1, ↓reduceIte, ev]
            by_cases q6 : v k ≤ v b
            · rw [if_pos q6, am_keep pk q5 (by rw [q4, decide_eq_true_eq]; exact Int32.not_lt.mpr q6), q3, f_X12_likeliest_81, nI_1]
            · rw [if_neg q6, am_take pk (Or.inr (by rw [q4, decide_eq_true_eq]; exact Int32.not_le.mp q6)), f_X12_likeliest_78, f_X12_likeliest_81, nI_1]
        · rw [if_pos q1, am_skip (fun z => q1 ((pt k).mp z)), f_X12_likeliest_81, nI_1]
      · rw [f_X12_likeliest_30]
        simp (disch := omega) only [↓m_r4 D.1, ↓m_r5 D.1, ↓m_r6 D.1, ↓m_r7 D.1, ↓m_r20 D.1, ↓m_r21 D.1, ↓m_r22 D.1, ↓m_r27 D.1, ↓m_r28 D.1, ↓m_r29 D.1, ↓m_r31 D.1, ↓m_r32 D.1, ↓m_r35 D.1, ↓m_ck D.1, ↓m_c0 D, ↓m_c1 D, ↓m_c2 D, ↓m_c3 D, ↓m_c4 D, ↓m_c D, i2, i3, i4, i5, i13, i21, i29, i37, i45, i53, i61, i69, i133, i137, i141, i145, i149, i153, i157, i161, i167, i4m, i6m, i8m, i9m, i18m, i60m, i256m, i450m, nI_add, ↓nmI_s, ↓bd_s, ↓bv_s, nI_1, ↓reduceIte, eq_true (wc_out O), if_true, ↓q_isHouse D, ↓q_isGang D, ↓m_refuse hL, ↓m_no hL]
    rcases hi (wN (mI M 212)) with ⟨q, -⟩ | ⟨b, hb, q, -, -⟩
    · refine ⟨-1, 8, by rw [hc, if_pos q], ?_⟩
      rw [hm, if_neg (by rw [q]; decide)]
      rfl
    · refine ⟨nI b, 0, by rw [hc, if_neg (by rw [q]; exact neg1_ne (by omega)), q], ?_⟩
      rw [hm, if_pos (by rw [q]; exact nI_pos' (by omega)), q]
      rfl
  · have q2 : ¬ w ≤ 0 := by
      rcases h4 with z | z
      · exact absurd z q
      · exact z
    refine ⟨-1, w, ?_, ?_⟩
    · unfold f_X11_likeliest
      rw [c_ck hL, h1, bd_s, if_neg q, c_ck hL, c_none hL, bd_s]
    · have D := pre_md hL w
      have D1 : mdL (sI (sI (sI M 0 0 w) 207 1 0) 207 0 w) := hL.2.2.1
      unfold f_X12_likeliest
      rw [m_pre hL, m_ck D.1, h3, if_neg q, bd_s, m_gI D1, mI_sI_s, if_neg q2]
      rfl
