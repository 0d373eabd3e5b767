/-! RISK, LOSS -/
theorem lI {n : Nat} (h : n < 2 ^ 31) : Int32.toInt64 (nI n) = lN n := nI_l h
theorem ab_n {n : Nat} (h : n < 2 ^ 31) : abL (lN n) = lN n := by
  obtain ⟨e, -⟩ := abL_lN (t := lN n) (by rw [lN_toInt h]; omega) (by rw [lN_toInt h]; omega)
  rw [e, lN_toInt h]
  rfl
theorem op_risk (x : Int32) : opI (fun M => f_X11_risk M (some 0) x) (fun M => f_X12_risk M (some 207) x) := by
  intro M hR
  dsimp only
  obtain ⟨a, b, y, z, H⟩ := id hR
  have hL := H.1
  have S := H.2.1
  have O := S.2.2
  have h8 := (ok_h O).2
  by_cases q : 0 ≤ x ∧ x ≤ mI M 212 0 - 1
  · obtain ⟨h, hh, rfl⟩ := hIx O q
    by_cases q2 : mI M 212 2 = 0
    · refine ⟨0, sI M 0 0 8, _, ?_, ?_, RR_st hR 8⟩
      · unfold f_X11_risk g_X11_risk
        simp (disch := omega) only [↓c_ck hL, ↓c_gI hL, ↓c_sh hL, ↓c_answer hL, ↓c_none hL, ↓c_no hL, ↓c_yes hL, ↓c_isHouse hL S, ↓c_isGang hL S, ↓q_within, ↓bd_s, ↓bv_s, ↓nmI_s, nI_1, ↓reduceIte, ite01z, not_true_eq_false, not_false_eq_true, if_true, if_false, z10, eq_true q, ↓e_hc S, ↓e_gc S, ↓e_wc S, ↓e_law S, ↓e_min S, ↓l_hs S.1, ↓l_gs S.1, ↓l_ws S.1, ↓l_ds S.1, ↓l_h S.1, ↓l_g S.1, ↓l_w S.1, ↓l_d S.1, ↓e_db S, ↓e_hat S, ↓e_hwo S, ↓e_hpi S, ↓e_hwe S, ↓e_hlo S, ↓e_hpe S, ↓e_hon S, ↓e_hsd S, ↓e_gho S, ↓e_gha S, ↓e_gpa S, ↓e_gat S, ↓e_ghd S, ↓e_gwa S, ↓e_gpc S, ↓e_wst S, ↓e_wch S, ↓lc_h S.1, ↓lc_g S.1, ↓lc_s S.1, eq_true q2, zc0]
      · have D := pre_md hL 8
        unfold f_X12_risk g_X12_risk
        rw [m_pre hL]
        simp (disch := omega) only [↓q_isIn, j0, j1, u1, u3, u4, u5, u8, u9, u20, u60, u99, u100, u240, u9999, ite01z, not_true_eq_false, not_false_eq_true, if_true, if_false, z10, eq_true q, ↓q_isHouse D, ↓q_isGang D, ↓m_refuse hL, ↓m_no hL, ↓m_r4 D.1, ↓m_r5 D.1, ↓m_r6 D.1, ↓m_r7 D.1, ↓m_r20 D.1, ↓m_r21 D.1, ↓m_r22 D.1, ↓m_r27 D.1, ↓m_r28 D.1, ↓m_r29 D.1, ↓m_r31 D.1, ↓m_r32 D.1, ↓m_r35 D.1, ↓m_ck D.1, ↓m_c0 D, ↓m_c1 D, ↓m_c2 D, ↓m_c3 D, ↓m_c4 D, ↓m_c D, i2, i3, i4, i5, i13, i21, i29, i37, i45, i53, i61, i69, i133, i137, i141, i145, i149, i153, i157, i161, i167, i4m, i6m, i8m, i9m, i18m, i60m, i256m, i450m, nI_add, ↓nmI_s, ↓bd_s, ↓bv_s, nI_1, ↓reduceIte, eq_true q2, zc0]
        rfl
    · obtain ⟨r1, r2⟩ := rsk_nI O h
      obtain ⟨c1, c2, c3⟩ := allCh_nI O
      have c4 := c3 ((w_pos O).mp q2)
      obtain ⟨u, hu⟩ : ∃ u, frT (lN (rskN (mI M 212) h)) (rskN (mI M 212) h) (allChN (mI M 212)) = u := ⟨_, rfl⟩
      obtain ⟨v, hv⟩ : ∃ v, frB (rskN (mI M 212) h) (allChN (mI M 212)) = v := ⟨_, rfl⟩
      have hF : LL (sL (sL M 0 1 u) 0 2 v) a b y z := LL_same hL rfl rfl rfl
      refine ⟨1, sI (sL (sL M 0 1 u) 0 2 v) 0 0 0, _, ?_, ?_, RR_fr (X := pre (sL (sL M 0 1 u) 0 2 v) 0) H u v rfl rfl rfl rfl (fun x h1 h2 h3 => ?_) (fun k hk => ?_) (fun k hk => ?_) ?_⟩
      · unfold f_X11_risk g_X11_risk
        simp (disch := omega) only [↓c_ck hL, ↓c_gI hL, ↓c_sh hL, ↓c_answer hL, ↓c_none hL, ↓c_no hL, ↓c_yes hL, ↓c_isHouse hL S, ↓c_isGang hL S, ↓q_within, ↓bd_s, ↓bv_s, ↓nmI_s, nI_1, ↓reduceIte, ite01z, not_true_eq_false, not_false_eq_true, if_true, if_false, z10, eq_true q, ↓e_hc S, ↓e_gc S, ↓e_wc S, ↓e_law S, ↓e_min S, ↓l_hs S.1, ↓l_gs S.1, ↓l_ws S.1, ↓l_ds S.1, ↓l_h S.1, ↓l_g S.1, ↓l_w S.1, ↓l_d S.1, ↓e_db S, ↓e_hat S, ↓e_hwo S, ↓e_hpi S, ↓e_hwe S, ↓e_hlo S, ↓e_hpe S, ↓e_hon S, ↓e_hsd S, ↓e_gho S, ↓e_gha S, ↓e_gpa S, ↓e_gat S, ↓e_ghd S, ↓e_gwa S, ↓e_gpc S, ↓e_wst S, ↓e_wch S, ↓lc_h S.1, ↓lc_g S.1, ↓lc_s S.1, eq_false q2, p_chances S, p_allCh S]
        rw [r1, c1, lI (by omega), lI (by omega), c_frac hL (ab_n (by omega)) (by omega) c4 (by omega), bd_s, zc1, hu, hv]
      · have DD : md (pre (sL (sL M 0 1 u) 0 2 v) 0) (mI M 212) := pre_md hF 0
        unfold f_X12_risk g_X12_risk
        rw [m_pre hF]
        simp (disch := omega) only [↓q_isIn, j0, j1, u1, u3, u4, u5, u8, u9, u20, u60, u99, u100, u240, u9999, ite01z, not_true_eq_false, not_false_eq_true, if_true, if_false, z10, ↓q_isHouse DD, ↓m_r4 DD.1, ↓m_r5 DD.1, ↓m_r6 DD.1, ↓m_r7 DD.1, ↓m_r20 DD.1, ↓m_r21 DD.1, ↓m_r22 DD.1, ↓m_r27 DD.1, ↓m_r28 DD.1, ↓m_r29 DD.1, ↓m_r31 DD.1, ↓m_r32 DD.1, ↓m_r35 DD.1, ↓m_ck DD.1, ↓m_c0 DD, ↓m_c1 DD, ↓m_c2 DD, ↓m_c3 DD, ↓m_c4 DD, ↓m_c DD, i2, i3, i4, i5, i13, i21, i29, i37, i45, i53, i61, i69, i133, i137, i141, i145, i149, i153, i157, i161, i167, i4m, i6m, i8m, i9m, i18m, i60m, i256m, i450m, nI_add, ↓nmI_s, ↓bd_s, ↓bv_s, nI_1, ↓reduceIte, eq_true q, eq_false q2]
        rw [q_risk DD O hh, bd_s, m_ck DD.1, q_allCh DD O, bd_s, m_ck DD.1, r1, c1, lI (by omega), lI (by omega), m_frac DD.1 (ab_n (by omega)) (by omega) c4 (by omega), bd_s, zc1, hu, hv]
      · unfold pre
        rw [mI_o h2, mI_o h2, mI_o h1]
        rfl
      · unfold pre
        rw [mI_o (by decide), mI_o (by decide), mI_f hk]
        rfl
      · unfold pre
        rw [mI_f (by omega), mI_f (by omega), mI_o (by decide)]
        rfl
      · unfold pre
        rw [mI_o (by decide), mI_o (by decide), mI_sI_s, mI_sI_s]
  · refine ⟨0, sI M 0 0 2, _, ?_, ?_, RR_st hR 2⟩
    · unfold f_X11_risk g_X11_risk
      simp (disch := omega) only [↓c_ck hL, ↓c_gI hL, ↓c_sh hL, ↓c_answer hL, ↓c_none hL, ↓c_no hL, ↓c_yes hL, ↓c_isHouse hL S, ↓c_isGang hL S, ↓q_within, ↓bd_s, ↓bv_s, ↓nmI_s, nI_1, ↓reduceIte, ite01z, not_true_eq_false, not_false_eq_true, if_true, if_false, z10, eq_false q, zc0]
    · have D := pre_md hL 2
      unfold f_X12_risk g_X12_risk
      rw [m_pre hL]
      simp (disch := omega) only [↓q_isIn, j0, j1, u1, u3, u4, u5, u8, u9, u20, u60, u99, u100, u240, u9999, ite01z, not_true_eq_false, not_false_eq_true, if_true, if_false, z10, eq_false q, ↓q_isHouse D, ↓q_isGang D, ↓m_refuse hL, ↓m_no hL, ↓m_r4 D.1, ↓m_r5 D.1, ↓m_r6 D.1, ↓m_r7 D.1, ↓m_r20 D.1, ↓m_r21 D.1, ↓m_r22 D.1, ↓m_r27 D.1, ↓m_r28 D.1, ↓m_r29 D.1, ↓m_r31 D.1, ↓m_r32 D.1, ↓m_r35 D.1, ↓m_ck D.1, ↓m_c0 D, ↓m_c1 D, ↓m_c2 D, ↓m_c3 D, ↓m_c4 D, ↓m_c D, i2, i3, i4, i5, i13, i21, i29, i37, i45, i53, i61, i69, i133, i137, i141, i145, i149, i153, i157, i161, i167, i4m, i6m, i8m, i9m, i18m, i60m, i256m, i450m, nI_add, ↓nmI_s, ↓bd_s, ↓bv_s, nI_1, ↓reduceIte, zc0]
      rfl
theorem op_loss : opI (fun M => f_X11_loss M (some 0)) (fun M => f_X12_loss M (some 207)) := by
  intro M hR
  dsimp only
  obtain ⟨a, b, y, z, H⟩ := id hR
  have hL := H.1
  have S := H.2.1
  have O := S.2.2
  have h8 := (ok_h O).2
  by_cases q2 : mI M 212 2 = 0
  · refine ⟨0, sI M 0 0 8, _, ?_, ?_, RR_st hR 8⟩
    · unfold f_X11_loss g_X11_loss
      simp (disch := omega) only [↓c_ck hL, ↓c_gI hL, ↓c_sh hL, ↓c_answer hL, ↓c_none hL, ↓c_no hL, ↓c_yes hL, ↓c_isHouse hL S, ↓c_isGang hL S, ↓q_within, ↓bd_s, ↓bv_s, ↓nmI_s, nI_1, ↓reduceIte, ite01z, not_true_eq_false, not_false_eq_true, if_true, if_false, z10, ↓e_hc S, ↓e_gc S, ↓e_wc S, ↓e_law S, ↓e_min S, ↓l_hs S.1, ↓l_gs S.1, ↓l_ws S.1, ↓l_ds S.1, ↓l_h S.1, ↓l_g S.1, ↓l_w S.1, ↓l_d S.1, ↓e_db S, ↓e_hat S, ↓e_hwo S, ↓e_hpi S, ↓e_hwe S, ↓e_hlo S, ↓e_hpe S, ↓e_hon S, ↓e_hsd S, ↓e_gho S, ↓e_gha S, ↓e_gpa S, ↓e_gat S, ↓e_ghd S, ↓e_gwa S, ↓e_gpc S, ↓e_wst S, ↓e_wch S, ↓lc_h S.1, ↓lc_g S.1, ↓lc_s S.1, eq_true q2, zc0]
    · have D := pre_md hL 8
      unfold f_X12_loss g_X12_loss
      rw [m_pre hL]
      simp (disch := omega) only [↓q_isIn, j0, j1, u1, u3, u4, u5, u8, u9, u20, u60, u99, u100, u240, u9999, ite01z, not_true_eq_false, not_false_eq_true, if_true, if_false, z10, ↓q_isHouse D, ↓q_isGang D, ↓m_refuse hL, ↓m_no hL, ↓m_r4 D.1, ↓m_r5 D.1, ↓m_r6 D.1, ↓m_r7 D.1, ↓m_r20 D.1, ↓m_r21 D.1, ↓m_r22 D.1, ↓m_r27 D.1, ↓m_r28 D.1, ↓m_r29 D.1, ↓m_r31 D.1, ↓m_r32 D.1, ↓m_r35 D.1, ↓m_ck D.1, ↓m_c0 D, ↓m_c1 D, ↓m_c2 D, ↓m_c3 D, ↓m_c4 D, ↓m_c D, i2, i3, i4, i5, i13, i21, i29, i37, i45, i53, i61, i69, i133, i137, i141, i145, i149, i153, i157, i161, i167, i4m, i6m, i8m, i9m, i18m, i60m, i256m, i450m, nI_add, ↓nmI_s, ↓bd_s, ↓bv_s, nI_1, ↓reduceIte, eq_true q2, zc0]
      rfl
  · obtain ⟨r1, r2⟩ := lss_nI O
    obtain ⟨c1, c2, c3⟩ := allCh_nI O
    have c4 := c3 ((w_pos O).mp q2)
    obtain ⟨u, hu⟩ : ∃ u, frT (lN (lssN (mI M 212))) (lssN (mI M 212)) (allChN (mI M 212)) = u := ⟨_, rfl⟩
    obtain ⟨v, hv⟩ : ∃ v, frB (lssN (mI M 212)) (allChN (mI M 212)) = v := ⟨_, rfl⟩
    have hF : LL (sL (sL M 0 1 u) 0 2 v) a b y z := LL_same hL rfl rfl rfl
    refine ⟨1, sI (sL (sL M 0 1 u) 0 2 v) 0 0 0, _, ?_, ?_, RR_fr (X := pre (sL (sL M 0 1 u) 0 2 v) 0) H u v rfl rfl rfl rfl (fun x h1 h2 h3 => ?_) (fun k hk => ?_) (fun k hk => ?_) ?_⟩
    · unfold f_X11_loss g_X11_loss
      simp (disch := omega) only [↓c_ck hL, ↓c_gI hL, ↓c_sh hL, ↓c_answer hL, ↓c_none hL, ↓c_no hL, ↓c_yes hL, ↓c_isHouse hL S, ↓c_isGang hL S, ↓q_within, ↓bd_s, ↓bv_s, ↓nmI_s, nI_1, ↓reduceIte, ite01z, not_true_eq_false, not_false_eq_true, if_true, if_false, z10, ↓e_hc S, ↓e_gc S, ↓e_wc S, ↓e_law S, ↓e_min S, ↓l_hs S.1, ↓l_gs S.1, ↓l_ws S.1, ↓l_ds S.1, ↓l_h S.1, ↓l_g S.1, ↓l_w S.1, ↓l_d S.1, ↓e_db S, ↓e_hat S, ↓e_hwo S, ↓e_hpi S, ↓e_hwe S, ↓e_hlo S, ↓e_hpe S, ↓e_hon S, ↓e_hsd S, ↓e_gho S, ↓e_gha S, ↓e_gpa S, ↓e_gat S, ↓e_ghd S, ↓e_gwa S, ↓e_gpc S, ↓e_wst S, ↓e_wch S, ↓lc_h S.1, ↓lc_g S.1, ↓lc_s S.1, eq_false q2, p_loss S, p_allCh S]
      rw [r1, c1, lI (by omega), lI (by omega), c_frac hL (ab_n (by omega)) (by omega) c4 (by omega), bd_s, zc1, hu, hv]
    · have DD : md (pre (sL (sL M 0 1 u) 0 2 v) 0) (mI M 212) := pre_md hF 0
      unfold f_X12_loss g_X12_loss
      rw [m_pre hF]
      simp (disch := omega) only [↓q_isIn, j0, j1, u1, u3, u4, u5, u8, u9, u20, u60, u99, u100, u240, u9999, ite01z, not_true_eq_false, not_false_eq_true, if_true, if_false, z10, ↓m_r4 DD.1, ↓m_r5 DD.1, ↓m_r6 DD.1, ↓m_r7 DD.1, ↓m_r20 DD.1, ↓m_r21 DD.1, ↓m_r22 DD.1, ↓m_r27 DD.1, ↓m_r28 DD.1, ↓m_r29 DD.1, ↓m_r31 DD.1, ↓m_r32 DD.1, ↓m_r35 DD.1, ↓m_ck DD.1, ↓m_c0 DD, ↓m_c1 DD, ↓m_c2 DD, ↓m_c3 DD, ↓m_c4 DD, ↓m_c DD, i2, i3, i4, i5, i13, i21, i29, i37, i45, i53, i61, i69, i133, i137, i141, i145, i149, i153, i157, i161, i167, i4m, i6m, i8m, i9m, i18m, i60m, i256m, i450m, nI_add, ↓nmI_s, ↓bd_s, ↓bv_s, nI_1, ↓reduceIte, eq_false q2]
      rw [q_loss DD O, bd_s, m_ck DD.1, q_allCh DD O, bd_s, m_ck DD.1, r1, c1, lI (by omega), lI (by omega), m_frac DD.1 (ab_n (by omega)) (by omega) c4 (by omega), bd_s, zc1, hu, hv]
    · unfold pre
      rw [mI_o h2, mI_o h2, mI_o h1]
      rfl
    · unfold pre
      rw [mI_o (by decide), mI_o (by decide), mI_f hk]
      rfl
    · unfold pre
      rw [mI_f (by omega), mI_f (by omega), mI_o (by decide)]
      rfl
    · unfold pre
      rw [mI_o (by decide), mI_o (by decide), mI_sI_s, mI_sI_s]
