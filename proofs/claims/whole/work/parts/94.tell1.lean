/-- a call of both: the same answer, and what they have in common stays -/
def opI (fx fm : Mm → Option (Int32 × Mm)) : Prop := ∀ M, RR M → ∃ r M1 M2, fx M = some (r, M1) ∧ fm M1 = some (r, M2) ∧ RR M2
theorem opI_st {fx fm : Mm → Option (Int32 × Mm)} (h : ∀ M a b y z, RA M a b y z → ∃ r s, fx M = some (r, sI M 0 0 s) ∧ fm (sI M 0 0 s) = some (r, stM M s)) : opI fx fm := by
  intro M hR
  obtain ⟨a, b, y, z, H⟩ := hR
  obtain ⟨r, s, h1, h2⟩ := h M a b y z H
  exact ⟨r, _, _, h1, h2, RR_st ⟨a, b, y, z, H⟩ s⟩
theorem op_falls (x : Int32) : opI (fun M => f_X11_falls M (some 0) x) (fun M => f_X12_falls M (some 207) x) := by
  (refine opI_st fun M a b y z H => ?_; have hL := H.1; have S := H.2.1; have O := S.2.2; have h8 := (ok_h O).2; have g4 := (ok_g O).2; have w6 := (ok_w O).2; have L := S.1)
  by_cases q : 0 ≤ x ∧ x ≤ 99
  · refine ⟨st (falls (mI M 212) x) (hN (mI M 212)), 0, ?_, ?_⟩
    · unfold f_X11_falls
      simp (disch := omega) only [↓c_ck hL, ↓c_gI hL, ↓c_sh hL, ↓c_answer hL, ↓c_none hL, ↓c_no hL, ↓c_yes hL, ↓c_isHouse hL S, ↓c_isGang hL S, ↓q_within, ↓bd_s, ↓bv_s, ↓nmI_s, nI_1, ↓reduceIte, ite01z, not_true_eq_false, not_false_eq_true, if_true, if_false, z10, eq_true q, ↓e_hc S, ↓e_gc S, ↓e_wc S, ↓e_law S, ↓e_min S, ↓l_hs S.1, ↓l_gs S.1, ↓l_ws S.1, ↓l_ds S.1, ↓l_h S.1, ↓l_g S.1, ↓l_w S.1, ↓l_d S.1, ↓e_db S, ↓e_hat S, ↓e_hwo S, ↓e_hpi S, ↓e_hwe S, ↓e_hlo S, ↓e_hpe S, ↓e_hon S, ↓e_hsd S, ↓e_gho S, ↓e_gha S, ↓e_gpa S, ↓e_gat S, ↓e_ghd S, ↓e_gwa S, ↓e_gpc S, ↓e_wst S, ↓e_wch S, ↓lc_h S.1, ↓lc_g S.1, ↓lc_s S.1, p_falling S]
    · have D := pre_md hL 0
      unfold f_X12_falls
      rw [m_pre hL]
      simp (disch := omega) only [↓q_isIn, j0, j1, u1, u3, u4, u5, u8, u9, u20, u60, u99, u100, u240, u9999, ite01z, not_true_eq_false, not_false_eq_true, if_true, if_false, z10, eq_true q, ↓m_r4 D.1, ↓m_r5 D.1, ↓m_r6 D.1, ↓m_r7 D.1, ↓m_r20 D.1, ↓m_r21 D.1, ↓m_r22 D.1, ↓m_r27 D.1, ↓m_r28 D.1, ↓m_r29 D.1, ↓m_r31 D.1, ↓m_r32 D.1, ↓m_r35 D.1, ↓m_ck D.1, ↓m_c0 D, ↓m_c1 D, ↓m_c2 D, ↓m_c3 D, ↓m_c4 D, ↓m_c D, i2, i3, i4, i5, i13, i21, i29, i37, i45, i53, i61, i69, i133, i137, i141, i145, i149, i153, i157, i161, i167, i4m, i6m, i8m, i9m, i18m, i60m, i256m, i450m, nI_add, ↓nmI_s, ↓bd_s, ↓bv_s, nI_1, ↓reduceIte, q_fallSet D O]
      rfl
  · refine ⟨-1, 5, ?_, ?_⟩
    · unfold f_X11_falls
      simp (disch := omega) only [↓c_ck hL, ↓c_gI hL, ↓c_sh hL, ↓c_answer hL, ↓c_none hL, ↓c_no hL, ↓c_yes hL, ↓c_isHouse hL S, ↓c_isGang hL S, ↓q_within, ↓bd_s, ↓bv_s, ↓nmI_s, nI_1, ↓reduceIte, ite01z, not_true_eq_false, not_false_eq_true, if_true, if_false, z10, eq_false q]
    · have D := pre_md hL 5
      unfold f_X12_falls
      rw [m_pre hL]
      simp (disch := omega) only [↓q_isIn, j0, j1, u1, u3, u4, u5, u8, u9, u20, u60, u99, u100, u240, u9999, ite01z, not_true_eq_false, not_false_eq_true, if_true, if_false, z10, eq_false q, ↓m_r4 D.1, ↓m_r5 D.1, ↓m_r6 D.1, ↓m_r7 D.1, ↓m_r20 D.1, ↓m_r21 D.1, ↓m_r22 D.1, ↓m_r27 D.1, ↓m_r28 D.1, ↓m_r29 D.1, ↓m_r31 D.1, ↓m_r32 D.1, ↓m_r35 D.1, ↓m_ck D.1, ↓m_c0 D, ↓m_c1 D, ↓m_c2 D, ↓m_c3 D, ↓m_c4 D, ↓m_c D, i2, i3, i4, i5, i13, i21, i29, i37, i45, i53, i61, i69, i133, i137, i141, i145, i149, i153, i157, i161, i167, i4m, i6m, i8m, i9m, i18m, i60m, i256m, i450m, nI_add, ↓nmI_s, ↓bd_s, ↓bv_s, nI_1, ↓reduceIte, ↓q_isHouse D, ↓q_isGang D, ↓m_refuse hL, ↓m_no hL]
      rfl
theorem op_takes (x w : Int32) : opI (fun M => f_X11_takes M (some 0) x w) (fun M => f_X12_takes M (some 207) x w) := by
  (refine opI_st fun M a b y z H => ?_; have hL := H.1; have S := H.2.1; have O := S.2.2; have h8 := (ok_h O).2; have g4 := (ok_g O).2; have w6 := (ok_w O).2; have L := S.1)
  by_cases q : 0 ≤ x ∧ x ≤ mI M 212 1 - 1
  · by_cases q2 : 0 ≤ w ∧ w ≤ mI M 212 0 - 1
    · obtain ⟨g, hg, rfl⟩ := gIx O q
      obtain ⟨h, hh, rfl⟩ := hIx O q2
      refine ⟨takes (mI M 212) g h, 0, ?_, ?_⟩
      · unfold f_X11_takes
        simp (disch := omega) only [↓c_ck hL, ↓c_gI hL, ↓c_sh hL, ↓c_answer hL, ↓c_none hL, ↓c_no hL, ↓c_yes hL, ↓c_isHouse hL S, ↓c_isGang hL S, ↓q_within, ↓bd_s, ↓bv_s, ↓nmI_s, nI_1, ↓reduceIte, ite01z, not_true_eq_false, not_false_eq_true, if_true, if_false, z10, eq_true q, eq_true q2, ↓e_hc S, ↓e_gc S, ↓e_wc S, ↓e_law S, ↓e_min S, ↓l_hs S.1, ↓l_gs S.1, ↓l_ws S.1, ↓l_ds S.1, ↓l_h S.1, ↓l_g S.1, ↓l_w S.1, ↓l_d S.1, ↓e_db S, ↓e_hat S, ↓e_hwo S, ↓e_hpi S, ↓e_hwe S, ↓e_hlo S, ↓e_hpe S, ↓e_hon S, ↓e_hsd S, ↓e_gho S, ↓e_gha S, ↓e_gpa S, ↓e_gat S, ↓e_ghd S, ↓e_gwa S, ↓e_gpc S, ↓e_wst S, ↓e_wch S, ↓lc_h S.1, ↓lc_g S.1, ↓lc_s S.1, p_pieceMin S]
      · have D := pre_md hL 0
        unfold f_X12_takes
        rw [m_pre hL]
        simp (disch := omega) only [↓q_isIn, j0, j1, u1, u3, u4, u5, u8, u9, u20, u60, u99, u100, u240, u9999, ite01z, not_true_eq_false, not_false_eq_true, if_true, if_false, z10, eq_true q, eq_true q2, ↓q_isHouse D, ↓q_isGang D, ↓m_refuse hL, ↓m_no hL, ↓m_r4 D.1, ↓m_r5 D.1, ↓m_r6 D.1, ↓m_r7 D.1, ↓m_r20 D.1, ↓m_r21 D.1, ↓m_r22 D.1, ↓m_r27 D.1, ↓m_r28 D.1, ↓m_r29 D.1, ↓m_r31 D.1, ↓m_r32 D.1, ↓m_r35 D.1, ↓m_ck D.1, ↓m_c0 D, ↓m_c1 D, ↓m_c2 D, ↓m_c3 D, ↓m_c4 D, ↓m_c D, i2, i3, i4, i5, i13, i21, i29, i37, i45, i53, i61, i69, i133, i137, i141, i145, i149, i153, i157, i161, i167, i4m, i6m, i8m, i9m, i18m, i60m, i256m, i450m, nI_add, ↓nmI_s, ↓bd_s, ↓bv_s, nI_1, ↓reduceIte, q_takes D O]
        rfl
    · refine ⟨-1, 2, ?_, ?_⟩
      · unfold f_X11_takes
        simp (disch := omega) only [↓c_ck hL, ↓c_gI hL, ↓c_sh hL, ↓c_answer hL, ↓c_none hL, ↓c_no hL, ↓c_yes hL, ↓c_isHouse hL S, ↓c_isGang hL S, ↓q_within, ↓bd_s, ↓bv_s, ↓nmI_s, nI_1, ↓reduceIte, ite01z, not_true_eq_false, not_false_eq_true, if_true, if_false, z10, eq_true q, eq_false q2, f_X11_takes_16]
      · have D := pre_md hL 2
        unfold f_X12_takes
        rw [m_pre hL]
        simp (disch := omega) only [↓q_isIn, j0, j1, u1, u3, u4, u5, u8, u9, u20, u60, u99, u100, u240, u9999, ite01z, not_true_eq_false, not_false_eq_true, if_true, if_false, z10, eq_true q, eq_false q2, ↓q_isHouse D, ↓q_isGang D, ↓m_refuse hL, ↓m_no hL, ↓m_r4 D.1, ↓m_r5 D.1, ↓m_r6 D.1, ↓m_r7 D.1, ↓m_r20 D.1, ↓m_r21 D.1, ↓m_r22 D.1, ↓m_r27 D.1, ↓m_r28 D.1, ↓m_r29 D.1, ↓m_r31 D.1, ↓m_r32 D.1, ↓m_r35 D.1, ↓m_ck D.1, ↓m_c0 D, ↓m_c1 D, ↓m_c2 D, ↓m_c3 D, ↓m_c4 D, ↓m_c D, i2, i3, i4, i5, i13, i21, i29, i37, i45, i53, i61, i69, i133, i137, i141, i145, i149, i153, i157, i161, i167, i4m, i6m, i8m, i9m, i18m, i60m, i256m, i450m, nI_add, ↓nmI_s, ↓bd_s, ↓bv_s, nI_1, ↓reduceIte, f_X12_takes_35]
        rfl
  · refine ⟨-1, 2, ?_, ?_⟩
    · unfold f_X11_takes
      simp (disch := omega) only [↓c_ck hL, ↓c_gI hL, ↓c_sh hL, ↓c_answer hL, ↓c_none hL, ↓c_no hL, ↓c_yes hL, ↓c_isHouse hL S, ↓c_isGang hL S, ↓q_within, ↓bd_s, ↓bv_s, ↓nmI_s, nI_1, ↓reduceIte, ite01z, not_true_eq_false, not_false_eq_true, if_true, if_false, z10, eq_false q, f_X11_takes_16]
    · have D := pre_md hL 2
      unfold f_X12_takes
      rw [m_pre hL]
      simp (disch := omega) only [↓q_isIn, j0, j1, u1, u3, u4, u5, u8, u9, u20, u60, u99, u100, u240, u9999, ite01z, not_true_eq_false, not_false_eq_true, if_true, if_false, z10, eq_false q, ↓q_isHouse D, ↓q_isGang D, ↓m_refuse hL, ↓m_no hL, ↓m_r4 D.1, ↓m_r5 D.1, ↓m_r6 D.1, ↓m_r7 D.1, ↓m_r20 D.1, ↓m_r21 D.1, ↓m_r22 D.1, ↓m_r27 D.1, ↓m_r28 D.1, ↓m_r29 D.1, ↓m_r31 D.1, ↓m_r32 D.1, ↓m_r35 D.1, ↓m_ck D.1, ↓m_c0 D, ↓m_c1 D, ↓m_c2 D, ↓m_c3 D, ↓m_c4 D, ↓m_c D, i2, i3, i4, i5, i13, i21, i29, i37, i45, i53, i61, i69, i133, i137, i141, i145, i149, i153, i157, i161, i167, i4m, i6m, i8m, i9m, i18m, i60m, i256m, i450m, nI_add, ↓nmI_s, ↓bd_s, ↓bv_s, nI_1, ↓reduceIte, f_X12_takes_35]
      rfl
theorem op_walk (x w : Int32) : opI (fun M => f_X11_walk M (some 0) x w) (fun M => f_X12_walk M (some 207) x w) := by
  (refine opI_st fun M a b y z H => ?_; have hL := H.1; have S := H.2.1; have O := S.2.2; have h8 := (ok_h O).2; have g4 := (ok_g O).2; have w6 := (ok_w O).2; have L := S.1)
  by_cases q : 0 ≤ x ∧ x ≤ mI M 212 1 - 1
  · by_cases q2 : 0 ≤ w ∧ w ≤ mI M 212 0 - 1
    · obtain ⟨g, hg, rfl⟩ := gIx O q
      obtain ⟨h, hh, rfl⟩ := hIx O q2
      refine ⟨walk (mI M 212) g h, 0, ?_, ?_⟩
      · unfold f_X11_walk
        simp (disch := omega) only [↓c_ck hL, ↓c_gI hL, ↓c_sh hL, ↓c_answer hL, ↓c_none hL, ↓c_no hL, ↓c_yes hL, ↓c_isHouse hL S, ↓c_isGang hL S, ↓q_within, ↓bd_s, ↓bv_s, ↓nmI_s, nI_1, ↓reduceIte, ite01z, not_true_eq_false, not_false_eq_true, if_true, if_false, z10, eq_true q, eq_true q2, ↓e_hc S, ↓e_gc S, ↓e_wc S, ↓e_law S, ↓e_min S, ↓l_hs S.1, ↓l_gs S.1, ↓l_ws S.1, ↓l_ds S.1, ↓l_h S.1, ↓l_g S.1, ↓l_w S.1, ↓l_d S.1, ↓e_db S, ↓e_hat S, ↓e_hwo S, ↓e_hpi S, ↓e_hwe S, ↓e_hlo S, ↓e_hpe S, ↓e_hon S, ↓e_hsd S, ↓e_gho S, ↓e_gha S, ↓e_gpa S, ↓e_gat S, ↓e_ghd S, ↓e_gwa S, ↓e_gpc S, ↓e_wst S, ↓e_wch S, ↓lc_h S.1, ↓lc_g S.1, ↓lc_s S.1, p_wayMin S]
      · have D := pre_md hL 0
        unfold f_X12_walk
        rw [m_pre hL]
        simp (disch := omega) only [↓q_isIn, j0, j1, u1, u3, u4, u5, u8, u9, u20, u60, u99, u100, u240, u9999, ite01z, not_true_eq_false, not_false_eq_true, if_true, if_false, z10, eq_true q, eq_true q2, ↓q_isHouse D, ↓q_isGang D, ↓m_refuse hL, ↓m_no hL, ↓m_r4 D.1, ↓m_r5 D.1, ↓m_r6 D.1, ↓m_r7 D.1, ↓m_r20 D.1, ↓m_r21 D.1, ↓m_r22 D.1, ↓m_r27 D.1, ↓m_r28 D.1, ↓m_r29 D.1, ↓m_r31 D.1, ↓m_r32 D.1, ↓m_r35 D.1, ↓m_ck D.1, ↓m_c0 D, ↓m_c1 D, ↓m_c2 D, ↓m_c3 D, ↓m_c4 D, ↓m_c D, i2, i3, i4, i5, i13, i21, i29, i37, i45, i53, i61, i69, i133, i137, i141, i145, i149, i153, i157, i161, i167, i4m, i6m, i8m, i9m, i18m, i60m, i256m, i450m, nI_add, ↓nmI_s, ↓bd_s, ↓bv_s, nI_1, ↓reduceIte, q_walk D]
        rfl
    · refine ⟨-1, 2, ?_, ?_⟩
      · unfold f_X11_walk
        simp (disch := omega) only [↓c_ck hL, ↓c_gI hL, ↓c_sh hL, ↓c_answer hL, ↓c_none hL, ↓c_no hL, ↓c_yes hL, ↓c_isHouse hL S, ↓c_isGang hL S, ↓q_within, ↓bd_s, ↓bv_s, ↓nmI_s, nI_1, ↓reduceIte, ite01z, not_true_eq_false, not_false_eq_true, if_true, if_false, z10, eq_true q, eq_false q2, f_X11_walk_16]
      · have D := pre_md hL 2
        unfold f_X12_walk
        rw [m_pre hL]
        simp (disch := omega) only [↓q_isIn, j0, j1, u1, u3, u4, u5, u8, u9, u20, u60, u99, u100, u240, u9999, ite01z, not_true_eq_false, not_false_eq_true, if_true, if_false, z10, eq_true q, eq_false q2, ↓q_isHouse D, ↓q_isGang D, ↓m_refuse hL, ↓m_no hL, ↓m_r4 D.1, ↓m_r5 D.1, ↓m_r6 D.1, ↓m_r7 D.1, ↓m_r20 D.1, ↓m_r21 D.1, ↓m_r22 D.1, ↓m_r27 D.1, ↓m_r28 D.1, ↓m_r29 D.1, ↓m_r31 D.1, ↓m_r32 D.1, ↓m_r35 D.1, ↓m_ck D.1, ↓m_c0 D, ↓m_c1 D, ↓m_c2 D, ↓m_c3 D, ↓m_c4 D, ↓m_c D, i2, i3, i4, i5, i13, i21, i29, i37, i45, i53, i61, i69, i133, i137, i141, i145, i149, i153, i157, i161, i167, i4m, i6m, i8m, i9m, i18m, i60m, i256m, i450m, nI_add, ↓nmI_s, ↓bd_s, ↓bv_s, nI_1, ↓reduceIte, f_X12_walk_35]
        rfl
  · refine ⟨-1, 2, ?_, ?_⟩
    · unfold f_X11_walk
      simp (disch := omega) only [↓c_ck hL, ↓c_gI hL, ↓c_sh hL, ↓c_answer hL, ↓c_none hL, ↓c_no hL, ↓c_yes hL, ↓c_isHouse hL S, ↓c_isGang hL S, ↓q_within, ↓bd_s, ↓bv_s, ↓nmI_s, nI_1, ↓reduceIte, ite01z, not_true_eq_false, not_false_eq_true, if_true, if_false, z10, eq_false q, f_X11_walk_16]
    · have D := pre_md hL 2
      unfold f_X12_walk
      rw [m_pre hL]
      simp (disch := omega) only [↓q_isIn, j0, j1, u1, u3, u4, u5, u8, u9, u20, u60, u99, u100, u240, u9999, ite01z, not_true_eq_false, not_false_eq_true, if_true, if_false, z10, eq_false q, ↓q_isHouse D, ↓q_isGang D, ↓m_refuse hL, ↓m_no hL, ↓m_r4 D.1, ↓m_r5 D.1, ↓m_r6 D.1, ↓m_r7 D.1, ↓m_r20 D.1, ↓m_r21 D.1, ↓m_r22 D.1, ↓m_r27 D.1, ↓m_r28 D.1, ↓m_r29 D.1, ↓m_r31 D.1, ↓m_r32 D.1, ↓m_r35 D.1, ↓m_ck D.1, ↓m_c0 D, ↓m_c1 D, ↓m_c2 D, ↓m_c3 D, ↓m_c4 D, ↓m_c D, i2, i3, i4, i5, i13, i21, i29, i37, i45, i53, i61, i69, i133, i137, i141, i145, i149, i153, i157, i161, i167, i4m, i6m, i8m, i9m, i18m, i60m, i256m, i450m, nI_add, ↓nmI_s, ↓bd_s, ↓bv_s, nI_1, ↓reduceIte, f_X12_walk_35]
      rfl
theorem op_helped (x w : Int32) : opI (fun M => f_X11_helped M (some 0) x w) (fun M => f_X12_helped M (some 207) x w) := by
  (refine opI_st fun M a b y z H => ?_; have hL := H.1; have S := H.2.1; have O := S.2.2; have h8 := (ok_h O).2; have g4 := (ok_g O).2; have w6 := (ok_w O).2; have L := S.1)
  by_cases q : 0 ≤ x ∧ x ≤ mI M 212 0 - 1
  · by_cases q2 : 0 ≤ w ∧ w ≤ mI M 212 0 - 1
    · by_cases q3 : x = w
      · refine ⟨-1, 5, ?_, ?_⟩
        · unfold f_X11_helped
          simp (disch := omega) only [↓c_ck hL, ↓c_gI hL, ↓c_sh hL, ↓c_answer hL, ↓c_none hL, ↓c_no hL, ↓c_yes hL, ↓c_isHouse hL S, ↓c_isGang hL S, ↓q_within, ↓bd_s, ↓bv_s, ↓nmI_s, nI_1, ↓reduceIte, ite01z, not_true_eq_false, not_false_eq_true, if_true, if_false, z10, eq_true q, eq_true q2, eq_true q3]
        · have D := pre_md hL 5
          unfold f_X12_helped
          rw [m_pre hL]
          simp (disch := omega) only [↓q_isIn, j0, j1, u1, u3, u4, u5, u8, u9, u20, u60, u99, u100, u240, u9999, ite01z, not_true_eq_false, not_false_eq_true, if_true, if_false, z10, eq_true q, eq_true q2, eq_true q3, ↓q_isHouse D, ↓q_isGang D, ↓m_refuse hL, ↓m_no hL, ↓m_r4 D.1, ↓m_r5 D.1, ↓m_r6 D.1, ↓m_r7 D.1, ↓m_r20 D.1, ↓m_r21 D.1, ↓m_r22 D.1, ↓m_r27 D.1, ↓m_r28 D.1, ↓m_r29 D.1, ↓m_r31 D.1, ↓m_r32 D.1, ↓m_r35 D.1, ↓m_ck D.1, ↓m_c0 D, ↓m_c1 D, ↓m_c2 D, ↓m_c3 D, ↓m_c4 D, ↓m_c D, i2, i3, i4, i5, i13, i21, i29, i37, i45, i53, i61, i69, i133, i137, i141, i145, i149, i153, i157, i161, i167, i4m, i6m, i8m, i9m, i18m, i60m, i256m, i450m, nI_add, ↓nmI_s, ↓bd_s, ↓bv_s, nI_1, ↓reduceIte]
          rfl
      · obtain ⟨g, hg, rfl⟩ := hIx O q
        obtain ⟨h, hh, rfl⟩ := hIx O q2
        refine ⟨mI M 212 (69 + 8 * g + h), 0, ?_, ?_⟩
        · unfold f_X11_helped
          simp (disch := omega) only [↓c_ck hL, ↓c_gI hL, ↓c_sh hL, ↓c_answer hL, ↓c_none hL, ↓c_no hL, ↓c_yes hL, ↓c_isHouse hL S, ↓c_isGang hL S, ↓q_within, ↓bd_s, ↓bv_s, ↓nmI_s, nI_1, ↓reduceIte, ite01z, not_true_eq_false, not_false_eq_true, if_true, if_false, z10, eq_true q, eq_true q2, eq_false q3, ↓e_hc S, ↓e_gc S, ↓e_wc S, ↓e_law S, ↓e_min S, ↓l_hs S.1, ↓l_gs S.1, ↓l_ws S.1, ↓l_ds S.1, ↓l_h S.1, ↓l_g S.1, ↓l_w S.1, ↓l_d S.1, ↓e_db S, ↓e_hat S, ↓e_hwo S, ↓e_hpi S, ↓e_hwe S, ↓e_hlo S, ↓e_hpe S, ↓e_hon S, ↓e_hsd S, ↓e_gho S, ↓e_gha S, ↓e_gpa S, ↓e_gat S, ↓e_ghd S, ↓e_gwa S, ↓e_gpc S, ↓e_wst S, ↓e_wch S, ↓lc_h S.1, ↓lc_g S.1, ↓lc_s S.1]
        · have D := pre_md hL 0
          unfold f_X12_helped
          rw [m_pre hL]
          simp (disch := omega) only [↓q_isIn, j0, j1, u1, u3, u4, u5, u8, u9, u20, u60, u99, u100, u240, u9999, ite01z, not_true_eq_false, not_false_eq_true, if_true, if_false, z10, eq_true q, eq_true q2, eq_false q3, ↓q_isHouse D, ↓q_isGang D, ↓m_refuse hL, ↓m_no hL, ↓m_r4 D.1, ↓m_r5 D.1, ↓m_r6 D.1, ↓m_r7 D.1, ↓m_r20 D.1, ↓m_r21 D.1, ↓m_r22 D.1, ↓m_r27 D.1, ↓m_r28 D.1, ↓m_r29 D.1, ↓m_r31 D.1, ↓m_r32 D.1, ↓m_r35 D.1, ↓m_ck D.1, ↓m_c0 D, ↓m_c1 D, ↓m_c2 D, ↓m_c3 D, ↓m_c4 D, ↓m_c D, i2, i3, i4, i5, i13, i21, i29, i37, i45, i53, i61, i69, i133, i137, i141, i145, i149, i153, i157, i161, i167, i4m, i6m, i8m, i9m, i18m, i60m, i256m, i450m, nI_add, ↓nmI_s, ↓bd_s, ↓bv_s, nI_1, ↓reduceIte]
          rfl
    · refine ⟨-1, 2, ?_, ?_⟩
      · unfold f_X11_helped
        simp (disch := omega) only [↓c_ck hL, ↓c_gI hL, ↓c_sh hL, ↓c_answer hL, ↓c_none hL, ↓c_no hL, ↓c_yes hL, ↓c_isHouse hL S, ↓c_isGang hL S, ↓q_within, ↓bd_s, ↓bv_s, ↓nmI_s, nI_1, ↓reduceIte, ite01z, not_true_eq_false, not_false_eq_true, if_true, if_false, z10, eq_true q, eq_false q2, f_X11_helped_16]
      · have D := pre_md hL 2
        unfold f_X12_helped
        rw [m_pre hL]
        simp (disch := omega) only [↓q_isIn, j0, j1, u1, u3, u4, u5, u8, u9, u20, u60, u99, u100, u240, u9999, ite01z, not_true_eq_false, not_false_eq_true, if_true, if_false, z10, eq_true q, eq_false q2, ↓q_isHouse D, ↓q_isGang D, ↓m_refuse hL, ↓m_no hL, ↓m_r4 D.1, ↓m_r5 D.1, ↓m_r6 D.1, ↓m_r7 D.1, ↓m_r20 D.1, ↓m_r21 D.1, ↓m_r22 D.1, ↓m_r27 D.1, ↓m_r28 D.1, ↓m_r29 D.1, ↓m_r31 D.1, ↓m_r32 D.1, ↓m_r35 D.1, ↓m_ck D.1, ↓m_c0 D, ↓m_c1 D, ↓m_c2 D, ↓m_c3 D, ↓m_c4 D, ↓m_c D, i2, i3, i4, i5, i13, i21, i29, i37, i45, i53, i61, i69, i133, i137, i141, i145, i149, i153, i157, i161, i167, i4m, i6m, i8m, i9m, i18m, i60m, i256m, i450m, nI_add, ↓nmI_s, ↓bd_s, ↓bv_s, nI_1, ↓reduceIte, f_X12_helped_26]
        rfl
  · refine ⟨-1, 2, ?_, ?_⟩
    · unfold f_X11_helped
      simp (disch := omega) only [↓c_ck hL, ↓c_gI hL, ↓c_sh hL, ↓c_answer hL, ↓c_none hL, ↓c_no hL, ↓c_yes hL, ↓c_isHouse hL S, ↓c_isGang hL S, ↓q_within, ↓bd_s, ↓bv_s, ↓nmI_s, nI_1, ↓reduceIte, ite01z, not_true_eq_false, not_false_eq_true, if_true, if_false, z10, eq_false q, f_X11_helped_16]
    · have D := pre_md hL 2
      unfold f_X12_helped
      rw [m_pre hL]
      simp (disch := omega) only [↓q_isIn, j0, j1, u1, u3, u4, u5, u8, u9, u20, u60, u99, u100, u240, u9999, ite01z, not_true_eq_false, not_false_eq_true, if_true, if_false, z10, eq_false q, ↓q_isHouse D, ↓q_isGang D, ↓m_refuse hL, ↓m_no hL, ↓m_r4 D.1, ↓m_r5 D.1, ↓m_r6 D.1, ↓m_r7 D.1, ↓m_r20 D.1, ↓m_r21 D.1, ↓m_r22 D.1, ↓m_r27 D.1, ↓m_r28 D.1, ↓m_r29 D.1, ↓m_r31 D.1, ↓m_r32 D.1, ↓m_r35 D.1, ↓m_ck D.1, ↓m_c0 D, ↓m_c1 D, ↓m_c2 D, ↓m_c3 D, ↓m_c4 D, ↓m_c D, i2, i3, i4, i5, i13, i21, i29, i37, i45, i53, i61, i69, i133, i137, i141, i145, i149, i153, i157, i161, i167, i4m, i6m, i8m, i9m, i18m, i60m, i256m, i450m, nI_add, ↓nmI_s, ↓bd_s, ↓bv_s, nI_1, ↓reduceIte, f_X12_helped_26]
      rfl
theorem op_quits (x w : Int32) : opI (fun M => f_X11_quits M (some 0) x w) (fun M => f_X12_quits M (some 207) x w) := by
  (refine opI_st fun M a b y z H => ?_; have hL := H.1; have S := H.2.1; have O := S.2.2; have h8 := (ok_h O).2; have g4 := (ok_g O).2; have w6 := (ok_w O).2; have L := S.1)
  by_cases q : 0 ≤ x ∧ x ≤ mI M 212 0 - 1
  · by_cases q2 : 0 ≤ w ∧ w ≤ mI M 212 0 - 1
    · by_cases q3 : x = w
      · refine ⟨-1, 5, ?_, ?_⟩
        · unfold f_X11_quits
          simp (disch := omega) only [↓c_ck hL, ↓c_gI hL, ↓c_sh hL, ↓c_answer hL, ↓c_none hL, ↓c_no hL, ↓c_yes hL, ↓c_isHouse hL S, ↓c_isGang hL S, ↓q_within, ↓bd_s, ↓bv_s, ↓nmI_s, nI_1, ↓reduceIte, ite01z, not_true_eq_false, not_false_eq_true, if_true, if_false, z10, eq_true q, eq_true q2, eq_true q3]
        · have D := pre_md hL 5
          unfold f_X12_quits
          rw [m_pre hL]
          simp (disch := omega) only [↓q_isIn, j0, j1, u1, u3, u4, u5, u8, u9, u20, u60, u99, u100, u240, u9999, ite01z, not_true_eq_false, not_false_eq_true, if_true, if_false, z10, eq_true q, eq_true q2, eq_true q3, ↓q_isHouse D, ↓q_isGang D, ↓m_refuse hL, ↓m_no hL, ↓m_r4 D.1, ↓m_r5 D.1, ↓m_r6 D.1, ↓m_r7 D.1, ↓m_r20 D.1, ↓m_r21 D.1, ↓m_r22 D.1, ↓m_r27 D.1, ↓m_r28 D.1, ↓m_r29 D.1, ↓m_r31 D.1, ↓m_r32 D.1, ↓m_r35 D.1, ↓m_ck D.1, ↓m_c0 D, ↓m_c1 D, ↓m_c2 D, ↓m_c3 D, ↓m_c4 D, ↓m_c D, i2, i3, i4, i5, i13, i21, i29, i37, i45, i53, i61, i69, i133, i137, i141, i145, i149, i153, i157, i161, i167, i4m, i6m, i8m, i9m, i18m, i60m, i256m, i450m, nI_add, ↓nmI_s, ↓bd_s, ↓bv_s, nI_1, ↓reduceIte]
          rfl
      · obtain ⟨g, hg, rfl⟩ := hIx O q
        obtain ⟨h, hh, rfl⟩ := hIx O q2
        refine ⟨mI M 212 (69 + 8 * g + h) - mI M 212 (69 + 8 * h + g), 0, ?_, ?_⟩
        · unfold f_X11_quits
          simp (disch := omega) only [↓c_ck hL, ↓c_gI hL, ↓c_sh hL, ↓c_answer hL, ↓c_none hL, ↓c_no hL, ↓c_yes hL, ↓c_isHouse hL S, ↓c_isGang hL S, ↓q_within, ↓bd_s, ↓bv_s, ↓nmI_s, nI_1, ↓reduceIte, ite01z, not_true_eq_false, not_false_eq_true, if_true, if_false, z10, eq_true q, eq_true q2, eq_false q3, ↓e_hc S, ↓e_gc S, ↓e_wc S, ↓e_law S, ↓e_min S, ↓l_hs S.1, ↓l_gs S.1, ↓l_ws S.1, ↓l_ds S.1, ↓l_h S.1, ↓l_g S.1, ↓l_w S.1, ↓l_d S.1, ↓e_db S, ↓e_hat S, ↓e_hwo S, ↓e_hpi S, ↓e_hwe S, ↓e_hlo S, ↓e_hpe S, ↓e_hon S, ↓e_hsd S, ↓e_gho S, ↓e_gha S, ↓e_gpa S, ↓e_gat S, ↓e_ghd S, ↓e_gwa S, ↓e_gpc S, ↓e_wst S, ↓e_wch S, ↓lc_h S.1, ↓lc_g S.1, ↓lc_s S.1]
        · have D := pre_md hL 0
          unfold f_X12_quits
          rw [m_pre hL]
          simp (disch := omega) only [↓q_isIn, j0, j1, u1, u3, u4, u5, u8, u9, u20, u60, u99, u100, u240, u9999, ite01z, not_true_eq_false, not_false_eq_true, if_true, if_false, z10, eq_true q, eq_true q2, eq_false q3, ↓q_isHouse D, ↓q_isGang D, ↓m_refuse hL, ↓m_no hL, ↓m_r4 D.1, ↓m_r5 D.1, ↓m_r6 D.1, ↓m_r7 D.1, ↓m_r20 D.1, ↓m_r21 D.1, ↓m_r22 D.1, ↓m_r27 D.1, ↓m_r28 D.1, ↓m_r29 D.1, ↓m_r31 D.1, ↓m_r32 D.1, ↓m_r35 D.1, ↓m_ck D.1, ↓m_c0 D, ↓m_c1 D, ↓m_c2 D, ↓m_c3 D, ↓m_c4 D, ↓m_c D, i2, i3, i4, i5, i13, i21, i29, i37, i45, i53, i61, i69, i133, i137, i141, i145, i149, i153, i157, i161, i167, i4m, i6m, i8m, i9m, i18m, i60m, i256m, i450m, nI_add, ↓nmI_s, ↓bd_s, ↓bv_s, nI_1, ↓reduceIte]
          rfl
    · refine ⟨-1, 2, ?_, ?_⟩
      · unfold f_X11_quits
        simp (disch := omega) only [↓c_ck hL, ↓c_gI hL, ↓c_sh hL, ↓c_answer hL, ↓c_none hL, ↓c_no hL, ↓c_yes hL, ↓c_isHouse hL S, ↓c_isGang hL S, ↓q_within, ↓bd_s, ↓bv_s, ↓nmI_s, nI_1, ↓reduceIte, ite01z, not_true_eq_false, not_false_eq_true, if_true, if_false, z10, eq_true q, eq_false q2, f_X11_quits_16]
      · have D := pre_md hL 2
        unfold f_X12_quits
        rw [m_pre hL]
        simp (disch := omega) only [↓q_isIn, j0, j1, u1, u3, u4, u5, u8, u9, u20, u60, u99, u100, u240, u9999, ite01z, not_true_eq_false, not_false_eq_true, if_true, if_false, z10, eq_true q, eq_false q2, ↓q_isHouse D, ↓q_isGang D, ↓m_refuse hL, ↓m_no hL, ↓m_r4 D.1, ↓m_r5 D.1, ↓m_r6 D.1, ↓m_r7 D.1, ↓m_r20 D.1, ↓m_r21 D.1, ↓m_r22 D.1, ↓m_r27 D.1, ↓m_r28 D.1, ↓m_r29 D.1, ↓m_r31 D.1, ↓m_r32 D.1, ↓m_r35 D.1, ↓m_ck D.1, ↓m_c0 D, ↓m_c1 D, ↓m_c2 D, ↓m_c3 D, ↓m_c4 D, ↓m_c D, i2, i3, i4, i5, i13, i21, i29, i37, i45, i53, i61, i69, i133, i137, i141, i145, i149, i153, i157, i161, i167, i4m, i6m, i8m, i9m, i18m, i60m, i256m, i450m, nI_add, ↓nmI_s, ↓bd_s, ↓bv_s, nI_1, ↓reduceIte, f_X12_quits_26]
        rfl
  · refine ⟨-1, 2, ?_, ?_⟩
    · unfold f_X11_quits
      simp (disch := omega) only [↓c_ck hL, ↓c_gI hL, ↓c_sh hL, ↓c_answer hL, ↓c_none hL, ↓c_no hL, ↓c_yes hL, ↓c_isHouse hL S, ↓c_isGang hL S, ↓q_within, ↓bd_s, ↓bv_s, ↓nmI_s, nI_1, ↓reduceIte, ite01z, not_true_eq_false, not_false_eq_true, if_true, if_false, z10, eq_false q, f_X11_quits_16]
    · have D := pre_md hL 2
      unfold f_X12_quits
      rw [m_pre hL]
      simp (disch := omega) only [↓q_isIn, j0, j1, u1, u3, u4, u5, u8, u9, u20, u60, u99, u100, u240, u9999, ite01z, not_true_eq_false, not_false_eq_true, if_true, if_false, z10, eq_false q, ↓q_isHouse D, ↓q_isGang D, ↓m_refuse hL, ↓m_no hL, ↓m_r4 D.1, ↓m_r5 D.1, ↓m_r6 D.1, ↓m_r7 D.1, ↓m_r20 D.1, ↓m_r21 D.1, ↓m_r22 D.1, ↓m_r27 D.1, ↓m_r28 D.1, ↓m_r29 D.1, ↓m_r31 D.1, ↓m_r32 D.1, ↓m_r35 D.1, ↓m_ck D.1, ↓m_c0 D, ↓m_c1 D, ↓m_c2 D, ↓m_c3 D, ↓m_c4 D, ↓m_c D, i2, i3, i4, i5, i13, i21, i29, i37, i45, i53, i61, i69, i133, i137, i141, i145, i149, i153, i157, i161, i167, i4m, i6m, i8m, i9m, i18m, i60m, i256m, i450m, nI_add, ↓nmI_s, ↓bd_s, ↓bv_s, nI_1, ↓reduceIte, f_X12_quits_26]
      rfl
theorem fb_neg {c : Nat → Int32} (O : okC c) {g : Nat} : ¬ 0 ≤ (fb c g (hN c)).1 ↔ (fb c g (hN c)).1 = -1 := by
  have h8 := (ok_h O).2
  rcases fb_inv c g (hN c) with z | ⟨b, h1, h2, -⟩
  · rw [z]; decide
  · rw [h2]
    exact ⟨fun z => absurd (nI_pos' (by omega)) z, fun z => absurd z (neg1_ne (by omega))⟩
theorem lt0 {x : Int32} : x < 0 ↔ ¬ 0 ≤ x := Int32.not_le.symm
theorem op_next (x : Int32) : opI (fun M => f_X11_next M (some 0) x) (fun M => f_X12_next_ M (some 207) x) := by
  (refine opI_st fun M a b y z H => ?_; have hL := H.1; have S := H.2.1; have O := S.2.2; have h8 := (ok_h O).2; have g4 := (ok_g O).2; have w6 := (ok_w O).2; have L := S.1)
  by_cases q : 0 ≤ x ∧ x ≤ mI M 212 1 - 1
  · obtain ⟨g, hg, rfl⟩ := gIx O q
    by_cases q2 : 0 ≤ mI M 212 (149 + g)
    · have q3 : ¬ mI M 212 (149 + g) = -1 := fun z => absurd q2 ((neg_hand O hg).mpr z)
      have q4 : ¬ mI M 212 (149 + g) < 0 := fun z => lt0.mp z q2
      refine ⟨-1, 9, ?_, ?_⟩
      · unfold f_X11_next
        simp (disch := omega) only [↓c_ck hL, ↓c_gI hL, ↓c_sh hL, ↓c_answer hL, ↓c_none hL, ↓c_no hL, ↓c_yes hL, ↓c_isHouse hL S, ↓c_isGang hL S, ↓q_within, ↓bd_s, ↓bv_s, ↓nmI_s, nI_1, ↓reduceIte, ite01z, not_true_eq_false, not_false_eq_true, if_true, if_false, z10, eq_true q, ↓e_hc S, ↓e_gc S, ↓e_wc S, ↓e_law S, ↓e_min S, ↓l_hs S.1, ↓l_gs S.1, ↓l_ws S.1, ↓l_ds S.1, ↓l_h S.1, ↓l_g S.1, ↓l_w S.1, ↓l_d S.1, ↓e_db S, ↓e_hat S, ↓e_hwo S, ↓e_hpi S, ↓e_hwe S, ↓e_hlo S, ↓e_hpe S, ↓e_hon S, ↓e_hsd S, ↓e_gho S, ↓e_gha S, ↓e_gpa S, ↓e_gat S, ↓e_ghd S, ↓e_gwa S, ↓e_gpc S, ↓e_wst S, ↓e_wch S, ↓lc_h S.1, ↓lc_g S.1, ↓lc_s S.1, eq_false q3]
      · have D := pre_md hL 9
        unfold f_X12_next_
        rw [m_pre hL]
        simp (disch := omega) only [↓q_isIn, j0, j1, u1, u3, u4, u5, u8, u9, u20, u60, u99, u100, u240, u9999, ite01z, not_true_eq_false, not_false_eq_true, if_true, if_false, z10, eq_true q, ↓q_isHouse D, ↓q_isGang D, ↓m_refuse hL, ↓m_no hL, ↓m_r4 D.1, ↓m_r5 D.1, ↓m_r6 D.1, ↓m_r7 D.1, ↓m_r20 D.1, ↓m_r21 D.1, ↓m_r22 D.1, ↓m_r27 D.1, ↓m_r28 D.1, ↓m_r29 D.1, ↓m_r31 D.1, ↓m_r32 D.1, ↓m_r35 D.1, ↓m_ck D.1, ↓m_c0 D, ↓m_c1 D, ↓m_c2 D, ↓m_c3 D, ↓m_c4 D, ↓m_c D, i2, i3, i4, i5, i13, i21, i29, i37, i45, i53, i61, i69, i133, i137, i141, i145, i149, i153, i157, i161, i167, i4m, i6m, i8m, i9m, i18m, i60m, i256m, i450m, nI_add, ↓nmI_s, ↓bd_s, ↓bv_s, nI_1, ↓reduceIte, eq_false q4]
        rfl
    · have q3 : mI M 212 (149 + g) = -1 := (neg_hand O hg).mp q2
      have q4 : mI M 212 (149 + g) < 0 := lt0.mpr q2
      by_cases q5 : 0 ≤ (fb (mI M 212) g (hN (mI M 212))).1
      · have q6 : ¬ (fb (mI M 212) g (hN (mI M 212))).1 = -1 := fun z => absurd q5 ((fb_neg O).mpr z)
        refine ⟨(fb (mI M 212) g (hN (mI M 212))).1, 0, ?_, ?_⟩
        · unfold f_X11_next
          simp (disch := omega) only [↓c_ck hL, ↓c_gI hL, ↓c_sh hL, ↓c_answer hL, ↓c_none hL, ↓c_no hL, ↓c_yes hL, ↓c_isHouse hL S, ↓c_isGang hL S, ↓q_within, ↓bd_s, ↓bv_s, ↓nmI_s, nI_1, ↓reduceIte, ite01z, not_true_eq_false, not_false_eq_true, if_true, if_false, z10, eq_true q, ↓e_hc S, ↓e_gc S, ↓e_wc S, ↓e_law S, ↓e_min S, ↓l_hs S.1, ↓l_gs S.1, ↓l_ws S.1, ↓l_ds S.1, ↓l_h S.1, ↓l_g S.1, ↓l_w S.1, ↓l_d S.1, ↓e_db S, ↓e_hat S, ↓e_hwo S, ↓e_hpi S, ↓e_hwe S, ↓e_hlo S, ↓e_hpe S, ↓e_hon S, ↓e_hsd S, ↓e_gho S, ↓e_gha S, ↓e_gpa S, ↓e_gat S, ↓e_ghd S, ↓e_gwa S, ↓e_gpc S, ↓e_wst S, ↓e_wch S, ↓lc_h S.1, ↓lc_g S.1, ↓lc_s S.1, eq_true q3, p_first S, eq_false q6]
        · have D := pre_md hL 0
          unfold f_X12_next_
          rw [m_pre hL]
          simp (disch := omega) only [↓q_isIn, j0, j1, u1, u3, u4, u5, u8, u9, u20, u60, u99, u100, u240, u9999, ite01z, not_true_eq_false, not_false_eq_true, if_true, if_false, z10, eq_true q, ↓q_isHouse D, ↓q_isGang D, ↓m_refuse hL, ↓m_no hL, ↓m_r4 D.1, ↓m_r5 D.1, ↓m_r6 D.1, ↓m_r7 D.1, ↓m_r20 D.1, ↓m_r21 D.1, ↓m_r22 D.1, ↓m_r27 D.1, ↓m_r28 D.1, ↓m_r29 D.1, ↓m_r31 D.1, ↓m_r32 D.1, ↓m_r35 D.1, ↓m_ck D.1, ↓m_c0 D, ↓m_c1 D, ↓m_c2 D, ↓m_c3 D, ↓m_c4 D, ↓m_c D, i2, i3, i4, i5, i13, i21, i29, i37, i45, i53, i61, i69, i133, i137, i141, i145, i149, i153, i157, i161, i167, i4m, i6m, i8m, i9m, i18m, i60m, i256m, i450m, nI_add, ↓nmI_s, ↓bd_s, ↓bv_s, nI_1, ↓reduceIte, eq_true q4, q_chosen D O, eq_true q5]
          rfl
      · have q6 := (fb_neg O).mp q5
        refine ⟨-1, 8, ?_, ?_⟩
        · unfold f_X11_next
          simp (disch := omega) only [↓c_ck hL, ↓c_gI hL, ↓c_sh hL, ↓c_answer hL, ↓c_none hL, ↓c_no hL, ↓c_yes hL, ↓c_isHouse hL S, ↓c_isGang hL S, ↓q_within, ↓bd_s, ↓bv_s, ↓nmI_s, nI_1, ↓reduceIte, ite01z, not_true_eq_false, not_false_eq_true, if_true, if_false, z10, eq_true q, ↓e_hc S, ↓e_gc S, ↓e_wc S, ↓e_law S, ↓e_min S, ↓l_hs S.1, ↓l_gs S.1, ↓l_ws S.1, ↓l_ds S.1, ↓l_h S.1, ↓l_g S.1, ↓l_w S.1, ↓l_d S.1, ↓e_db S, ↓e_hat S, ↓e_hwo S, ↓e_hpi S, ↓e_hwe S, ↓e_hlo S, ↓e_hpe S, ↓e_hon S, ↓e_hsd S, ↓e_gho S, ↓e_gha S, ↓e_gpa S, ↓e_gat S, ↓e_ghd S, ↓e_gwa S, ↓e_gpc S, ↓e_wst S, ↓e_wch S, ↓lc_h S.1, ↓lc_g S.1, ↓lc_s S.1, eq_true q3, p_first S, eq_true q6]
        · have D := pre_md hL 8
          unfold f_X12_next_
          rw [m_pre hL]
          simp (disch := omega) only [↓q_isIn, j0, j1, u1, u3, u4, u5, u8, u9, u20, u60, u99, u100, u240, u9999, ite01z, not_true_eq_false, not_false_eq_true, if_true, if_false, z10, eq_true q, ↓q_isHouse D, ↓q_isGang D, ↓m_refuse hL, ↓m_no hL, ↓m_r4 D.1, ↓m_r5 D.1, ↓m_r6 D.1, ↓m_r7 D.1, ↓m_r20 D.1, ↓m_r21 D.1, ↓m_r22 D.1, ↓m_r27 D.1, ↓m_r28 D.1, ↓m_r29 D.1, ↓m_r31 D.1, ↓m_r32 D.1, ↓m_r35 D.1, ↓m_ck D.1, ↓m_c0 D, ↓m_c1 D, ↓m_c2 D, ↓m_c3 D, ↓m_c4 D, ↓m_c D, i2, i3, i4, i5, i13, i21, i29, i37, i45, i53, i61, i69, i133, i137, i141, i145, i149, i153, i157, i161, i167, i4m, i6m, i8m, i9m, i18m, i60m, i256m, i450m, nI_add, ↓nmI_s, ↓bd_s, ↓bv_s, nI_1, ↓reduceIte, eq_true q4, q_chosen D O, eq_false q5]
          rfl
  · refine ⟨-1, 2, ?_, ?_⟩
    · unfold f_X11_next
      simp (disch := omega) only [↓c_ck hL, ↓c_gI hL, ↓c_sh hL, ↓c_answer hL, ↓c_none hL, ↓c_no hL, ↓c_yes hL, ↓c_isHouse hL S, ↓c_isGang hL S, ↓q_within, ↓bd_s, ↓bv_s, ↓nmI_s, nI_1, ↓reduceIte, ite01z, not_true_eq_false, not_false_eq_true, if_true, if_false, z10, eq_false q]
    · have D := pre_md hL 2
      unfold f_X12_next_
      rw [m_pre hL]
      simp (disch := omega) only [↓q_isIn, j0, j1, u1, u3, u4, u5, u8, u9, u20, u60, u99, u100, u240, u9999, ite01z, not_true_eq_false, not_false_eq_true, if_true, if_false, z10, eq_false q, ↓q_isHouse D, ↓q_isGang D, ↓m_refuse hL, ↓m_no hL, ↓m_r4 D.1, ↓m_r5 D.1, ↓m_r6 D.1, ↓m_r7 D.1, ↓m_r20 D.1, ↓m_r21 D.1, ↓m_r22 D.1, ↓m_r27 D.1, ↓m_r28 D.1, ↓m_r29 D.1, ↓m_r31 D.1, ↓m_r32 D.1, ↓m_r35 D.1, ↓m_ck D.1, ↓m_c0 D, ↓m_c1 D, ↓m_c2 D, ↓m_c3 D, ↓m_c4 D, ↓m_c D, i2, i3, i4, i5, i13, i21, i29, i37, i45, i53, i61, i69, i133, i137, i141, i145, i149, i153, i157, i161, i167, i4m, i6m, i8m, i9m, i18m, i60m, i256m, i450m, nI_add, ↓nmI_s, ↓bd_s, ↓bv_s, nI_1, ↓reduceIte]
      rfl
