/-! CALLS THAT CHANGE THE SHORE -/
theorem pre_sA {M : Mm} {c : Nat → Int32} (e : mI M 212 = c) (s : Int32) : pre M s = sA (pre M s) 212 c := by
  have h : mI (pre M s) 212 = c := by
    unfold pre
    rw [mI_o (by decide), mI_o (by decide), mI_o (by decide), e]
  rw [← h]
  exact (sA_self _ 212).symm
theorem RR_w {M M1 X : Mm} {a b y z : Nat} {c' : Nat → Int32} (H : RA M a b y z) (F1 : FrI M M1 a 31) (S1 : shO M1 a c') (hc : ∀ k, k < 3 ∨ 173 ≤ k → c' k = mI M 212 k) (h9 : na c' 4 ≤ 9999) (hX : X = pre M1 0 ∨ ∃ v, X = sI (pre M1 0) 207 26 v) : RR (sA X 212 c') := by
  have hL := H.1
  have ha := ll_a hL
  have A1 : Ag M (pre M1 0) a := (((Ag.rf.fr ha F1).s0 0).s7 (by omega) 0).s7 (by omega) 0
  have A2 : Ag M X a := by
    rcases hX with h | ⟨v, h⟩
    · rw [h]; exact A1
    · rw [h]; exact A1.s7 (by omega) v
  have eX : mK X = mK M1 ∧ mR X = mR M1 ∧ (∀ x, x ≠ 0 → x ≠ 207 → mI X x = mI M1 x) ∧ mI X 0 0 = 0 ∧ mI X 207 0 = 0 := by
    have hp : (∀ x, x ≠ 0 → x ≠ 207 → mI (pre M1 0) x = mI M1 x) ∧ mI (pre M1 0) 0 0 = 0 ∧ mI (pre M1 0) 207 0 = 0 := by
      unfold pre
      refine ⟨fun x h1 h2 => by rw [mI_o h2, mI_o h2, mI_o h1], by rw [mI_o (by decide), mI_o (by decide), mI_sI_s], mI_sI_s _ _ _ _⟩
    rcases hX with h | ⟨v, h⟩ <;> subst h
    · exact ⟨rfl, rfl, hp⟩
    · refine ⟨rfl, rfl, fun x h1 h2 => by rw [mI_o h2]; exact hp.1 x h1 h2, by rw [mI_o (by decide)]; exact hp.2.1, by rw [mI_f (by decide)]; exact hp.2.2⟩
  refine ⟨a, b, y, z, RA_sh H (A2.sc hc) ?_ ?_ (by rw [mI_sA_s]; exact h9)⟩
  · rw [mI_sA_o X c' (by decide), mI_sA_o X c' (by decide), eX.2.2.2.1, eX.2.2.2.2]
  · rw [mI_sA_s]
    refine shO_same S1 eX.1 eX.2.1 fun x x1 x2 => ?_
    rw [mI_sA_o X c' (by omega), eX.2.2.1 x (by omega) (by omega)]
theorem op_dawn : opI (fun M => f_X11_dawn M (some 0)) (fun M => f_X12_dawn M (some 207)) := by
  intro M hR
  dsimp only
  obtain ⟨a, b, y, z, H⟩ := hR
  have hL := H.1
  have S := H.2.1
  have O := S.2.2
  obtain ⟨M1, e1, S1, F1⟩ := p_dawn S
  have ha := ll_a hL
  have hL1 := LL_same hL F1.1 F1.2.2.1 F1.2.2.2.1
  have e2 : mI M1 212 = mI M 212 := F1.2.2.2.2 212 (by omega)
  refine ⟨dwnN (mI M 212) (hN (mI M 212)), sI M1 0 0 0, sA (pre M1 0) 212 (dwn (mI M 212)), ?_, ?_, RR_w H F1 S1 (fun k hk => ?_) (by rw [na_of (n := 0) (show dwn (mI M 212) 4 = nI 0 from pk_us) (by omega)]; omega) (Or.inl rfl)⟩
  · unfold f_X11_dawn
    rw [c_sh hL, lc_s S.1, e1, bd_s, c_ck hL1, c_answer hL1, bd_s]
  · unfold f_X12_dawn
    rw [m_pre hL1, pre_sA e2 0, f_ck (M := pre M1 0) hL1.2.2.1, q_dawns (M := pre M1 0) hL1.2.2.1 O, bd_s, ← pre_sA e2 0]
  · have h8 := (ok_h O).2
    have g4 := (ok_g O).2
    unfold dwn
    rw [pk_un (by omega), gal_o (by omega), onF_o (by omega)]
theorem op_gale (x : Int32) : opI (fun M => f_X11_gale M (some 0) x) (fun M => f_X12_gale M (some 207) x) := by
  intro M hR
  dsimp only
  obtain ⟨a, b, y, z, H⟩ := id hR
  have hL := H.1
  have S := H.2.1
  have O := S.2.2
  by_cases q : 0 ≤ x ∧ x ≤ 99
  · obtain ⟨M1, e1, S1, F1⟩ := p_blow S x
    have ha := ll_a hL
    have hL1 := LL_same hL F1.1 F1.2.2.1 F1.2.2.2.1
    have e2 : mI M1 212 = mI M 212 := F1.2.2.2.2 212 (by omega)
    refine ⟨pop (st (falls (mI M 212) x) (hN (mI M 212))), sI M1 0 0 0, sA (pre M1 0) 212 (galS (mI M 212) x), ?_, ?_, RR_w H F1 S1 (fun k hk => ?_) (by rw [na_same (show galS (mI M 212) x 4 = mI M 212 4 from gal_o (by omega))]; exact H.2.2.1.1) (Or.inl rfl)⟩
    · unfold f_X11_gale
      simp (disch := omega) only [↓c_ck hL, ↓c_gI hL, ↓c_sh hL, ↓c_answer hL, ↓c_none hL, ↓c_no hL, ↓c_yes hL, ↓c_isHouse hL S, ↓c_isGang hL S, ↓q_within, ↓bd_s, ↓bv_s, ↓nmI_s, nI_1, ↓reduceIte, ite01z, not_true_eq_false, not_false_eq_true, if_true, if_false, z10, eq_true q, ↓lc_s S.1, e1]
      rw [c_ck hL1, c_answer hL1, bd_s]
    · unfold f_X12_gale
      rw [m_pre hL1]
      simp (disch := omega) only [↓q_isIn, j0, j1, u1, u3, u4, u5, u8, u9, u20, u60, u99, u100, u240, u9999, ite01z, not_true_eq_false, not_false_eq_true, if_true, if_false, z10, eq_true q, ↓bd_s]
      rw [pre_sA e2 0, f_ck (M := pre M1 0) hL1.2.2.1, q_blows (M := pre M1 0) hL1.2.2.1 O, bd_s, ← pre_sA e2 0]
    · exact gal_o (by omega)
  · refine ⟨-1, sI M 0 0 5, _, ?_, ?_, RR_st hR 5⟩
    · unfold f_X11_gale
      simp (disch := omega) only [↓c_ck hL, ↓c_gI hL, ↓c_sh hL, ↓c_answer hL, ↓c_none hL, ↓c_no hL, ↓c_yes hL, ↓c_isHouse hL S, ↓c_isGang hL S, ↓q_within, ↓bd_s, ↓bv_s, ↓nmI_s, nI_1, ↓reduceIte, ite01z, not_true_eq_false, not_false_eq_true, if_true, if_false, z10, eq_false q]
    · have D := pre_md hL 5
      unfold f_X12_gale
      rw [m_pre hL]
      simp (disch := omega) only [↓q_isIn, j0, j1, u1, u3, u4, u5, u8, u9, u20, u60, u99, u100, u240, u9999, ite01z, not_true_eq_false, not_false_eq_true, if_true, if_false, z10, eq_false q, ↓q_isHouse D, ↓q_isGang D, ↓m_refuse hL, ↓m_no hL, ↓m_r4 D.1, ↓m_r5 D.1, ↓m_r6 D.1, ↓m_r7 D.1, ↓m_r20 D.1, ↓m_r21 D.1, ↓m_r22 D.1, ↓m_r27 D.1, ↓m_r28 D.1, ↓m_r29 D.1, ↓m_r31 D.1, ↓m_r32 D.1, ↓m_r35 D.1, ↓m_ck D.1, ↓m_c0 D, ↓m_c1 D, ↓m_c2 D, ↓m_c3 D, ↓m_c4 D, ↓m_c D, i2, i3, i4, i5, i13, i21, i29, i37, i45, i53, i61, i69, i133, i137, i141, i145, i149, i153, i157, i161, i167, i4m, i6m, i8m, i9m, i18m, i60m, i256m, i450m, nI_add, ↓nmI_s, ↓bd_s, ↓bv_s, nI_1, ↓reduceIte]
      rfl
theorem op_hour (x : Int32) : opI (fun M => f_X11_hour M (some 0) x) (fun M => f_X12_hour M (some 207) x) := by
  intro M hR
  dsimp only
  obtain ⟨a, b, y, z, H⟩ := id hR
  have hL := H.1
  have S := H.2.1
  have O := S.2.2
  by_cases q : 1 ≤ x ∧ x ≤ 240
  · obtain ⟨n, hn, rfl⟩ := rng (n := 240) (by decide) ⟨Int32.le_trans (by decide) q.1, q.2⟩
    have em := O.2.2.2.2.1
    by_cases q2 : mI M 212 4 + nI n ≤ 9999
    · have h9 : na (mI M 212) 4 + n ≤ 9999 := by
        rw [em.1, nI_add, show (9999 : Int32) = nI 9999 from rfl, nI_leI' (by have := em.2.2; omega) (by omega)] at q2
        exact q2
      obtain ⟨M1, e1, S1, F1⟩ := p_hour S hn (by omega)
      have ha := ll_a hL
      have hL1 := LL_same hL F1.1 F1.2.2.1 F1.2.2.2.1
      have e2 : mI M1 212 = mI M 212 := F1.2.2.2.2 212 (by omega)
      refine ⟨(hmin (mI M 212) n).2, sI M1 0 0 0, sA (sI (pre M1 0) 207 26 (hmin (mI M 212) n).2) 212 (hrs (mI M 212) n), ?_, ?_, RR_w H F1 S1 (fun k hk => ?_) (by rw [na_of (n := na (mI M 212) 4 + n) (by unfold hrs; rw [pk_us, (hmin_ok O n).2 4 (by omega), em.1, nI_add]) (by omega)]; exact h9) (Or.inr ⟨_, rfl⟩)⟩
      · unfold f_X11_hour
        simp (disch := omega) only [↓c_ck hL, ↓c_gI hL, ↓c_sh hL, ↓c_answer hL, ↓c_none hL, ↓c_no hL, ↓c_yes hL, ↓c_isHouse hL S, ↓c_isGang hL S, ↓q_within, ↓bd_s, ↓bv_s, ↓nmI_s, nI_1, ↓reduceIte, ite01z, not_true_eq_false, not_false_eq_true, if_true, if_false, z10, eq_true q, ↓e_min S, eq_true q2, ↓lc_s S.1, e1]
        rw [c_ck hL1, c_answer hL1, bd_s]
      · have D := pre_md hL1 0
        rw [e2] at D
        unfold f_X12_hour
        rw [m_pre hL1]
        simp (disch := omega) only [↓q_isIn, j0, j1, u1, u3, u4, u5, u8, u9, u20, u60, u99, u100, u240, u9999, ite01z, not_true_eq_false, not_false_eq_true, if_true, if_false, z10, eq_true q, ↓m_r4 D.1, ↓m_r5 D.1, ↓m_r6 D.1, ↓m_r7 D.1, ↓m_r20 D.1, ↓m_r21 D.1, ↓m_r22 D.1, ↓m_r27 D.1, ↓m_r28 D.1, ↓m_r29 D.1, ↓m_r31 D.1, ↓m_r32 D.1, ↓m_r35 D.1, ↓m_ck D.1, ↓m_c0 D, ↓m_c1 D, ↓m_c2 D, ↓m_c3 D, ↓m_c4 D, ↓m_c D, i2, i3, i4, i5, i13, i21, i29, i37, i45, i53, i61, i69, i133, i137, i141, i145, i149, i153, i157, i161, i167, i4m, i6m, i8m, i9m, i18m, i60m, i256m, i450m, nI_add, ↓nmI_s, ↓bd_s, ↓bv_s, nI_1, ↓reduceIte, eq_true q2]
        rw [pre_sA e2 0, q_hours (M := pre M1 0) hL1.2.2.1 O hn, bd_s, ← pre_sA e2 0]
      · have hs := (hmin_ok O n).2
        exact (pk_un (by omega)).trans (hs k (by omega))
    · refine ⟨-1, sI M 0 0 7, _, ?_, ?_, RR_st hR 7⟩
      · unfold f_X11_hour
        simp (disch := omega) only [↓c_ck hL, ↓c_gI hL, ↓c_sh hL, ↓c_answer hL, ↓c_none hL, ↓c_no hL, ↓c_yes hL, ↓c_isHouse hL S, ↓c_isGang hL S, ↓q_within, ↓bd_s, ↓bv_s, ↓nmI_s, nI_1, ↓reduceIte, ite01z, not_true_eq_false, not_false_eq_true, if_true, if_false, z10, eq_true q, ↓e_min S, eq_false q2]
      · have D := pre_md hL 7
        unfold f_X12_hour
        rw [m_pre hL]
        simp (disch := omega) only [↓q_isIn, j0, j1, u1, u3, u4, u5, u8, u9, u20, u60, u99, u100, u240, u9999, ite01z, not_true_eq_false, not_false_eq_true, if_true, if_false, z10, eq_true q, ↓q_isHouse D, ↓q_isGang D, ↓m_refuse hL, ↓m_no hL, ↓m_r4 D.1, ↓m_r5 D.1, ↓m_r6 D.1, ↓m_r7 D.1, ↓m_r20 D.1, ↓m_r21 D.1, ↓m_r22 D.1, ↓m_r27 D.1, ↓m_r28 D.1, ↓m_r29 D.1, ↓m_r31 D.1, ↓m_r32 D.1, ↓m_r35 D.1, ↓m_ck D.1, ↓m_c0 D, ↓m_c1 D, ↓m_c2 D, ↓m_c3 D, ↓m_c4 D, ↓m_c D, i2, i3, i4, i5, i13, i21, i29, i37, i45, i53, i61, i69, i133, i137, i141, i145, i149, i153, i157, i161, i167, i4m, i6m, i8m, i9m, i18m, i60m, i256m, i450m, nI_add, ↓nmI_s, ↓bd_s, ↓bv_s, nI_1, ↓reduceIte, eq_false q2]
        rfl
  · refine ⟨-1, sI M 0 0 5, _, ?_, ?_, RR_st hR 5⟩
    · unfold f_X11_hour
      simp (disch := omega) only [↓c_ck hL, ↓c_gI hL, ↓c_sh hL, ↓c_answer hL, ↓c_none hL, ↓c_no hL, ↓c_yes hL, ↓c_isHouse hL S, ↓c_isGang hL S, ↓q_within, ↓bd_s, ↓bv_s, ↓nmI_s, nI_1, ↓reduceIte, ite01z, not_true_eq_false, not_false_eq_true, if_true, if_false, z10, eq_false q]
    · have D := pre_md hL 5
      unfold f_X12_hour
      rw [m_pre hL]
      simp (disch := omega) only [↓q_isIn, j0, j1, u1, u3, u4, u5, u8, u9, u20, u60, u99, u100, u240, u9999, ite01z, not_true_eq_false, not_false_eq_true, if_true, if_false, z10, eq_false q, ↓q_isHouse D, ↓q_isGang D, ↓m_refuse hL, ↓m_no hL, ↓m_r4 D.1, ↓m_r5 D.1, ↓m_r6 D.1, ↓m_r7 D.1, ↓m_r20 D.1, ↓m_r21 D.1, ↓m_r22 D.1, ↓m_r27 D.1, ↓m_r28 D.1, ↓m_r29 D.1, ↓m_r31 D.1, ↓m_r32 D.1, ↓m_r35 D.1, ↓m_ck D.1, ↓m_c0 D, ↓m_c1 D, ↓m_c2 D, ↓m_c3 D, ↓m_c4 D, ↓m_c D, i2, i3, i4, i5, i13, i21, i29, i37, i45, i53, i61, i69, i133, i137, i141, i145, i149, i153, i157, i161, i167, i4m, i6m, i8m, i9m, i18m, i60m, i256m, i450m, nI_add, ↓nmI_s, ↓bd_s, ↓bv_s, nI_1, ↓reduceIte]
      rfl
theorem op_rest (x : Int32) : opI (fun M => f_X11_rest M (some 0) x) (fun M => f_X12_rest M (some 207) x) := by
  intro M hR
  dsimp only
  obtain ⟨a, b, y, z, H⟩ := id hR
  have hL := H.1
  have S := H.2.1
  have O := S.2.2
  have g4 := (ok_g O).2
  by_cases q : 0 ≤ x ∧ x ≤ mI M 212 1 - 1
  · obtain ⟨g, hg, rfl⟩ := gIx O q
    by_cases q2 : 0 ≤ mI M 212 (149 + g)
    · have q3 : ¬ mI M 212 (149 + g) = -1 := fun z => absurd q2 ((neg_hand O hg).mpr z)
      obtain ⟨M1, e1, W1, F1⟩ := pw_putDown (shW_of S) (g := g) (by omega)
      have hs : sS (mI M 212) (drops (mI M 212) g) := sS_drops (by omega)
      have S1 : shO M1 a (drops (mI M 212) g) := by
        refine shO_of W1 (ecl_ext O hg hs (fun k hk => ?_) ?_ (fun g' hg' hne => ⟨?_, ?_, ?_⟩)) (okC_drops O hg)
        · by_cases z1 : k = 149 + g
          · rw [z1, drops_9, drops_9]
          · by_cases z2 : k = 153 + g
            · rw [z2, drops_3, drops_3]
            · rw [drops_o z1 z2 (by omega), drops_o z1 z2 (by omega), ecl_o hk]
        · rw [drops_7, pcs_none (drops_9 _ g)]
        · rw [drops_o (by omega) (by omega) (by omega), ecl_p (by omega)]
        · exact drops_o (by omega) (by omega) (by omega)
        · exact drops_o (by omega) (by omega) (by omega)
      have ha := ll_a hL
      have hL1 := LL_same hL F1.1 F1.2.2.1 F1.2.2.2.1
      have e2 : mI M1 212 = mI M 212 := F1.2.2.2.2 212 (by omega)
      refine ⟨1, sI M1 0 0 0, sA (pre M1 0) 212 (drops (mI M 212) g), ?_, ?_, RR_w H F1 S1 (fun k hk => hs k (by omega)) (by rw [na_same (hs 4 (by omega))]; exact H.2.2.1.1) (Or.inl rfl)⟩
      · unfold f_X11_rest g_X11_rest
        simp (disch := omega) only [↓c_ck hL, ↓c_gI hL, ↓c_sh hL, ↓c_answer hL, ↓c_none hL, ↓c_no hL, ↓c_yes hL, ↓c_isHouse hL S, ↓c_isGang hL S, ↓q_within, ↓bd_s, ↓bv_s, ↓nmI_s, nI_1, ↓reduceIte, ite01z, not_true_eq_false, not_false_eq_true, if_true, if_false, z10, eq_true q, ↓e_hc S, ↓e_gc S, ↓e_wc S, ↓e_law S, ↓e_min S, ↓l_hs S.1, ↓l_gs S.1, ↓l_ws S.1, ↓l_ds S.1, ↓l_h S.1, ↓l_g S.1, ↓l_w S.1, ↓l_d S.1, ↓e_db S, ↓e_hat S, ↓e_hwo S, ↓e_hpi S, ↓e_hwe S, ↓e_hlo S, ↓e_hpe S, ↓e_hon S, ↓e_hsd S, ↓e_gho S, ↓e_gha S, ↓e_gpa S, ↓e_gat S, ↓e_ghd S, ↓e_gwa S, ↓e_gpc S, ↓e_wst S, ↓e_wch S, ↓lc_h S.1, ↓lc_g S.1, ↓lc_s S.1, eq_false q3, e1]
        rw [c_ck hL1, c_yes hL1, bd_s, zc1]
      · have D := pre_md hL1 0
        rw [e2] at D
        unfold f_X12_rest g_X12_rest
        rw [m_pre hL1]
        simp (disch := omega) only [↓q_isIn, j0, j1, u1, u3, u4, u5, u8, u9, u20, u60, u99, u100, u240, u9999, ite01z, not_true_eq_false, not_false_eq_true, if_true, if_false, z10, ↓q_isGang D, eq_true q, ↓m_r4 D.1, ↓m_r5 D.1, ↓m_r6 D.1, ↓m_r7 D.1, ↓m_r20 D.1, ↓m_r21 D.1, ↓m_r22 D.1, ↓m_r27 D.1, ↓m_r28 D.1, ↓m_r29 D.1, ↓m_r31 D.1, ↓m_r32 D.1, ↓m_r35 D.1, ↓m_ck D.1, ↓m_c0 D, ↓m_c1 D, ↓m_c2 D, ↓m_c3 D, ↓m_c4 D, ↓m_c D, i2, i3, i4, i5, i13, i21, i29, i37, i45, i53, i61, i69, i133, i137, i141, i145, i149, i153, i157, i161, i167, i4m, i6m, i8m, i9m, i18m, i60m, i256m, i450m, nI_add, ↓nmI_s, ↓bd_s, ↓bv_s, nI_1, ↓reduceIte, eq_true q2]
        rw [pre_sA e2 0, q_drops (M := pre M1 0) hL1.2.2.1 (by omega), bv_s, zc1, ← pre_sA e2 0]
    · have q3 := (neg_hand O hg).mp q2
      refine ⟨0, sI M 0 0 8, _, ?_, ?_, RR_st hR 8⟩
      · unfold f_X11_rest g_X11_rest
        simp (disch := omega) only [↓c_ck hL, ↓c_gI hL, ↓c_sh hL, ↓c_answer hL, ↓c_none hL, ↓c_no hL, ↓c_yes hL, ↓c_isHouse hL S, ↓c_isGang hL S, ↓q_within, ↓bd_s, ↓bv_s, ↓nmI_s, nI_1, ↓reduceIte, ite01z, not_true_eq_false, not_false_eq_true, if_true, if_false, z10, eq_true q, ↓e_hc S, ↓e_gc S, ↓e_wc S, ↓e_law S, ↓e_min S, ↓l_hs S.1, ↓l_gs S.1, ↓l_ws S.1, ↓l_ds S.1, ↓l_h S.1, ↓l_g S.1, ↓l_w S.1, ↓l_d S.1, ↓e_db S, ↓e_hat S, ↓e_hwo S, ↓e_hpi S, ↓e_hwe S, ↓e_hlo S, ↓e_hpe S, ↓e_hon S, ↓e_hsd S, ↓e_gho S, ↓e_gha S, ↓e_gpa S, ↓e_gat S, ↓e_ghd S, ↓e_gwa S, ↓e_gpc S, ↓e_wst S, ↓e_wch S, ↓lc_h S.1, ↓lc_g S.1, ↓lc_s S.1, eq_true q3, zc0]
      · have D := pre_md hL 8
        unfold f_X12_rest g_X12_rest
        rw [m_pre hL]
        simp (disch := omega) only [↓q_isIn, j0, j1, u1, u3, u4, u5, u8, u9, u20, u60, u99, u100, u240, u9999, ite01z, not_true_eq_false, not_false_eq_true, if_true, if_false, z10, eq_true q, ↓q_isHouse D, ↓q_isGang D, ↓m_refuse hL, ↓m_no hL, ↓m_r4 D.1, ↓m_r5 D.1, ↓m_r6 D.1, ↓m_r7 D.1, ↓m_r20 D.1, ↓m_r21 D.1, ↓m_r22 D.1, ↓m_r27 D.1, ↓m_r28 D.1, ↓m_r29 D.1, ↓m_r31 D.1, ↓m_r32 D.1, ↓m_r35 D.1, ↓m_ck D.1, ↓m_c0 D, ↓m_c1 D, ↓m_c2 D, ↓m_c3 D, ↓m_c4 D, ↓m_c D, i2, i3, i4, i5, i13, i21, i29, i37, i45, i53, i61, i69, i133, i137, i141, i145, i149, i153, i157, i161, i167, i4m, i6m, i8m, i9m, i18m, i60m, i256m, i450m, nI_add, ↓nmI_s, ↓bd_s, ↓bv_s, nI_1, ↓reduceIte, eq_false q2, zc0]
        rfl
  · refine ⟨0, sI M 0 0 2, _, ?_, ?_, RR_st hR 2⟩
    · unfold f_X11_rest g_X11_rest
      simp (disch := omega) only [↓c_ck hL, ↓c_gI hL, ↓c_sh hL, ↓c_answer hL, ↓c_none hL, ↓c_no hL, ↓c_yes hL, ↓c_isHouse hL S, ↓c_isGang hL S, ↓q_within, ↓bd_s, ↓bv_s, ↓nmI_s, nI_1, ↓reduceIte, ite01z, not_true_eq_false, not_false_eq_true, if_true, if_false, z10, eq_false q, zc0]
    · have D := pre_md hL 2
      unfold f_X12_rest g_X12_rest
      rw [m_pre hL]
      simp (disch := omega) only [↓q_isIn, j0, j1, u1, u3, u4, u5, u8, u9, u20, u60, u99, u100, u240, u9999, ite01z, not_true_eq_false, not_false_eq_true, if_true, if_false, z10, eq_false q, ↓q_isHouse D, ↓q_isGang D, ↓m_refuse hL, ↓m_no hL, ↓m_r4 D.1, ↓m_r5 D.1, ↓m_r6 D.1, ↓m_r7 D.1, ↓m_r20 D.1, ↓m_r21 D.1, ↓m_r22 D.1, ↓m_r27 D.1, ↓m_r28 D.1, ↓m_r29 D.1, ↓m_r31 D.1, ↓m_r32 D.1, ↓m_r35 D.1, ↓m_ck D.1, ↓m_c0 D, ↓m_c1 D, ↓m_c2 D, ↓m_c3 D, ↓m_c4 D, ↓m_c D, i2, i3, i4, i5, i13, i21, i29, i37, i45, i53, i61, i69, i133, i137, i141, i145, i149, i153, i157, i161, i167, i4m, i6m, i8m, i9m, i18m, i60m, i256m, i450m, nI_add, ↓nmI_s, ↓bd_s, ↓bv_s, nI_1, ↓reduceIte, zc0]
      rfl
theorem q_lifts {M : Mm} {f : Nat → Int32} (D : mdL M) (O : okC f) {g h : Nat} (hg : g < gN f) (hh : h < hN f) : f_X12_lifts (sA M 212 f) (some 207) (nI g) (nI h) = some (if canT f g h then (1, sA M 212 (takesUp f g h)) else (0, sA M 212 f)) := by
  have g4 := (ok_g O).2
  have h8 := (ok_h O).2
  unfold f_X12_lifts g_X12_lifts
  rw [f_ck D, q_isOn (md_f D f) (by omega), bd_s]
  by_cases q : isOn f h
  · rw [if_pos q, if_neg (by decide), f_ck D, q_taken (md_f D f) O hg (by omega), bd_s]
    by_cases q2 : free f g h
    · rw [if_pos q2, if_pos rfl, f_ck D, q_takesUp D (by omega) (by omega), bv_s, zc1, if_pos ⟨q, q2⟩]
    · rw [if_neg q2, if_neg (by decide), zc0, if_neg (fun z => q2 z.2)]
  · rw [if_neg q, if_pos rfl, zc0, if_neg (fun z => q z.1)]
theorem op_lift (x w : Int32) : opI (fun M => f_X11_lift M (some 0) x w) (fun M => f_X12_lift M (some 207) x w) := by
  intro M hR
  dsimp only
  obtain ⟨a, b, y, z, H⟩ := id hR
  have hL := H.1
  have S := H.2.1
  have O := S.2.2
  have g4 := (ok_g O).2
  have h8 := (ok_h O).2
  by_cases q : 0 ≤ x ∧ x ≤ mI M 212 1 - 1
  · by_cases q2 : 0 ≤ w ∧ w ≤ mI M 212 0 - 1
    · obtain ⟨g, hg, rfl⟩ := gIx O q
      obtain ⟨h, hh, rfl⟩ := hIx O q2
      by_cases q3 : canT (mI M 212) g h
      · obtain ⟨M1, e1, S1, F1⟩ := p_take S hg hh q3
        have ha := ll_a hL
        have hL1 := LL_same hL F1.1 F1.2.2.1 F1.2.2.2.1
        have e2 : mI M1 212 = mI M 212 := F1.2.2.2.2 212 (by omega)
        have hs : sS (mI M 212) (takesUp (mI M 212) g h) := sS_take (by omega)
        refine ⟨walk (mI M 212) g h, sI M1 0 0 0, sA (pre M1 0) 212 (takesUp (mI M 212) g h), ?_, ?_, RR_w H F1 S1 (fun k hk => hs k (by omega)) (by rw [na_same (hs 4 (by omega))]; exact H.2.2.1.1) (Or.inl rfl)⟩
        · unfold f_X11_lift
          simp (disch := omega) only [↓c_ck hL, ↓c_gI hL, ↓c_sh hL, ↓c_answer hL, ↓c_none hL, ↓c_no hL, ↓c_yes hL, ↓c_isHouse hL S, ↓c_isGang hL S, ↓q_within, ↓bd_s, ↓bv_s, ↓nmI_s, nI_1, ↓reduceIte, ite01z, not_true_eq_false, not_false_eq_true, if_true, if_false, z10, eq_true q, eq_true q2, ↓lc_s S.1, p_canTake S, eq_true q3, e1]
          rw [c_ck hL1, c_answer hL1, bd_s]
        · have D := pre_md hL1 0
          rw [e2] at D
          unfold f_X12_lift
          rw [m_pre hL1]
          simp (disch := omega) only [↓q_isIn, j0, j1, u1, u3, u4, u5, u8, u9, u20, u60, u99, u100, u240, u9999, ite01z, not_true_eq_false, not_false_eq_true, if_true, if_false, z10, ↓q_isHouse D, ↓q_isGang D, eq_true q, eq_true q2, ↓m_r4 D.1, ↓m_r5 D.1, ↓m_r6 D.1, ↓m_r7 D.1, ↓m_r20 D.1, ↓m_r21 D.1, ↓m_r22 D.1, ↓m_r27 D.1, ↓m_r28 D.1, ↓m_r29 D.1, ↓m_r31 D.1, ↓m_r32 D.1, ↓m_r35 D.1, ↓m_ck D.1, ↓m_c0 D, ↓m_c1 D, ↓m_c2 D, ↓m_c3 D, ↓m_c4 D, ↓m_c D, i2, i3, i4, i5, i13, i21, i29, i37, i45, i53, i61, i69, i133, i137, i141, i145, i149, i153, i157, i161, i167, i4m, i6m, i8m, i9m, i18m, i60m, i256m, i450m, nI_add, ↓nmI_s, ↓bd_s, ↓bv_s, nI_1, ↓reduceIte]
          have D1 : mdL (pre M1 0) := hL1.2.2.1
          rw [pre_sA e2 0, q_lifts (M := pre M1 0) D1 O hg hh, if_pos q3, bd_s, if_neg (by decide), f_r20 D1]
          rw [f_c D1 (by omega), take_3, ← pre_sA e2 0]
      · refine ⟨-1, sI M 0 0 9, _, ?_, ?_, RR_st hR 9⟩
        · unfold f_X11_lift
          simp (disch := omega) only [↓c_ck hL, ↓c_gI hL, ↓c_sh hL, ↓c_answer hL, ↓c_none hL, ↓c_no hL, ↓c_yes hL, ↓c_isHouse hL S, ↓c_isGang hL S, ↓q_within, ↓bd_s, ↓bv_s, ↓nmI_s, nI_1, ↓reduceIte, ite01z, not_true_eq_false, not_false_eq_true, if_true, if_false, z10, eq_true q, eq_true q2, ↓lc_s S.1, p_canTake S, eq_false q3]
        · have D := pre_md hL 9
          unfold f_X12_lift
          rw [m_pre hL]
          simp (disch := omega) only [↓q_isIn, j0, j1, u1, u3, u4, u5, u8, u9, u20, u60, u99, u100, u240, u9999, ite01z, not_true_eq_false, not_false_eq_true, if_true, if_false, z10, ↓q_isHouse D, ↓q_isGang D, eq_true q, eq_true q2, ↓m_r4 D.1, ↓m_r5 D.1, ↓m_r6 D.1, ↓m_r7 D.1, ↓m_r20 D.1, ↓m_r21 D.1, ↓m_r22 D.1, ↓m_r27 D.1, ↓m_r28 D.1, ↓m_r29 D.1, ↓m_r31 D.1, ↓m_r32 D.1, ↓m_r35 D.1, ↓m_ck D.1, ↓m_c0 D, ↓m_c1 D, ↓m_c2 D, ↓m_c3 D, ↓m_c4 D, ↓m_c D, i2, i3, i4, i5, i13, i21, i29, i37, i45, i53, i61, i69, i133, i137, i141, i145, i149, i153, i157, i161, i167, i4m, i6m, i8m, i9m, i18m, i60m, i256m, i450m, nI_add, ↓nmI_s, ↓bd_s, ↓bv_s, nI_1, ↓reduceIte]
          have D1 : mdL (pre M 9) := hL.2.2.1
          rw [pre_sA rfl 9, q_lifts (M := pre M 9) D1 O hg hh, if_neg q3, bd_s, if_pos rfl, f_ck D1, ← pre_sA rfl 9, m_refuse hL, bd_s]
          rfl
    · refine ⟨-1, sI M 0 0 2, _, ?_, ?_, RR_st hR 2⟩
      · unfold f_X11_lift
        simp (disch := omega) only [↓c_ck hL, ↓c_gI hL, ↓c_sh hL, ↓c_answer hL, ↓c_none hL, ↓c_no hL, ↓c_yes hL, ↓c_isHouse hL S, ↓c_isGang hL S, ↓q_within, ↓bd_s, ↓bv_s, ↓nmI_s, nI_1, ↓reduceIte, ite01z, not_true_eq_false, not_false_eq_true, if_true, if_false, z10, eq_true q, eq_false q2, f_X11_lift_16]
      · have D := pre_md hL 2
        unfold f_X12_lift
        rw [m_pre hL]
        simp (disch := omega) only [↓q_isIn, j0, j1, u1, u3, u4, u5, u8, u9, u20, u60, u99, u100, u240, u9999, ite01z, not_true_eq_false, not_false_eq_true, if_true, if_false, z10, eq_true q, eq_false q2, ↓q_isHouse D, ↓q_isGang D, ↓m_refuse hL, ↓m_no hL, ↓m_r4 D.1, ↓m_r5 D.1, ↓m_r6 D.1, ↓m_r7 D.1, ↓m_r20 D.1, ↓m_r21 D.1, ↓m_r22 D.1, ↓m_r27 D.1, ↓m_r28 D.1, ↓m_r29 D.1, ↓m_r31 D.1, ↓m_r32 D.1, ↓m_r35 D.1, ↓m_ck D.1, ↓m_c0 D, ↓m_c1 D, ↓m_c2 D, ↓m_c3 D, ↓m_c4 D, ↓m_c D, i2, i3, i4, i5, i13, i21, i29, i37, i45, i53, i61, i69, i133, i137, i141, i145, i149, i153, i157, i161, i167, i4m, i6m, i8m, i9m, i18m, i60m, i256m, i450m, nI_add, ↓nmI_s, ↓bd_s, ↓bv_s, nI_1, ↓reduceIte, f_X12_lift_26]
        rfl
  · refine ⟨-1, sI M 0 0 2, _, ?_, ?_, RR_st hR 2⟩
    · unfold f_X11_lift
      simp (disch := omega) only [↓c_ck hL, ↓c_gI hL, ↓c_sh hL, ↓c_answer hL, ↓c_none hL, ↓c_no hL, ↓c_yes hL, ↓c_isHouse hL S, ↓c_isGang hL S, ↓q_within, ↓bd_s, ↓bv_s, ↓nmI_s, nI_1, ↓reduceIte, ite01z, not_true_eq_false, not_false_eq_true, if_true, if_false, z10, eq_false q, f_X11_lift_16]
    · have D := pre_md hL 2
      unfold f_X12_lift
      rw [m_pre hL]
      simp (disch := omega) only [↓q_isIn, j0, j1, u1, u3, u4, u5, u8, u9, u20, u60, u99, u100, u240, u9999, ite01z, not_true_eq_false, not_false_eq_true, if_true, if_false, z10, eq_false q, ↓q_isHouse D, ↓q_isGang D, ↓m_refuse hL, ↓m_no hL, ↓m_r4 D.1, ↓m_r5 D.1, ↓m_r6 D.1, ↓m_r7 D.1, ↓m_r20 D.1, ↓m_r21 D.1, ↓m_r22 D.1, ↓m_r27 D.1, ↓m_r28 D.1, ↓m_r29 D.1, ↓m_r31 D.1, ↓m_r32 D.1, ↓m_r35 D.1, ↓m_ck D.1, ↓m_c0 D, ↓m_c1 D, ↓m_c2 D, ↓m_c3 D, ↓m_c4 D, ↓m_c D, i2, i3, i4, i5, i13, i21, i29, i37, i45, i53, i61, i69, i133, i137, i141, i145, i149, i153, i157, i161, i167, i4m, i6m, i8m, i9m, i18m, i60m, i256m, i450m, nI_add, ↓nmI_s, ↓bd_s, ↓bv_s, nI_1, ↓reduceIte, f_X12_lift_26]
      rfl
