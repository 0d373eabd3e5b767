theorem rng {x : Int32} {n : Nat} (hn : n < 1000000) (h : 0 ≤ x ∧ x ≤ nI n) : ∃ k, k ≤ n ∧ x = nI k := by
  obtain ⟨k, hk, rfl⟩ := nI_of (Int32.not_lt.mpr h.1)
  have := h.2
  rw [nI_leI' hk (by omega)] at this
  exact ⟨k, this, rfl⟩
theorem op_owed : opI (fun M => f_X11_owed M (some 0)) (fun M => f_X12_owed M (some 207)) := by
  (refine opI_st fun M a b y z H => ?_; have hL := H.1; have S := H.2.1; have O := S.2.2; have h8 := (ok_h O).2; have g4 := (ok_g O).2; have w6 := (ok_w O).2; have L := S.1)
  obtain ⟨A, hA⟩ : ∃ A, am (fun _ => true) (due (mI M 212)) (fun x y => decide (x < y)) 0 = A := ⟨_, rfl⟩
  have hi := am_inv (fun _ => true) (due (mI M 212)) (fun x y => decide (x < y)) 0
  have hc : f_X11_owed M (some 0) = if (A (hN (mI M 212))).1 = -1 then some (-1, sI M 0 0 8) else some ((A (hN (mI M 212))).1, sI M 0 0 0) := by
    rw [← hA]
    refine lup0 (fun f k => f_X11_owed_6 f M (some 0) (am (fun _ => true) (due (mI M 212)) (fun x y => decide (x < y)) 0 k).1 (am (fun _ => true) (due (mI M 212)) (fun x y => decide (x < y)) 0 k).2 (nI k)) (hN (mI M 212)) _ (by omega) (fun f k hk => ?_) (fun f => ?_)
    · rw [f_X11_owed_6]
      simp (disch := omega) only [↓c_ck hL, ↓c_gI hL, ↓c_sh hL, ↓c_answer hL, ↓c_none hL, ↓c_no hL, ↓c_yes hL, ↓c_isHouse hL S, ↓c_isGang hL S, ↓q_within, ↓bd_s, ↓bv_s, ↓nmI_s, nI_1, ↓reduceIte, ite01z, not_true_eq_false, not_false_eq_true, if_true, if_false, z10, ↓e_hc S, ↓e_gc S, ↓e_wc S, ↓e_law S, ↓e_min S, ↓l_hs S.1, ↓l_gs S.1, ↓l_ws S.1, ↓l_ds S.1, ↓l_h S.1, ↓l_g S.1, ↓l_w S.1, ↓l_d S.1, ↓e_db S, ↓e_hat S, ↓e_hwo S, ↓e_hpi S, ↓e_hwe S, ↓e_hlo S, ↓e_hpe S, ↓e_hon S, ↓e_hsd S, ↓e_gho S, ↓e_gha S, ↓e_gpa S, ↓e_gat S, ↓e_ghd S, ↓e_gwa S, ↓e_gpc S, ↓e_wst S, ↓e_wch S, ↓lc_h S.1, ↓lc_g S.1, ↓lc_s S.1, eq_false (hc_in O hk), p_due S]
      by_cases q : (am (fun _ => true) (due (mI M 212)) (fun x y => decide (x < y)) 0 k).1 = -1
      · rw [if_pos q, am_take rfl (Or.inl q), f_X11_owed_38, f_X11_owed_43, nI_1]
      · rw [if_neg q]
        by_cases q2 : due (mI M 212) k ≤ (am (fun _ => true) (due (mI M 212)) (fun x y => decide (x < y)) 0 k).2
        · rw [if_pos q2, am_keep rfl q (by rw [decide_eq_true_eq]; exact Int32.not_lt.mpr q2), f_X11_owed_43, nI_1]
        · rw [if_neg q2, am_take rfl (Or.inr (by rw [decide_eq_true_eq]; exact Int32.not_le.mp q2)), f_X11_owed_38, f_X11_owed_43, nI_1]
    · rw [f_X11_owed_6]
      simp (disch := omega) only [↓c_ck hL, ↓c_gI hL, ↓c_sh hL, ↓c_answer hL, ↓c_none hL, ↓c_no hL, ↓c_yes hL, ↓c_isHouse hL S, ↓c_isGang hL S, ↓q_within, ↓bd_s, ↓bv_s, ↓nmI_s, nI_1, ↓reduceIte, ite01z, not_true_eq_false, not_false_eq_true, if_true, if_false, z10, ↓e_hc S, ↓e_gc S, ↓e_wc S, ↓e_law S, ↓e_min S, ↓l_hs S.1, ↓l_gs S.1, ↓l_ws S.1, ↓l_ds S.1, ↓l_h S.1, ↓l_g S.1, ↓l_w S.1, ↓l_d S.1, ↓e_db S, ↓e_hat S, ↓e_hwo S, ↓e_hpi S, ↓e_hwe S, ↓e_hlo S, ↓e_hpe S, ↓e_hon S, ↓e_hsd S, ↓e_gho S, ↓e_gha S, ↓e_gpa S, ↓e_gat S, ↓e_ghd S, ↓e_gwa S, ↓e_gpc S, ↓e_wst S, ↓e_wch S, ↓lc_h S.1, ↓lc_g S.1, ↓lc_s S.1, eq_true (hc_out O)]
  have hm : ∀ s, f_X12_owed (sI M 0 0 s) (some 207) = if 0 ≤ (A (hN (mI M 212))).1 then some ((A (hN (mI M 212))).1, pre M s) else some (-1, sI (sI (sI M 0 0 s) 207 1 0) 207 0 8) := fun s => by
    have D := pre_md hL s
    unfold f_X12_owed
    rw [m_pre hL, ← hA]
    refine lup0 (fun f k => f_X12_owed_14 f (pre M s) (some 207) (am (fun _ => true) (due (mI M 212)) (fun x y => decide (x < y)) 0 k).1 (nI k)) (hN (mI M 212)) _ (by omega) (fun f k hk => ?_) (fun f => ?_)
    · rw [f_X12_owed_14]
      simp (disch := omega) only [↓m_r4 D.1, ↓m_r5 D.1, ↓m_r6 D.1, ↓m_r7 D.1, ↓m_r20 D.1, ↓m_r21 D.1, ↓m_r22 D.1, ↓m_r27 D.1, ↓m_r28 D.1, ↓m_r29 D.1, ↓m_r31 D.1, ↓m_r32 D.1, ↓m_r35 D.1, ↓m_ck D.1, ↓m_c0 D, ↓m_c1 D, ↓m_c2 D, ↓m_c3 D, ↓m_c4 D, ↓m_c D, i2, i3, i4, i5, i13, i21, i29, i37, i45, i53, i61, i69, i133, i137, i141, i145, i149, i153, i157, i161, i167, i4m, i6m, i8m, i9m, i18m, i60m, i256m, i450m, nI_add, ↓nmI_s, ↓bd_s, ↓bv_s, nI_1, ↓reduceIte, eq_false (hc_in O hk), if_false, q_due D O]
      rcases hi k with ⟨q, -⟩ | ⟨b, hb, q, q2, -⟩
      · rw [am_take rfl (Or.inl q), q, if_pos (by decide), f_X12_owed_41, f_X12_owed_43, nI_1]
      · have q3 : ¬ (am (fun _ => true) (due (mI M 212)) (fun x y => decide (x < y)) 0 k).1 = -1 := by rw [q]; exact neg1_ne (by omega)
        rw [q, if_neg (nI_pos (by omega)), q_due D O (by omega), bd_s]
        by_cases q4 : due (mI M 212) k ≤ due (mI M 212) b
        · rw [if_pos q4, am_keep rfl q3 (by rw [q2, decide_eq_true_eq]; exact Int32.not_lt.mpr q4), q, f_X12_owed_43, nI_1]
        · rw [if_neg q4, am_take rfl (Or.inr (by rw [q2, decide_eq_true_eq]; exact Int32.not_le.mp q4)), f_X12_owed_41, f_X12_owed_43, nI_1]
    · rw [f_X12_owed_14]
      simp (disch := omega) only [↓m_r4 D.1, ↓m_r5 D.1, ↓m_r6 D.1, ↓m_r7 D.1, ↓m_r20 D.1, ↓m_r21 D.1, ↓m_r22 D.1, ↓m_r27 D.1, ↓m_r28 D.1, ↓m_r29 D.1, ↓m_r31 D.1, ↓m_r32 D.1, ↓m_r35 D.1, ↓m_ck D.1, ↓m_c0 D, ↓m_c1 D, ↓m_c2 D, ↓m_c3 D, ↓m_c4 D, ↓m_c D, i2, i3, i4, i5, i13, i21, i29, i37, i45, i53, i61, i69, i133, i137, i141, i145, i149, i153, i157, i161, i167, i4m, i6m, i8m, i9m, i18m, i60m, i256m, i450m, nI_add, ↓nmI_s, ↓bd_s, ↓bv_s, nI_1, ↓reduceIte, eq_true (hc_out O), if_true, ↓q_isHouse D, ↓q_isGang D, ↓m_refuse hL, ↓m_no hL]
  rcases hi (hN (mI M 212)) with ⟨q, -⟩ | ⟨b, hb, q, -, -⟩
  · rw [hA] at q
    refine ⟨-1, 8, by rw [hc, if_pos q], ?_⟩
    rw [hm, if_neg (by rw [q]; decide)]
    rfl
  · rw [hA] at q
    refine ⟨nI b, 0, by rw [hc, if_neg (by rw [q]; exact neg1_ne (by omega)), q], ?_⟩
    rw [hm, if_pos (by rw [q]; exact nI_pos' (by omega)), q]
    rfl
theorem op_worst : opI (fun M => f_X11_worstWind M (some 0)) (fun M => f_X12_worstWind M (some 207)) := by
  (refine opI_st fun M a b y z H => ?_; have hL := H.1; have S := H.2.1; have O := S.2.2; have h8 := (ok_h O).2; have g4 := (ok_g O).2; have w6 := (ok_w O).2; have L := S.1)
  obtain ⟨v, hv⟩ : ∃ v : Nat → Int32, v = fun w => wof (mI M 212) (st (falls (mI M 212) (mI M 212 (161 + w))) (hN (mI M 212))) := ⟨_, rfl⟩
  have ev : ∀ w, wof (mI M 212) (st (falls (mI M 212) (mI M 212 (161 + w))) (hN (mI M 212))) = v w := fun w => by rw [hv]
  have vp : ∀ w, -1 < v w := fun w => by
    rw [← ev]
    obtain ⟨e1, e2⟩ := wof_nI O (st (falls (mI M 212) (mI M 212 (161 + w))) (hN (mI M 212)))
    rw [e1, Int32.lt_iff_toInt_lt, nI_toInt (by omega)]
    have : (-1 : Int32).toInt = -1 := by decide
    omega
  have hi := am_inv (fun _ => true) v (fun x y => decide (x < y)) (-1)
  have hc : f_X11_worstWind M (some 0) = if (am (fun _ => true) v (fun x y => decide (x < y)) (-1) (wN (mI M 212))).1 = -1 then some (-1, sI M 0 0 8) else some ((am (fun _ => true) v (fun x y => decide (x < y)) (-1) (wN (mI M 212))).1, sI M 0 0 0) := by
    refine lup0 (fun f k => f_X11_worstWind_6 f M (some 0) (am (fun _ => true) v (fun x y => decide (x < y)) (-1) k).1 (am (fun _ => true) v (fun x y => decide (x < y)) (-1) k).2 (nI k)) (wN (mI M 212)) _ (by omega) (fun f k hk => ?_) (fun f => ?_)
    · rw [f_X11_worstWind_6]
      simp (disch := omega) only [↓c_ck hL, ↓c_gI hL, ↓c_sh hL, ↓c_answer hL, ↓c_none hL, ↓c_no hL, ↓c_yes hL, ↓c_isHouse hL S, ↓c_isGang hL S, ↓q_within, ↓bd_s, ↓bv_s, ↓nmI_s, nI_1, ↓reduceIte, ite01z, not_true_eq_false, not_false_eq_true, if_true, if_false, z10, ↓e_hc S, ↓e_gc S, ↓e_wc S, ↓e_law S, ↓e_min S, ↓l_hs S.1, ↓l_gs S.1, ↓l_ws S.1, ↓l_ds S.1, ↓l_h S.1, ↓l_g S.1, ↓l_w S.1, ↓l_d S.1, ↓e_db S, ↓e_hat S, ↓e_hwo S, ↓e_hpi S, ↓e_hwe S, ↓e_hlo S, ↓e_hpe S, ↓e_hon S, ↓e_hsd S, ↓e_gho S, ↓e_gha S, ↓e_gpa S, ↓e_gat S, ↓e_ghd S, ↓e_gwa S, ↓e_gpc S, ↓e_wst S, ↓e_wch S, ↓lc_h S.1, ↓lc_g S.1, ↓lc_s S.1, eq_false (wc_in O hk), p_falling S, p_worth S, ev]
      by_cases q2 : v k ≤ (am (fun _ => true) v (fun x y => decide (x < y)) (-1) k).2
      · have q : ¬ (am (fun _ => true) v (fun x y => decide (x < y)) (-1) k).1 = -1 := fun z => by
          rcases hi k with ⟨-, q3⟩ | ⟨b, hb, q3, -, -⟩
          · rw [q3] at q2
            exact Int32.not_le.mpr (vp k) q2
          · rw [q3] at z
            exact neg1_ne (by omega) z
        rw [if_pos q2, am_keep rfl q (by rw [decide_eq_true_eq]; exact Int32.not_lt.mpr q2), f_X11_worstWind_56, nI_1]
      · rw [if_neg q2, am_take rfl (Or.inr (by rw [decide_eq_true_eq]; exact Int32.not_le.mp q2)), f_X11_worstWind_56, nI_1]
    · rw [f_X11_worstWind_6]
      simp (disch := omega) only [↓c_ck hL, ↓c_gI hL, ↓c_sh hL, ↓c_answer hL, ↓c_none hL, ↓c_no hL, ↓c_yes hL, ↓c_isHouse hL S, ↓c_isGang hL S, ↓q_within, ↓bd_s, ↓bv_s, ↓nmI_s, nI_1, ↓reduceIte, ite01z, not_true_eq_false, not_false_eq_true, if_true, if_false, z10, ↓e_hc S, ↓e_gc S, ↓e_wc S, ↓e_law S, ↓e_min S, ↓l_hs S.1, ↓l_gs S.1, ↓l_ws S.1, ↓l_ds S.1, ↓l_h S.1, ↓l_g S.1, ↓l_w S.1, ↓l_d S.1, ↓e_db S, ↓e_hat S, ↓e_hwo S, ↓e_hpi S, ↓e_hwe S, ↓e_hlo S, ↓e_hpe S, ↓e_hon S, ↓e_hsd S, ↓e_gho S, ↓e_gha S, ↓e_gpa S, ↓e_gat S, ↓e_ghd S, ↓e_gwa S, ↓e_gpc S, ↓e_wst S, ↓e_wch S, ↓lc_h S.1, ↓lc_g S.1, ↓lc_s S.1, eq_true (wc_out O)]
  have hm : ∀ s, f_X12_worstWind (sI M 0 0 s) (some 207) = if 0 ≤ (am (fun _ => true) v (fun x y => decide (x < y)) (-1) (wN (mI M 212))).1 then some ((am (fun _ => true) v (fun x y => decide (x < y)) (-1) (wN (mI M 212))).1, pre M s) else some (-1, sI (sI (sI M 0 0 s) 207 1 0) 207 0 8) := fun s => by
    have D := pre_md hL s
    unfold f_X12_worstWind
    rw [m_pre hL]
    refine lup0 (fun f k => f_X12_worstWind_14 f (pre M s) (some 207) (am (fun _ => true) v (fun x y => decide (x < y)) (-1) k).1 (nI k)) (wN (mI M 212)) _ (by omega) (fun f k hk => ?_) (fun f => ?_)
    · rw [f_X12_worstWind_14]
      simp (disch := omega) only [↓m_r4 D.1, ↓m_r5 D.1, ↓m_r6 D.1, ↓m_r7 D.1, ↓m_r20 D.1, ↓m_r21 D.1, ↓m_r22 D.1, ↓m_r27 D.1, ↓m_r28 D.1, ↓m_r29 D.1, ↓m_r31 D.1, ↓m_r32 D.1, ↓m_r35 D.1, ↓m_ck D.1, ↓m_c0 D, ↓m_c1 D, ↓m_c2 D, ↓m_c3 D, ↓m_c4 D, ↓m_c D, i2, i3, i4, i5, i13, i21, i29, i37, i45, i53, i61, i69, i133, i137, i141, i145, i149, i153, i157, i161, i167, i4m, i6m, i8m, i9m, i18m, i60m, i256m, i450m, nI_add, ↓nmI_s, ↓bd_s, ↓bv_s, nI_1, ↓reduceIte, eq_false (wc_in O hk), if_false, q_fallSet D O, q_worthIn D O, ev]
      rcases hi k with ⟨q, -⟩ | ⟨b, hb, q, q2, -⟩
      · rw [am_take rfl (Or.inl q), q, if_pos (by decide), f_X12_worstWind_67, f_X12_worstWind_69, nI_1]
      · have q3 : ¬ (am (fun _ => true) v (fun x y => decide (x < y)) (-1) k).1 = -1 := by rw [q]; exact neg1_ne (by omega)
        rw [q, if_neg (nI_pos (by omega))]
        simp (disch := omega) only [↓m_r4 D.1, ↓m_r5 D.1, ↓m_r6 D.1, ↓m_r7 D.1, ↓m_r20 D.1, ↓m_r21 D.1, ↓m_r22 D.1, ↓m_r27 D.1, ↓m_r28 D.1, ↓m_r29 D.1, ↓m_r31 D.1, ↓m_r32 D.1, ↓m_r35 D.1, ↓m_ck D.1, ↓m_c0 D, ↓m_c1 D, ↓m_c2 D, ↓m_c3 D, ↓m_c4 D, ↓m_c D, i2, i3, i4, i5, i13, i21, i29, i37, i45, i53, i61, i69, i133, i137, i141, i145, i149, i153, i157, i161, i167, i4m, i6m, i8m, i9m, i18m, i60m, i256m, i450m, nI_add, ↓nmI_s, ↓bd_s, ↓bv_s, nI_1, ↓reduceIte, q_fallSet D O, q_worthIn D O, ev]
        by_cases q4 : v k ≤ v b
        · rw [if_pos q4, am_keep rfl q3 (by rw [q2, decide_eq_true_eq]; exact Int32.not_lt.mpr q4), q, f_X12_worstWind_69, nI_1]
        · rw [if_neg q4, am_take rfl (Or.inr (by rw [q2, decide_eq_true_eq]; exact Int32.not_le.mp q4)), f_X12_worstWind_67, f_X12_worstWind_69, nI_1]
    · rw [f_X12_worstWind_14]
      simp (disch := omega) only [↓m_r4 D.1, ↓m_r5 D.1, ↓m_r6 D.1, ↓m_r7 D.1, ↓m_r20 D.1, ↓m_r21 D.1, ↓m_r22 D.1, ↓m_r27 D.1, ↓m_r28 D.1, ↓m_r29 D.1, ↓m_r31 D.1, ↓m_r32 D.1, ↓m_r35 D.1, ↓m_ck D.1, ↓m_c0 D, ↓m_c1 D, ↓m_c2 D, ↓m_c3 D, ↓m_c4 D, ↓m_c D, i2, i3, i4, i5, i13, i21, i29, i37, i45, i53, i61, i69, i133, i137, i141, i145, i149, i153, i157, i161, i167, i4m, i6m, i8m, i9m, i18m, i60m, i256m, i450m, nI_add, ↓nmI_s, ↓bd_s, ↓bv_s, nI_1, ↓reduceIte, eq_true (wc_out O), if_true, ↓q_isHouse D, ↓q_isGang D, ↓m_refuse hL, ↓m_no hL]
  rcases hi (wN (mI M 212)) with ⟨q, -⟩ | ⟨b, hb, q, -, -⟩
  · refine ⟨-1, 8, by rw [hc, if_pos q], ?_⟩
    rw [hm, if_neg (by rw [q]; decide)]
    rfl
  · refine ⟨nI b, 0, by rw [hc, if_neg (by rw [q]; exact neg1_ne (by omega)), q], ?_⟩
    rw [hm, if_pos (by rw [q]; exact nI_pos' (by omega)), q]
    rfl
theorem op_near (x : Int32) : opI (fun M => f_X11_neighbour M (some 0) x) (fun M => f_X12_neighbour M (some 207) x) := by
  (refine opI_st fun M a b y z H => ?_; have hL := H.1; have S := H.2.1; have O := S.2.2; have h8 := (ok_h O).2; have g4 := (ok_g O).2; have w6 := (ok_w O).2; have L := S.1)
  by_cases q0 : 0 ≤ x ∧ x ≤ mI M 212 0 - 1
  · obtain ⟨h, hh, rfl⟩ := hIx O q0
    obtain ⟨v, hv⟩ : ∃ v : Nat → Int32, v = fun i => abI (mI M 212 (5 + i) - mI M 212 (5 + h)) := ⟨_, rfl⟩
    have ev : ∀ i, abI (mI M 212 (5 + i) - mI M 212 (5 + h)) = v i := fun w => by rw [hv]
    obtain ⟨p, hp⟩ : ∃ p : Nat → Bool, p = fun i => decide (i ≠ h ∧ mI M 212 (61 + i) = 1) := ⟨_, rfl⟩
    have pt : ∀ i, p i = true ↔ i ≠ h ∧ mI M 212 (61 + i) = 1 := fun i => by rw [hp]; exact decide_eq_true_iff
    have hi := am_inv p v (fun x y => decide (y < x)) 0
    have hc : f_X11_neighbour M (some 0) (nI h) = if (am p v (fun x y => decide (y < x)) 0 (hN (mI M 212))).1 = -1 then some (-1, sI M 0 0 8) else some ((am p v (fun x y => decide (y < x)) 0 (hN (mI M 212))).1, sI M 0 0 0) := by
      unfold f_X11_neighbour
      simp (disch := omega) only [↓c_ck hL, ↓c_gI hL, ↓c_sh hL, ↓c_answer hL, ↓c_none hL, ↓c_no hL, ↓c_yes hL, ↓c_isHouse hL S, ↓c_isGang hL S, ↓q_within, ↓bd_s, ↓bv_s, ↓nmI_s, nI_1, ↓reduceIte, ite01z, not_true_eq_false, not_false_eq_true, if_true, if_false, z10, eq_true q0]
      refine lup0 (fun f k => f_X11_neighbour_21 f M (some 0) (nI h) (am p v (fun x y => decide (y < x)) 0 k).1 (am p v (fun x y => decide (y < x)) 0 k).2 (nI k)) (hN (mI M 212)) _ (by omega) (fun f k hk => ?_) (fun f => ?_)
      · rw [f_X11_neighbour_21]
        have e0 : (nI k = nI h) = (k = h) := propext (nI_eq' (by omega) (by omega))
        simp (disch := omega) only [↓c_ck hL, ↓c_gI hL, ↓c_sh hL, ↓c_answer hL, ↓c_none hL, ↓c_no hL, ↓c_yes hL, ↓c_isHouse hL S, ↓c_isGang hL S, ↓q_within, ↓bd_s, ↓bv_s, ↓nmI_s, nI_1, ↓reduceIte, ite01z, not_true_eq_false, not_false_eq_true, if_true, if_false, z10, ↓e_hc S, ↓e_gc S, ↓e_wc S, ↓e_law S, ↓e_min S, ↓l_hs S.1, ↓l_gs S.1, ↓l_ws S.1, ↓l_ds S.1, ↓l_h S.1, ↓l_g S.1, ↓l_w S.1, ↓l_d S.1, ↓e_db S, ↓e_hat S, ↓e_hwo S, ↓e_hpi S, ↓e_hwe S, ↓e_hlo S, ↓e_hpe S, ↓e_hon S, ↓e_hsd S, ↓e_gho S, ↓e_gha S, ↓e_gpa S, ↓e_gat S, ↓e_ghd S, ↓e_gwa S, ↓e_gpc S, ↓e_wst S, ↓e_wch S, ↓lc_h S.1, ↓lc_g S.1, ↓lc_s S.1, eq_false (hc_in O hk), ev, e0]
        by_cases q1 : k = h
        · rw [if_pos q1, am_skip (fun z => ((pt k).mp z).1 q1), f_X11_neighbour_103, nI_1]
        · rw [if_neg q1]
          by_cases q2 : mI M 212 (61 + k) = 1
          · have pk := (pt k).mpr ⟨q1, q2⟩
            rw [if_neg (by rw [q2]; decide)]
            by_cases q : (am p v (fun x y => decide (y < x)) 0 k).1 = -1
            · rw [if_pos q, am_take pk (Or.inl q), f_X11_neighbour_97, f_X11_neighbour_103, nI_1]
            · rw [if_neg q]
              by_cases q3 : (am p v (fun x y => decide (y < x)) 0 k).2 ≤ v k
              · rw [if_pos q3, am_keep pk q (by rw [decide_eq_true_eq]; exact Int32.not_lt.mpr q3), f_X11_neighbour_103, nI_1]
              · rw [if_neg q3, am_take pk (Or.inr (by rw [decide_eq_true_eq]; exact Int32.not_le.mp q3)), f_X11_neighbour_97, f_X11_neighbour_103, nI_1]
          · rw [if_pos ((sd_ne S hk).mpr q2), am_skip (fun z => q2 ((pt k).mp z).2), f_X11_neighbour_103, nI_1]
      · rw [f_X11_neighbour_21]
        simp (disch := omega) only [↓c_ck hL, ↓c_gI hL, ↓c_sh hL, ↓c_answer hL, ↓c_none hL, ↓c_no hL, ↓c_yes hL, ↓c_isHouse hL S, ↓c_isGang hL S, ↓q_within, ↓bd_s, ↓bv_s, ↓nmI_s, nI_1, ↓reduceIte, ite01z, not_true_eq_false, not_false_eq_true, if_true, if_false, z10, ↓e_hc S, ↓e_gc S, ↓e_wc S, ↓e_law S, ↓e_min S, ↓l_hs S.1, ↓l_gs S.1, ↓l_ws S.1, ↓l_ds S.1, ↓l_h S.1, ↓l_g S.1, ↓l_w S.1, ↓l_d S.1, ↓e_db S, ↓e_hat S, ↓e_hwo S, ↓e_hpi S, ↓e_hwe S, ↓e_hlo S, ↓e_hpe S, ↓e_hon S, ↓e_hsd S, ↓e_gho S, ↓e_gha S, ↓e_gpa S, ↓e_gat S, ↓e_ghd S, ↓e_gwa S, ↓e_gpc S, ↓e_wst S, ↓e_wch S, ↓lc_h S.1, ↓lc_g S.1, ↓lc_s S.1, eq_true (hc_out O)]
    have hm : ∀ s, f_X12_neighbour (sI M 0 0 s) (some 207) (nI h) = if 0 ≤ (am p v (fun x y => decide (y < x)) 0 (hN (mI M 212))).1 then some ((am p v (fun x y => decide (y < x)) 0 (hN (mI M 212))).1, pre M s) else some (-1, sI (sI (sI M 0 0 s) 207 1 0) 207 0 8) := fun s => by
      have D := pre_md hL s
      unfold f_X12_neighbour
      rw [m_pre hL]
      simp (disch := omega) only [↓q_isIn, j0, j1, u1, u3, u4, u5, u8, u9, u20, u60, u99, u100, u240, u9999, ite01z, not_true_eq_false, not_false_eq_true, if_true, if_false, z10, eq_true q0, ↓q_isHouse D, ↓q_isGang D, ↓m_refuse hL, ↓m_no hL, ↓m_r4 D.1, ↓m_r5 D.1, ↓m_r6 D.1, ↓m_r7 D.1, ↓m_r20 D.1, ↓m_r21 D.1, ↓m_r22 D.1, ↓m_r27 D.1, ↓m_r28 D.1, ↓m_r29 D.1, ↓m_r31 D.1, ↓m_r32 D.1, ↓m_r35 D.1, ↓m_ck D.1, ↓m_c0 D, ↓m_c1 D, ↓m_c2 D, ↓m_c3 D, ↓m_c4 D, ↓m_c D, i2, i3, i4, i5, i13, i21, i29, i37, i45, i53, i61, i69, i133, i137, i141, i145, i149, i153, i157, i161, i167, i4m, i6m, i8m, i9m, i18m, i60m, i256m, i450m, nI_add, ↓nmI_s, ↓bd_s, ↓bv_s, nI_1, ↓reduceIte]
      refine lup0 (fun f k => f_X12_neighbour_28 f (pre M s) (some 207) (nI h) (am p v (fun x y => decide (y < x)) 0 k).1 (nI k)) (hN (mI M 212)) _ (by omega) (fun f k hk => ?_) (fun f => ?_)
      · rw [f_X12_neighbour_28]
        have e0 : (nI k = nI h) = (k = h) := propext (nI_eq' (by omega) (by omega))
        simp (disch := omega) only [↓q_isIn, j0, j1, u1, u3, u4, u5, u8, u9, u20, u60, u99, u100, u240, u9999, ite01z, not_true_eq_false, not_false_eq_true, if_true, if_false, z10, ↓m_r4 D.1, ↓m_r5 D.1, ↓m_r6 D.1, ↓m_r7 D.1, ↓m_r20 D.1, ↓m_r21 D.1, ↓m_r22 D.1, ↓m_r27 D.1, ↓m_r28 D.1, ↓m_r29 D.1, ↓m_r31 D.1, ↓m_r32 D.1, ↓m_r35 D.1, ↓m_ck D.1, ↓m_c0 D, ↓m_c1 D, ↓m_c2 D, ↓m_c3 D, ↓m_c4 D, ↓m_c D, i2, i3, i4, i5, i13, i21, i29, i37, i45, i53, i61, i69, i133, i137, i141, i145, i149, i153, i157, i161, i167, i4m, i6m, i8m, i9m, i18m, i60m, i256m, i450m, nI_add, ↓nmI_s, ↓bd_s, ↓bv_s, nI_1, ↓reduceIte, eq_false (hc_in O hk), if_false, q_stands D, ev, e0]
        by_cases q1 : k = h
        · rw [if_pos q1, am_skip (fun z => ((pt k).mp z).1 q1), f_X12_neighbour_100, nI_1]
        · rw [if_neg q1]
          by_cases q2 : mI M 212 (61 + k) = 1
          · have pk := (pt k).mpr ⟨q1, q2⟩
            rw [if_neg (fun z => z q2)]
            rcases hi k with ⟨q, -⟩ | ⟨b, hb, q, q3, -⟩
            · rw [am_take pk (Or.inl q), q, if_pos (by decide), f_X12_neighbour_98, f_X12_neighbour_100, nI_1]
            · have q4 : ¬ (am p v (fun x y => decide (y < x)) 0 k).1 = -1 := by rw [q]; exact neg1_ne (by omega)
              rw [q, if_neg (nI_pos (by omega))]
              simp (disch := omega) only [↓m_r4 D.1, ↓m_r5 D.1, ↓m_r6 D.1, ↓m_r7 D.1, ↓m_r20 D.1, ↓m_r21 D.1, ↓m_r22 D.1, ↓m_r27 D.1, ↓m_r28 D.1, ↓m_r29 D.1, ↓m_r31 D.1, ↓m_r32 D.1, ↓m_r35 D.1, ↓m_ck D.1, ↓m_c0 D, ↓m_c1 D, ↓m_c2 D, ↓m_c3 D, ↓m_c4 D, ↓m_c D, i2, i3, i4, i5, i13, i21, i29, i37, i45, i53, i61, i69, i133, i137, i141, i145, i149, i153, i157, i161, i167, i4m, i6m, i8m, i9m, i18m, i60m, i256m, i450m, nI_add, ↓nmI_s, ↓bd_s, ↓bv_s, nI_1, ↓reduceIte, ev]
              by_cases q5 : v b ≤ v k
              · rw [if_pos q5, am_keep pk q4 (by rw [q3, decide_eq_true_eq]; exact Int32.not_lt.mpr q5), q, f_X12_neighbour_100, nI_1]
              · rw [if_neg q5, am_take pk (Or.inr (by rw [q3, decide_eq_true_eq]; exact Int32.not_le.mp q5)), f_X12_neighbour_98, f_X12_neighbour_100, nI_1]
          · rw [if_pos q2, am_skip (fun z => q2 ((pt k).mp z).2), f_X12_neighbour_100, nI_1]
      · rw [f_X12_neighbour_28]
        simp (disch := omega) only [↓m_r4 D.1, ↓m_r5 D.1, ↓m_r6 D.1, ↓m_r7 D.1, ↓m_r20 D.1, ↓m_r21 D.1, ↓m_r22 D.1, ↓m_r27 D.1, ↓m_r28 D.1, ↓m_r29 D.1, ↓m_r31 D.1, ↓m_r32 D.1, ↓m_r35 D.1, ↓m_ck D.1, ↓m_c0 D, ↓m_c1 D, ↓m_c2 D, ↓m_c3 D, ↓m_c4 D, ↓m_c D, i2, i3, i4, i5, i13, i21, i29, i37, i45, i53, i61, i69, i133, i137, i141, i145, i149, i153, i157, i161, i167, i4m, i6m, i8m, i9m, i18m, i60m, i256m, i450m, nI_add, ↓nmI_s, ↓bd_s, ↓bv_s, nI_1, ↓reduceIte, eq_true (hc_out O), if_true, ↓q_isHouse D, ↓q_isGang D, ↓m_refuse hL, ↓m_no hL]
    rcases hi (hN (mI M 212)) with ⟨q, -⟩ | ⟨b, hb, q, -, -⟩
    · refine ⟨-1, 8, by rw [hc, if_pos q], ?_⟩
      rw [hm, if_neg (by rw [q]; decide)]
      rfl
    · refine ⟨nI b, 0, by rw [hc, if_neg (by rw [q]; exact neg1_ne (by omega)), q], ?_⟩
      rw [hm, if_pos (by rw [q]; exact nI_pos' (by omega)), q]
      rfl
  · refine ⟨-1, 2, ?_, ?_⟩
    · unfold f_X11_neighbour
      simp (disch := omega) only [↓c_ck hL, ↓c_gI hL, ↓c_sh hL, ↓c_answer hL, ↓c_none hL, ↓c_no hL, ↓c_yes hL, ↓c_isHouse hL S, ↓c_isGang hL S, ↓q_within, ↓bd_s, ↓bv_s, ↓nmI_s, nI_1, ↓reduceIte, ite01z, not_true_eq_false, not_false_eq_true, if_true, if_false, z10, eq_false q0]
    · have D := pre_md hL 2
      unfold f_X12_neighbour
      rw [m_pre hL]
      simp (disch := omega) only [↓q_isIn, j0, j1, u1, u3, u4, u5, u8, u9, u20, u60, u99, u100, u240, u9999, ite01z, not_true_eq_false, not_false_eq_true, if_true, if_false, z10, eq_false q0, ↓q_isHouse D, ↓q_isGang D, ↓m_refuse hL, ↓m_no hL, ↓m_r4 D.1, ↓m_r5 D.1, ↓m_r6 D.1, ↓m_r7 D.1, ↓m_r20 D.1, ↓m_r21 D.1, ↓m_r22 D.1, ↓m_r27 D.1, ↓m_r28 D.1, ↓m_r29 D.1, ↓m_r31 D.1, ↓m_r32 D.1, ↓m_r35 D.1, ↓m_ck D.1, ↓m_c0 D, ↓m_c1 D, ↓m_c2 D, ↓m_c3 D, ↓m_c4 D, ↓m_c D, i2, i3, i4, i5, i13, i21, i29, i37, i45, i53, i61, i69, i133, i137, i141, i145, i149, i153, i157, i161, i167, i4m, i6m, i8m, i9m, i18m, i60m, i256m, i450m, nI_add, ↓nmI_s, ↓bd_s, ↓bv_s, nI_1, ↓reduceIte]
      rfl
