theorem par (y : Int32) : (y.toBitVec.toNat : Int) % 2 = y.toInt % 2 := by
  have h : y.toInt = y.toBitVec.toInt := rfl
  rw [h, BitVec.toInt_eq_toNat_cond]
  by_cases q : 2 * y.toBitVec.toNat < 2 ^ 32
  · rw [if_pos q]
  · rw [if_neg q]
    omega
theorem hasB_tn (s : Int32) {k : Nat} (hk : k < 8) : hasB s k ↔ s.toBitVec.toNat.testBit k = true := by
  unfold hasB
  rw [pk_and _ 1 (by decide), show (1 : Int32) = nI 1 from rfl, nI_eq' (by omega) (by omega), Nat.testBit_eq_decide_div_mod_eq, decide_eq_true_eq]
  have h1 := par (s >>> (nI k &&& 31))
  rw [pk_shr s _ k (shs (by omega)), Int.shiftRight_eq_div_pow] at h1
  have h2 : s.toInt = if 2 * s.toBitVec.toNat < 2 ^ 32 then (s.toBitVec.toNat : Int) else (s.toBitVec.toNat : Int) - ((2 ^ 32 : Nat) : Int) := BitVec.toInt_eq_toNat_cond s.toBitVec
  have h3 : s.toInt = (s.toBitVec.toNat : Int) ∨ s.toInt = (s.toBitVec.toNat : Int) - 4294967296 := by
    rw [h2]
    by_cases q : 2 * s.toBitVec.toNat < 2 ^ 32
    · rw [if_pos q]; exact Or.inl rfl
    · rw [if_neg q]; exact Or.inr rfl
  generalize s.toInt = t at *
  generalize s.toBitVec.toNat = u at *
  generalize (s >>> (nI k &&& 31)).toBitVec.toNat = w at *
  rcases (show k = 0 ∨ k = 1 ∨ k = 2 ∨ k = 3 ∨ k = 4 ∨ k = 5 ∨ k = 6 ∨ k = 7 by omega) with h | h | h | h | h | h | h | h <;> subst h <;> simp only [Nat.reducePow] at h1 ⊢ <;> omega
theorem hasB_not (s : Int32) {k : Nat} (hk : k < 8) : hasB (s ^^^ (-1)) k ↔ ¬ hasB s k := by
  rw [hasB_tn _ hk, hasB_tn _ hk, Int32.toBitVec_xor, BitVec.toNat_xor]
  show (s.toBitVec.toNat ^^^ 4294967295).testBit k = true ↔ _
  rw [not_bit (by omega)]
  simp
theorem wst1 {c : Nat → Int32} (O : okC c) : wst c 1 = wof c (st (fun h => c (61 + h) = 1) (hN c)) := by
  have h8 := (ok_h O).2
  refine sm_cong fun h hh => ?_
  have e := hasB_st (fun h => c (61 + h) = 1) (n := hN c) (k := h) (by omega) (by omega)
  by_cases q : c (61 + h) = 1
  · rw [if_pos q, if_pos rfl, if_pos (e.mpr ⟨hh, q⟩)]
  · rw [if_neg q, if_neg (by decide), if_neg (fun z => q (e.mp z).2)]
theorem wst0 {c : Nat → Int32} (O : okC c) : wst c 0 = wof c (st (fun h => c (61 + h) = 1) (hN c) ^^^ (-1)) := by
  have h8 := (ok_h O).2
  refine sm_cong fun h hh => ?_
  have e := hasB_st (fun h => c (61 + h) = 1) (n := hN c) (k := h) (by omega) (by omega)
  by_cases q : c (61 + h) = 1
  · rw [if_pos q, if_neg (by decide), if_neg (fun z => (hasB_not _ (by omega)).mp z (e.mpr ⟨hh, q⟩))]
  · rw [if_neg q, if_pos rfl, if_pos ((hasB_not _ (by omega)).mpr (fun z => q (e.mp z).2))]
theorem off_eq {c : Nat → Int32} (O : okC c) : st (fun h => c (61 + h) = 1) (hN c) &&& (st (isOn c) (hN c) ^^^ (-1)) = st (fun h => c (61 + h) = 1 ∧ c (53 + h) = 0) (hN c) := by
  have h8 := (ok_h O).2
  rw [st_nI _ (by omega), st_nI _ (by omega), st_nI _ (by omega), nI_not, nI_and]
  have l1 := stN_lt (fun h => c (61 + h) = 1) (hN c)
  have l2 := stN_lt (fun h => c (61 + h) = 1 ∧ c (53 + h) = 0) (hN c)
  have p2 : 2 ^ hN c ≤ 2 ^ 8 := Nat.pow_le_pow_right (by omega) h8
  refine congrArg nI (bit_ext (n := 8) (Nat.lt_of_le_of_lt Nat.and_le_left (by omega)) (by omega) fun k hk => ?_)
  rw [andn_bit (by omega), stN_bit, stN_bit, stN_bit]
  by_cases q : k < hN c
  · have p7 := (O.2.2.2.2.2.1 k q).2.2.2.2.2.2.1
    have e : (0 < c (53 + k)) ↔ ¬ c (53 + k) = 0 := by
      have := p7.2.2
      rw [p7.1, show (0 : Int32) = nI 0 from rfl, nI_ltI' (by omega) (by omega), nI_eq' (by omega) (by omega)]
      omega
    by_cases q1 : c (61 + k) = 1
    · by_cases q2 : c (53 + k) = 0 <;> simp [q, q1, q2, isOn, e]
    · simp [q, q1]
  · simp [q]
theorem q_many83 {M : Mm} {c : Nat → Int32} (D : md M c) (O : okC c) (w : Int32) : f_X12_many_83 fu M (some 207) w 0 0 = some (st (fun h => c (61 + h) = 1 ∧ (w = 5 ∨ c (53 + h) = 0)) (hN c), M) := by
  have h8 := (ok_h O).2
  refine lup0 (fun f k => f_X12_many_83 f M (some 207) w (st (fun h => c (61 + h) = 1 ∧ (w = 5 ∨ c (53 + h) = 0)) k) (nI k)) (hN c) _ (by omega) (fun f k hk => ?_) (fun f => ?_)
  · rw [f_X12_many_83]
    simp (disch := omega) only [↓q_isIn, j0, j1, u1, u3, u4, u5, u8, u9, u20, u60, u99, u100, u240, u9999, ite01z, not_true_eq_false, not_false_eq_true, if_true, if_false, z10, ↓m_r4 D.1, ↓m_r5 D.1, ↓m_r6 D.1, ↓m_r7 D.1, ↓m_r20 D.1, ↓m_r21 D.1, ↓m_r22 D.1, ↓m_r27 D.1, ↓m_r28 D.1, ↓m_r29 D.1, ↓m_r31 D.1, ↓m_r32 D.1, ↓m_r35 D.1, ↓m_ck D.1, ↓m_c0 D, ↓m_c1 D, ↓m_c2 D, ↓m_c3 D, ↓m_c4 D, ↓m_c D, i2, i3, i4, i5, i13, i21, i29, i37, i45, i53, i61, i69, i133, i137, i141, i145, i149, i153, i157, i161, i167, i4m, i6m, i8m, i9m, i18m, i60m, i256m, i450m, nI_add, ↓nmI_s, ↓bd_s, ↓bv_s, nI_1, ↓reduceIte, eq_false (hc_in O hk), if_false, q_stands D]
    by_cases q1 : c (61 + k) = 1
    · rw [if_neg (fun z => z q1)]
      by_cases q2 : w = 5
      · rw [if_pos q2, st_y ⟨q1, Or.inl q2⟩, f_X12_many_119, f_X12_many_126, nmI_s, nI_1]
      · rw [if_neg q2]
        by_cases q3 : c (53 + k) = 0
        · rw [if_pos q3, st_y ⟨q1, Or.inr q3⟩, f_X12_many_119, f_X12_many_126, nmI_s, nI_1]
        · rw [if_neg q3, st_n (by rintro ⟨-, z | z⟩; exact q2 z; exact q3 z), f_X12_many_125, f_X12_many_126, nmI_s, or0, nI_1]
    · rw [if_pos q1, st_n (fun z => q1 z.1), f_X12_many_125, f_X12_many_126, nmI_s, or0, nI_1]
  · rw [f_X12_many_83]
    simp (disch := omega) only [↓m_r4 D.1, ↓m_r5 D.1, ↓m_r6 D.1, ↓m_r7 D.1, ↓m_r20 D.1, ↓m_r21 D.1, ↓m_r22 D.1, ↓m_r27 D.1, ↓m_r28 D.1, ↓m_r29 D.1, ↓m_r31 D.1, ↓m_r32 D.1, ↓m_r35 D.1, ↓m_ck D.1, ↓m_c0 D, ↓m_c1 D, ↓m_c2 D, ↓m_c3 D, ↓m_c4 D, ↓m_c D, i2, i3, i4, i5, i13, i21, i29, i37, i45, i53, i61, i69, i133, i137, i141, i145, i149, i153, i157, i161, i167, i4m, i6m, i8m, i9m, i18m, i60m, i256m, i450m, nI_add, ↓nmI_s, ↓bd_s, ↓bv_s, nI_1, ↓reduceIte, eq_true (hc_out O), if_true]
theorem op_many (w : Int32) : opI (fun M => f_X11_many M (some 0) w) (fun M => f_X12_many M (some 207) w) := by
  (refine opI_st fun M a b y z H => ?_; have hL := H.1; have S := H.2.1; have O := S.2.2; have h8 := (ok_h O).2; have g4 := (ok_g O).2; have w6 := (ok_w O).2; have L := S.1)
  by_cases q : 0 ≤ w ∧ w ≤ 9
  · obtain ⟨j, hj, rfl⟩ := rng (n := 9) (by decide) q
    rcases (show j = 0 ∨ j = 1 ∨ j = 2 ∨ j = 3 ∨ j = 4 ∨ j = 5 ∨ j = 6 ∨ j = 7 ∨ j = 8 ∨ j = 9 by omega) with rfl | rfl | rfl | rfl | rfl | rfl | rfl | rfl | rfl | rfl
    · refine ⟨mI M 212 0, 0, ?_, ?_⟩
      · unfold f_X11_many
        simp (disch := omega) only [↓c_ck hL, ↓c_gI hL, ↓c_sh hL, ↓c_answer hL, ↓c_none hL, ↓c_no hL, ↓c_yes hL, ↓c_isHouse hL S, ↓c_isGang hL S, ↓q_within, ↓bd_s, ↓bv_s, ↓nmI_s, nI_1, ↓reduceIte, ite01z, not_true_eq_false, not_false_eq_true, if_true, if_false, z10, ↓e_hc S, ↓e_gc S, ↓e_wc S, ↓e_law S, ↓e_min S, ↓l_hs S.1, ↓l_gs S.1, ↓l_ws S.1, ↓l_ds S.1, ↓l_h S.1, ↓l_g S.1, ↓l_w S.1, ↓l_d S.1, ↓e_db S, ↓e_hat S, ↓e_hwo S, ↓e_hpi S, ↓e_hwe S, ↓e_hlo S, ↓e_hpe S, ↓e_hon S, ↓e_hsd S, ↓e_gho S, ↓e_gha S, ↓e_gpa S, ↓e_gat S, ↓e_ghd S, ↓e_gwa S, ↓e_gpc S, ↓e_wst S, ↓e_wch S, ↓lc_h S.1, ↓lc_g S.1, ↓lc_s S.1, eq_true (show nI 0 = 0 by decide), eq_false (show ¬ nI 0 = 1 by decide), eq_false (show ¬ nI 0 = 2 by decide), eq_false (show ¬ nI 0 = 3 by decide), eq_false (show ¬ nI 0 = 4 by decide), eq_false (show ¬ nI 0 = 5 by decide), eq_false (show ¬ nI 0 = 6 by decide), eq_false (show ¬ nI 0 = 7 by decide), eq_false (show ¬ nI 0 = 8 by decide), eq_false (show ¬ nI 0 = 9 by decide), p_standing S, p_off S, p_worth S, p_allCh S]
      · have D := pre_md hL 0
        unfold f_X12_many
        rw [m_pre hL]
        simp (disch := omega) only [↓q_isIn, j0, j1, u1, u3, u4, u5, u8, u9, u20, u60, u99, u100, u240, u9999, ite01z, not_true_eq_false, not_false_eq_true, if_true, if_false, z10, eq_true q, eq_false (show ¬ (5 : Int32) ≤ nI 0 by decide), eq_false (show ¬ nI 0 = 7 by decide), eq_false (show ¬ nI 0 = 8 by decide), eq_false (show ¬ nI 0 = 9 by decide), ↓m_r4 D.1, ↓m_r5 D.1, ↓m_r6 D.1, ↓m_r7 D.1, ↓m_r20 D.1, ↓m_r21 D.1, ↓m_r22 D.1, ↓m_r27 D.1, ↓m_r28 D.1, ↓m_r29 D.1, ↓m_r31 D.1, ↓m_r32 D.1, ↓m_r35 D.1, ↓m_ck D.1, ↓m_c0 D, ↓m_c1 D, ↓m_c2 D, ↓m_c3 D, ↓m_c4 D, ↓m_c D, i2, i3, i4, i5, i13, i21, i29, i37, i45, i53, i61, i69, i133, i137, i141, i145, i149, i153, i157, i161, i167, i4m, i6m, i8m, i9m, i18m, i60m, i256m, i450m, nI_add, ↓nmI_s, ↓bd_s, ↓bv_s, nI_1, ↓reduceIte, f_X12_many_52, f_X12_many_64, q_worthOf D O, q_allCh D O, q_many83 D O]
        rfl
    · refine ⟨mI M 212 1, 0, ?_, ?_⟩
      · unfold f_X11_many
        simp (disch := omega) only [↓c_ck hL, ↓c_gI hL, ↓c_sh hL, ↓c_answer hL, ↓c_none hL, ↓c_no hL, ↓c_yes hL, ↓c_isHouse hL S, ↓c_isGang hL S, ↓q_within, ↓bd_s, ↓bv_s, ↓nmI_s, nI_1, ↓reduceIte, ite01z, not_true_eq_false, not_false_eq_true, if_true, if_false, z10, ↓e_hc S, ↓e_gc S, ↓e_wc S, ↓e_law S, ↓e_min S, ↓l_hs S.1, ↓l_gs S.1, ↓l_ws S.1, ↓l_ds S.1, ↓l_h S.1, ↓l_g S.1, ↓l_w S.1, ↓l_d S.1, ↓e_db S, ↓e_hat S, ↓e_hwo S, ↓e_hpi S, ↓e_hwe S, ↓e_hlo S, ↓e_hpe S, ↓e_hon S, ↓e_hsd S, ↓e_gho S, ↓e_gha S, ↓e_gpa S, ↓e_gat S, ↓e_ghd S, ↓e_gwa S, ↓e_gpc S, ↓e_wst S, ↓e_wch S, ↓lc_h S.1, ↓lc_g S.1, ↓lc_s S.1, eq_false (show ¬ nI 1 = 0 by decide), eq_true (show nI 1 = 1 by decide), eq_false (show ¬ nI 1 = 2 by decide), eq_false (show ¬ nI 1 = 3 by decide), eq_false (show ¬ nI 1 = 4 by decide), eq_false (show ¬ nI 1 = 5 by decide), eq_false (show ¬ nI 1 = 6 by decide), eq_false (show ¬ nI 1 = 7 by decide), eq_false (show ¬ nI 1 = 8 by decide), eq_false (show ¬ nI 1 = 9 by decide), p_standing S, p_off S, p_worth S, p_allCh S]
      · have D := pre_md hL 0
        unfold f_X12_many
        rw [m_pre hL]
        simp (disch := omega) only [↓q_isIn, j0, j1, u1, u3, u4, u5, u8, u9, u20, u60, u99, u100, u240, u9999, ite01z, not_true_eq_false, not_false_eq_true, if_true, if_false, z10, eq_true q, eq_false (show ¬ (5 : Int32) ≤ nI 1 by decide), eq_false (show ¬ nI 1 = 7 by decide), eq_false (show ¬ nI 1 = 8 by decide), eq_false (show ¬ nI 1 = 9 by decide), ↓m_r4 D.1, ↓m_r5 D.1, ↓m_r6 D.1, ↓m_r7 D.1, ↓m_r20 D.1, ↓m_r21 D.1, ↓m_r22 D.1, ↓m_r27 D.1, ↓m_r28 D.1, ↓m_r29 D.1, ↓m_r31 D.1, ↓m_r32 D.1, ↓m_r35 D.1, ↓m_ck D.1, ↓m_c0 D, ↓m_c1 D, ↓m_c2 D, ↓m_c3 D, ↓m_c4 D, ↓m_c D, i2, i3, i4, i5, i13, i21, i29, i37, i45, i53, i61, i69, i133, i137, i141, i145, i149, i153, i157, i161, i167, i4m, i6m, i8m, i9m, i18m, i60m, i256m, i450m, nI_add, ↓nmI_s, ↓bd_s, ↓bv_s, nI_1, ↓reduceIte, f_X12_many_52, f_X12_many_64, q_worthOf D O, q_allCh D O, q_many83 D O]
        rfl
    · refine ⟨mI M 212 2, 0, ?_, ?_⟩
      · unfold f_X11_many
        simp (disch := omega) only [↓c_ck hL, ↓c_gI hL, ↓c_sh hL, ↓c_answer hL, ↓c_none hL, ↓c_no hL, ↓c_yes hL, ↓c_isHouse hL S, ↓c_isGang hL S, ↓q_within, ↓bd_s, ↓bv_s, ↓nmI_s, nI_1, ↓reduceIte, ite01z, not_true_eq_false, not_false_eq_true, if_true, if_false, z10, ↓e_hc S, ↓e_gc S, ↓e_wc S, ↓e_law S, ↓e_min S, ↓l_hs S.1, ↓l_gs S.1, ↓l_ws S.1, ↓l_ds S.1, ↓l_h S.1, ↓l_g S.1, ↓l_w S.1, ↓l_d S.1, ↓e_db S, ↓e_hat S, ↓e_hwo S, ↓e_hpi S, ↓e_hwe S, ↓e_hlo S, ↓e_hpe S, ↓e_hon S, ↓e_hsd S, ↓e_gho S, ↓e_gha S, ↓e_gpa S, ↓e_gat S, ↓e_ghd S, ↓e_gwa S, ↓e_gpc S, ↓e_wst S, ↓e_wch S, ↓lc_h S.1, ↓lc_g S.1, ↓lc_s S.1, eq_false (show ¬ nI 2 = 0 by decide), eq_false (show ¬ nI 2 = 1 by decide), eq_true (show nI 2 = 2 by decide), eq_false (show ¬ nI 2 = 3 by decide), eq_false (show ¬ nI 2 = 4 by decide), eq_false (show ¬ nI 2 = 5 by decide), eq_false (show ¬ nI 2 = 6 by decide), eq_false (show ¬ nI 2 = 7 by decide), eq_false (show ¬ nI 2 = 8 by decide), eq_false (show ¬ nI 2 = 9 by decide), p_standing S, p_off S, p_worth S, p_allCh S]
      · have D := pre_md hL 0
        unfold f_X12_many
        rw [m_pre hL]
        simp (disch := omega) only [↓q_isIn, j0, j1, u1, u3, u4, u5, u8, u9, u20, u60, u99, u100, u240, u9999, ite01z, not_true_eq_false, not_false_eq_true, if_true, if_false, z10, eq_true q, eq_false (show ¬ (5 : Int32) ≤ nI 2 by decide), eq_false (show ¬ nI 2 = 7 by decide), eq_false (show ¬ nI 2 = 8 by decide), eq_false (show ¬ nI 2 = 9 by decide), ↓m_r4 D.1, ↓m_r5 D.1, ↓m_r6 D.1, ↓m_r7 D.1, ↓m_r20 D.1, ↓m_r21 D.1, ↓m_r22 D.1, ↓m_r27 D.1, ↓m_r28 D.1, ↓m_r29 D.1, ↓m_r31 D.1, ↓m_r32 D.1, ↓m_r35 D.1, ↓m_ck D.1, ↓m_c0 D, ↓m_c1 D, ↓m_c2 D, ↓m_c3 D, ↓m_c4 D, ↓m_c D, i2, i3, i4, i5, i13, i21, i29, i37, i45, i53, i61, i69, i133, i137, i141, i145, i149, i153, i157, i161, i167, i4m, i6m, i8m, i9m, i18m, i60m, i256m, i450m, nI_add, ↓nmI_s, ↓bd_s, ↓bv_s, nI_1, ↓reduceIte, f_X12_many_52, f_X12_many_64, q_worthOf D O, q_allCh D O, q_many83 D O]
        rfl
    · refine ⟨mI M 212 3, 0, ?_, ?_⟩
      · unfold f_X11_many
        simp (disch := omega) only [↓c_ck hL, ↓c_gI hL, ↓c_sh hL, ↓c_answer hL, ↓c_none hL, ↓c_no hL, ↓c_yes hL, ↓c_isHouse hL S, ↓c_isGang hL S, ↓q_within, ↓bd_s, ↓bv_s, ↓nmI_s, nI_1, ↓reduceIte, ite01z, not_true_eq_false, not_false_eq_true, if_true, if_false, z10, ↓e_hc S, ↓e_gc S, ↓e_wc S, ↓e_law S, ↓e_min S, ↓l_hs S.1, ↓l_gs S.1, ↓l_ws S.1, ↓l_ds S.1, ↓l_h S.1, ↓l_g S.1, ↓l_w S.1, ↓l_d S.1, ↓e_db S, ↓e_hat S, ↓e_hwo S, ↓e_hpi S, ↓e_hwe S, ↓e_hlo S, ↓e_hpe S, ↓e_hon S, ↓e_hsd S, ↓e_gho S, ↓e_gha S, ↓e_gpa S, ↓e_gat S, ↓e_ghd S, ↓e_gwa S, ↓e_gpc S, ↓e_wst S, ↓e_wch S, ↓lc_h S.1, ↓lc_g S.1, ↓lc_s S.1, eq_false (show ¬ nI 3 = 0 by decide), eq_false (show ¬ nI 3 = 1 by decide), eq_false (show ¬ nI 3 = 2 by decide), eq_true (show nI 3 = 3 by decide), eq_false (show ¬ nI 3 = 4 by decide), eq_false (show ¬ nI 3 = 5 by decide), eq_false (show ¬ nI 3 = 6 by decide), eq_false (show ¬ nI 3 = 7 by decide), eq_false (show ¬ nI 3 = 8 by decide), eq_false (show ¬ nI 3 = 9 by decide), p_standing S, p_off S, p_worth S, p_allCh S]
      · have D := pre_md hL 0
        unfold f_X12_many
        rw [m_pre hL]
        simp (disch := omega) only [↓q_isIn, j0, j1, u1, u3, u4, u5, u8, u9, u20, u60, u99, u100, u240, u9999, ite01z, not_true_eq_false, not_false_eq_true, if_true, if_false, z10, eq_true q, eq_false (show ¬ (5 : Int32) ≤ nI 3 by decide), eq_false (show ¬ nI 3 = 7 by decide), eq_false (show ¬ nI 3 = 8 by decide), eq_false (show ¬ nI 3 = 9 by decide), ↓m_r4 D.1, ↓m_r5 D.1, ↓m_r6 D.1, ↓m_r7 D.1, ↓m_r20 D.1, ↓m_r21 D.1, ↓m_r22 D.1, ↓m_r27 D.1, ↓m_r28 D.1, ↓m_r29 D.1, ↓m_r31 D.1, ↓m_r32 D.1, ↓m_r35 D.1, ↓m_ck D.1, ↓m_c0 D, ↓m_c1 D, ↓m_c2 D, ↓m_c3 D, ↓m_c4 D, ↓m_c D, i2, i3, i4, i5, i13, i21, i29, i37, i45, i53, i61, i69, i133, i137, i141, i145, i149, i153, i157, i161, i167, i4m, i6m, i8m, i9m, i18m, i60m, i256m, i450m, nI_add, ↓nmI_s, ↓bd_s, ↓bv_s, nI_1, ↓reduceIte, f_X12_many_52, f_X12_many_64, q_worthOf D O, q_allCh D O, q_many83 D O]
        rfl
    · refine ⟨mI M 212 4, 0, ?_, ?_⟩
      · unfold f_X11_many
        simp (disch := omega) only [↓c_ck hL, ↓c_gI hL, ↓c_sh hL, ↓c_answer hL, ↓c_none hL, ↓c_no hL, ↓c_yes hL, ↓c_isHouse hL S, ↓c_isGang hL S, ↓q_within, ↓bd_s, ↓bv_s, ↓nmI_s, nI_1, ↓reduceIte, ite01z, not_true_eq_false, not_false_eq_true, if_true, if_false, z10, ↓e_hc S, ↓e_gc S, ↓e_wc S, ↓e_law S, ↓e_min S, ↓l_hs S.1, ↓l_gs S.1, ↓l_ws S.1, ↓l_ds S.1, ↓l_h S.1, ↓l_g S.1, ↓l_w S.1, ↓l_d S.1, ↓e_db S, ↓e_hat S, ↓e_hwo S, ↓e_hpi S, ↓e_hwe S, ↓e_hlo S, ↓e_hpe S, ↓e_hon S, ↓e_hsd S, ↓e_gho S, ↓e_gha S, ↓e_gpa S, ↓e_gat S, ↓e_ghd S, ↓e_gwa S, ↓e_gpc S, ↓e_wst S, ↓e_wch S, ↓lc_h S.1, ↓lc_g S.1, ↓lc_s S.1, eq_false (show ¬ nI 4 = 0 by decide), eq_false (show ¬ nI 4 = 1 by decide), eq_false (show ¬ nI 4 = 2 by decide), eq_false (show ¬ nI 4 = 3 by decide), eq_true (show nI 4 = 4 by decide), eq_false (show ¬ nI 4 = 5 by decide), eq_false (show ¬ nI 4 = 6 by decide), eq_false (show ¬ nI 4 = 7 by decide), eq_false (show ¬ nI 4 = 8 by decide), eq_false (show ¬ nI 4 = 9 by decide), p_standing S, p_off S, p_worth S, p_allCh S]
      · have D := pre_md hL 0
        unfold f_X12_many
        rw [m_pre hL]
        simp (disch := omega) only [↓q_isIn, j0, j1, u1, u3, u4, u5, u8, u9, u20, u60, u99, u100, u240, u9999, ite01z, not_true_eq_false, not_false_eq_true, if_true, if_false, z10, eq_true q, eq_false (show ¬ (5 : Int32) ≤ nI 4 by decide), eq_false (show ¬ nI 4 = 7 by decide), eq_false (show ¬ nI 4 = 8 by decide), eq_false (show ¬ nI 4 = 9 by decide), ↓m_r4 D.1, ↓m_r5 D.1, ↓m_r6 D.1, ↓m_r7 D.1, ↓m_r20 D.1, ↓m_r21 D.1, ↓m_r22 D.1, ↓m_r27 D.1, ↓m_r28 D.1, ↓m_r29 D.1, ↓m_r31 D.1, ↓m_r32 D.1, ↓m_r35 D.1, ↓m_ck D.1, ↓m_c0 D, ↓m_c1 D, ↓m_c2 D, ↓m_c3 D, ↓m_c4 D, ↓m_c D, i2, i3, i4, i5, i13, i21, i29, i37, i45, i53, i61, i69, i133, i137, i141, i145, i149, i153, i157, i161, i167, i4m, i6m, i8m, i9m, i18m, i60m, i256m, i450m, nI_add, ↓nmI_s, ↓bd_s, ↓bv_s, nI_1, ↓reduceIte, f_X12_many_52, f_X12_many_64, q_worthOf D O, q_allCh D O, q_many83 D O]
        rfl
    · refine ⟨st (fun h => mI M 212 (61 + h) = 1) (hN (mI M 212)), 0, ?_, ?_⟩
      · unfold f_X11_many
        simp (disch := omega) only [↓c_ck hL, ↓c_gI hL, ↓c_sh hL, ↓c_answer hL, ↓c_none hL, ↓c_no hL, ↓c_yes hL, ↓c_isHouse hL S, ↓c_isGang hL S, ↓q_within, ↓bd_s, ↓bv_s, ↓nmI_s, nI_1, ↓reduceIte, ite01z, not_true_eq_false, not_false_eq_true, if_true, if_false, z10, ↓e_hc S, ↓e_gc S, ↓e_wc S, ↓e_law S, ↓e_min S, ↓l_hs S.1, ↓l_gs S.1, ↓l_ws S.1, ↓l_ds S.1, ↓l_h S.1, ↓l_g S.1, ↓l_w S.1, ↓l_d S.1, ↓e_db S, ↓e_hat S, ↓e_hwo S, ↓e_hpi S, ↓e_hwe S, ↓e_hlo S, ↓e_hpe S, ↓e_hon S, ↓e_hsd S, ↓e_gho S, ↓e_gha S, ↓e_gpa S, ↓e_gat S, ↓e_ghd S, ↓e_gwa S, ↓e_gpc S, ↓e_wst S, ↓e_wch S, ↓lc_h S.1, ↓lc_g S.1, ↓lc_s S.1, eq_false (show ¬ nI 5 = 0 by decide), eq_false (show ¬ nI 5 = 1 by decide), eq_false (show ¬ nI 5 = 2 by decide), eq_false (show ¬ nI 5 = 3 by decide), eq_false (show ¬ nI 5 = 4 by decide), eq_true (show nI 5 = 5 by decide), eq_false (show ¬ nI 5 = 6 by decide), eq_false (show ¬ nI 5 = 7 by decide), eq_false (show ¬ nI 5 = 8 by decide), eq_false (show ¬ nI 5 = 9 by decide), p_standing S, p_off S, p_worth S, p_allCh S]
      · have D := pre_md hL 0
        unfold f_X12_many
        rw [m_pre hL]
        simp (disch := omega) only [↓q_isIn, j0, j1, u1, u3, u4, u5, u8, u9, u20, u60, u99, u100, u240, u9999, ite01z, not_true_eq_false, not_false_eq_true, if_true, if_false, z10, eq_true q, eq_true (show (5 : Int32) ≤ nI 5 by decide), eq_false (show ¬ nI 5 = 7 by decide), eq_false (show ¬ nI 5 = 8 by decide), eq_false (show ¬ nI 5 = 9 by decide), ↓m_r4 D.1, ↓m_r5 D.1, ↓m_r6 D.1, ↓m_r7 D.1, ↓m_r20 D.1, ↓m_r21 D.1, ↓m_r22 D.1, ↓m_r27 D.1, ↓m_r28 D.1, ↓m_r29 D.1, ↓m_r31 D.1, ↓m_r32 D.1, ↓m_r35 D.1, ↓m_ck D.1, ↓m_c0 D, ↓m_c1 D, ↓m_c2 D, ↓m_c3 D, ↓m_c4 D, ↓m_c D, i2, i3, i4, i5, i13, i21, i29, i37, i45, i53, i61, i69, i133, i137, i141, i145, i149, i153, i157, i161, i167, i4m, i6m, i8m, i9m, i18m, i60m, i256m, i450m, nI_add, ↓nmI_s, ↓bd_s, ↓bv_s, nI_1, ↓reduceIte, f_X12_many_52, f_X12_many_64, q_worthOf D O, q_allCh D O, q_many83 D O]
        refine congrArg some (Prod.ext ?_ rfl)
        rw [st_nI _ (by omega), st_nI _ (by omega)]
        refine congrArg nI (bit_ext (n := 8) (Nat.lt_of_lt_of_le (stN_lt _ _) (Nat.pow_le_pow_right (by omega) h8)) (Nat.lt_of_lt_of_le (stN_lt _ _) (Nat.pow_le_pow_right (by omega) h8)) fun k hk => ?_)
        rw [stN_bit, stN_bit]
        have e5 : (nI 5 = 5) = True := by decide
        simp only [e5, true_or, and_true, false_or]
    · refine ⟨st (fun h => mI M 212 (61 + h) = 1 ∧ mI M 212 (53 + h) = 0) (hN (mI M 212)), 0, ?_, ?_⟩
      · unfold f_X11_many
        simp (disch := omega) only [↓c_ck hL, ↓c_gI hL, ↓c_sh hL, ↓c_answer hL, ↓c_none hL, ↓c_no hL, ↓c_yes hL, ↓c_isHouse hL S, ↓c_isGang hL S, ↓q_within, ↓bd_s, ↓bv_s, ↓nmI_s, nI_1, ↓reduceIte, ite01z, not_true_eq_false, not_false_eq_true, if_true, if_false, z10, ↓e_hc S, ↓e_gc S, ↓e_wc S, ↓e_law S, ↓e_min S, ↓l_hs S.1, ↓l_gs S.1, ↓l_ws S.1, ↓l_ds S.1, ↓l_h S.1, ↓l_g S.1, ↓l_w S.1, ↓l_d S.1, ↓e_db S, ↓e_hat S, ↓e_hwo S, ↓e_hpi S, ↓e_hwe S, ↓e_hlo S, ↓e_hpe S, ↓e_hon S, ↓e_hsd S, ↓e_gho S, ↓e_gha S, ↓e_gpa S, ↓e_gat S, ↓e_ghd S, ↓e_gwa S, ↓e_gpc S, ↓e_wst S, ↓e_wch S, ↓lc_h S.1, ↓lc_g S.1, ↓lc_s S.1, eq_false (show ¬ nI 6 = 0 by decide), eq_false (show ¬ nI 6 = 1 by decide), eq_false (show ¬ nI 6 = 2 by decide), eq_false (show ¬ nI 6 = 3 by decide), eq_false (show ¬ nI 6 = 4 by decide), eq_false (show ¬ nI 6 = 5 by decide), eq_true (show nI 6 = 6 by decide), eq_false (show ¬ nI 6 = 7 by decide), eq_false (show ¬ nI 6 = 8 by decide), eq_false (show ¬ nI 6 = 9 by decide), p_standing S, p_off S, p_worth S, p_allCh S, off_eq O]
      · have D := pre_md hL 0
        unfold f_X12_many
        rw [m_pre hL]
        simp (disch := omega) only [↓q_isIn, j0, j1, u1, u3, u4, u5, u8, u9, u20, u60, u99, u100, u240, u9999, ite01z, not_true_eq_false, not_false_eq_true, if_true, if_false, z10, eq_true q, eq_true (show (5 : Int32) ≤ nI 6 by decide), eq_false (show ¬ nI 6 = 7 by decide), eq_false (show ¬ nI 6 = 8 by decide), eq_false (show ¬ nI 6 = 9 by decide), ↓m_r4 D.1, ↓m_r5 D.1, ↓m_r6 D.1, ↓m_r7 D.1, ↓m_r20 D.1, ↓m_r21 D.1, ↓m_r22 D.1, ↓m_r27 D.1, ↓m_r28 D.1, ↓m_r29 D.1, ↓m_r31 D.1, ↓m_r32 D.1, ↓m_r35 D.1, ↓m_ck D.1, ↓m_c0 D, ↓m_c1 D, ↓m_c2 D, ↓m_c3 D, ↓m_c4 D, ↓m_c D, i2, i3, i4, i5, i13, i21, i29, i37, i45, i53, i61, i69, i133, i137, i141, i145, i149, i153, i157, i161, i167, i4m, i6m, i8m, i9m, i18m, i60m, i256m, i450m, nI_add, ↓nmI_s, ↓bd_s, ↓bv_s, nI_1, ↓reduceIte, f_X12_many_52, f_X12_many_64, q_worthOf D O, q_allCh D O, q_many83 D O]
        refine congrArg some (Prod.ext ?_ rfl)
        rw [st_nI _ (by omega), st_nI _ (by omega)]
        refine congrArg nI (bit_ext (n := 8) (Nat.lt_of_lt_of_le (stN_lt _ _) (Nat.pow_le_pow_right (by omega) h8)) (Nat.lt_of_lt_of_le (stN_lt _ _) (Nat.pow_le_pow_right (by omega) h8)) fun k hk => ?_)
        rw [stN_bit, stN_bit]
        have e5 : (nI 6 = 5) = False := by decide
        simp only [e5, true_or, and_true, false_or]
    · refine ⟨wst (mI M 212) 1, 0, ?_, ?_⟩
      · unfold f_X11_many
        simp (disch := omega) only [↓c_ck hL, ↓c_gI hL, ↓c_sh hL, ↓c_answer hL, ↓c_none hL, ↓c_no hL, ↓c_yes hL, ↓c_isHouse hL S, ↓c_isGang hL S, ↓q_within, ↓bd_s, ↓bv_s, ↓nmI_s, nI_1, ↓reduceIte, ite01z, not_true_eq_false, not_false_eq_true, if_true, if_false, z10, ↓e_hc S, ↓e_gc S, ↓e_wc S, ↓e_law S, ↓e_min S, ↓l_hs S.1, ↓l_gs S.1, ↓l_ws S.1, ↓l_ds S.1, ↓l_h S.1, ↓l_g S.1, ↓l_w S.1, ↓l_d S.1, ↓e_db S, ↓e_hat S, ↓e_hwo S, ↓e_hpi S, ↓e_hwe S, ↓e_hlo S, ↓e_hpe S, ↓e_hon S, ↓e_hsd S, ↓e_gho S, ↓e_gha S, ↓e_gpa S, ↓e_gat S, ↓e_ghd S, ↓e_gwa S, ↓e_gpc S, ↓e_wst S, ↓e_wch S, ↓lc_h S.1, ↓lc_g S.1, ↓lc_s S.1, eq_false (show ¬ nI 7 = 0 by decide), eq_false (show ¬ nI 7 = 1 by decide), eq_false (show ¬ nI 7 = 2 by decide), eq_false (show ¬ nI 7 = 3 by decide), eq_false (show ¬ nI 7 = 4 by decide), eq_false (show ¬ nI 7 = 5 by decide), eq_false (show ¬ nI 7 = 6 by decide), eq_true (show nI 7 = 7 by decide), eq_false (show ¬ nI 7 = 8 by decide), eq_false (show ¬ nI 7 = 9 by decide), p_standing S, p_off S, p_worth S, p_allCh S, ← wst1 O]
      · have D := pre_md hL 0
        unfold f_X12_many
        rw [m_pre hL]
        simp (disch := omega) only [↓q_isIn, j0, j1, u1, u3, u4, u5, u8, u9, u20, u60, u99, u100, u240, u9999, ite01z, not_true_eq_false, not_false_eq_true, if_true, if_false, z10, eq_true q, eq_true (show (5 : Int32) ≤ nI 7 by decide), eq_true (show nI 7 = 7 by decide), eq_false (show ¬ nI 7 = 8 by decide), eq_false (show ¬ nI 7 = 9 by decide), ↓m_r4 D.1, ↓m_r5 D.1, ↓m_r6 D.1, ↓m_r7 D.1, ↓m_r20 D.1, ↓m_r21 D.1, ↓m_r22 D.1, ↓m_r27 D.1, ↓m_r28 D.1, ↓m_r29 D.1, ↓m_r31 D.1, ↓m_r32 D.1, ↓m_r35 D.1, ↓m_ck D.1, ↓m_c0 D, ↓m_c1 D, ↓m_c2 D, ↓m_c3 D, ↓m_c4 D, ↓m_c D, i2, i3, i4, i5, i13, i21, i29, i37, i45, i53, i61, i69, i133, i137, i141, i145, i149, i153, i157, i161, i167, i4m, i6m, i8m, i9m, i18m, i60m, i256m, i450m, nI_add, ↓nmI_s, ↓bd_s, ↓bv_s, nI_1, ↓reduceIte, f_X12_many_52, f_X12_many_64, q_worthOf D O, q_allCh D O, q_many83 D O]
        rfl
    · refine ⟨wst (mI M 212) 0, 0, ?_, ?_⟩
      · unfold f_X11_many
        simp (disch := omega) only [↓c_ck hL, ↓c_gI hL, ↓c_sh hL, ↓c_answer hL, ↓c_none hL, ↓c_no hL, ↓c_yes hL, ↓c_isHouse hL S, ↓c_isGang hL S, ↓q_within, ↓bd_s, ↓bv_s, ↓nmI_s, nI_1, ↓reduceIte, ite01z, not_true_eq_false, not_false_eq_true, if_true, if_false, z10, ↓e_hc S, ↓e_gc S, ↓e_wc S, ↓e_law S, ↓e_min S, ↓l_hs S.1, ↓l_gs S.1, ↓l_ws S.1, ↓l_ds S.1, ↓l_h S.1, ↓l_g S.1, ↓l_w S.1, ↓l_d S.1, ↓e_db S, ↓e_hat S, ↓e_hwo S, ↓e_hpi S, ↓e_hwe S, ↓e_hlo S, ↓e_hpe S, ↓e_hon S, ↓e_hsd S, ↓e_gho S, ↓e_gha S, ↓e_gpa S, ↓e_gat S, ↓e_ghd S, ↓e_gwa S, ↓e_gpc S, ↓e_wst S, ↓e_wch S, ↓lc_h S.1, ↓lc_g S.1, ↓lc_s S.1, eq_false (show ¬ nI 8 = 0 by decide), eq_false (show ¬ nI 8 = 1 by decide), eq_false (show ¬ nI 8 = 2 by decide), eq_false (show ¬ nI 8 = 3 by decide), eq_false (show ¬ nI 8 = 4 by decide), eq_false (show ¬ nI 8 = 5 by decide), eq_false (show ¬ nI 8 = 6 by decide), eq_false (show ¬ nI 8 = 7 by decide), eq_true (show nI 8 = 8 by decide), eq_false (show ¬ nI 8 = 9 by decide), p_standing S, p_off S, p_worth S, p_allCh S, ← wst0 O]
      · have D := pre_md hL 0
        unfold f_X12_many
        rw [m_pre hL]
        simp (disch := omega) only [↓q_isIn, j0, j1, u1, u3, u4, u5, u8, u9, u20, u60, u99, u100, u240, u9999, ite01z, not_true_eq_false, not_false_eq_true, if_true, if_false, z10, eq_true q, eq_true (show (5 : Int32) ≤ nI 8 by decide), eq_false (show ¬ nI 8 = 7 by decide), eq_true (show nI 8 = 8 by decide), eq_false (show ¬ nI 8 = 9 by decide), ↓m_r4 D.1, ↓m_r5 D.1, ↓m_r6 D.1, ↓m_r7 D.1, ↓m_r20 D.1, ↓m_r21 D.1, ↓m_r22 D.1, ↓m_r27 D.1, ↓m_r28 D.1, ↓m_r29 D.1, ↓m_r31 D.1, ↓m_r32 D.1, ↓m_r35 D.1, ↓m_ck D.1, ↓m_c0 D, ↓m_c1 D, ↓m_c2 D, ↓m_c3 D, ↓m_c4 D, ↓m_c D, i2, i3, i4, i5, i13, i21, i29, i37, i45, i53, i61, i69, i133, i137, i141, i145, i149, i153, i157, i161, i167, i4m, i6m, i8m, i9m, i18m, i60m, i256m, i450m, nI_add, ↓nmI_s, ↓bd_s, ↓bv_s, nI_1, ↓reduceIte, f_X12_many_52, f_X12_many_64, q_worthOf D O, q_allCh D O, q_many83 D O]
        rfl
    · refine ⟨allCh (mI M 212), 0, ?_, ?_⟩
      · unfold f_X11_many
        simp (disch := omega) only [↓c_ck hL, ↓c_gI hL, ↓c_sh hL, ↓c_answer hL, ↓c_none hL, ↓c_no hL, ↓c_yes hL, ↓c_isHouse hL S, ↓c_isGang hL S, ↓q_within, ↓bd_s, ↓bv_s, ↓nmI_s, nI_1, ↓reduceIte, ite01z, not_true_eq_false, not_false_eq_true, if_true, if_false, z10, ↓e_hc S, ↓e_gc S, ↓e_wc S, ↓e_law S, ↓e_min S, ↓l_hs S.1, ↓l_gs S.1, ↓l_ws S.1, ↓l_ds S.1, ↓l_h S.1, ↓l_g S.1, ↓l_w S.1, ↓l_d S.1, ↓e_db S, ↓e_hat S, ↓e_hwo S, ↓e_hpi S, ↓e_hwe S, ↓e_hlo S, ↓e_hpe S, ↓e_hon S, ↓e_hsd S, ↓e_gho S, ↓e_gha S, ↓e_gpa S, ↓e_gat S, ↓e_ghd S, ↓e_gwa S, ↓e_gpc S, ↓e_wst S, ↓e_wch S, ↓lc_h S.1, ↓lc_g S.1, ↓lc_s S.1, eq_false (show ¬ nI 9 = 0 by decide), eq_false (show ¬ nI 9 = 1 by decide), eq_false (show ¬ nI 9 = 2 by decide), eq_false (show ¬ nI 9 = 3 by decide), eq_false (show ¬ nI 9 = 4 by decide), eq_false (show ¬ nI 9 = 5 by decide), eq_false (show ¬ nI 9 = 6 by decide), eq_false (show ¬ nI 9 = 7 by decide), eq_false (show ¬ nI 9 = 8 by decide), eq_true (show nI 9 = 9 by decide), p_standing S, p_off S, p_worth S, p_allCh S]
      · have D := pre_md hL 0
        unfold f_X12_many
        rw [m_pre hL]
        simp (disch := omega) only [↓q_isIn, j0, j1, u1, u3, u4, u5, u8, u9, u20, u60, u99, u100, u240, u9999, ite01z, not_true_eq_false, not_false_eq_true, if_true, if_false, z10, eq_true q, eq_true (show (5 : Int32) ≤ nI 9 by decide), eq_false (show ¬ nI 9 = 7 by decide), eq_false (show ¬ nI 9 = 8 by decide), eq_true (show nI 9 = 9 by decide), ↓m_r4 D.1, ↓m_r5 D.1, ↓m_r6 D.1, ↓m_r7 D.1, ↓m_r20 D.1, ↓m_r21 D.1, ↓m_r22 D.1, ↓m_r27 D.1, ↓m_r28 D.1, ↓m_r29 D.1, ↓m_r31 D.1, ↓m_r32 D.1, ↓m_r35 D.1, ↓m_ck D.1, ↓m_c0 D, ↓m_c1 D, ↓m_c2 D, ↓m_c3 D, ↓m_c4 D, ↓m_c D, i2, i3, i4, i5, i13, i21, i29, i37, i45, i53, i61, i69, i133, i137, i141, i145, i149, i153, i157, i161, i167, i4m, i6m, i8m, i9m, i18m, i60m, i256m, i450m, nI_add, ↓nmI_s, ↓bd_s, ↓bv_s, nI_1, ↓reduceIte, f_X12_many_52, f_X12_many_64, q_worthOf D O, q_allCh D O, q_many83 D O]
        rfl
  · refine ⟨-1, 5, ?_, ?_⟩
    · have n : ∀ j : Int32, 0 ≤ j ∧ j ≤ 9 → ¬ w = j := fun j hj z => q (z ▸ hj)
      unfold f_X11_many
      simp (disch := omega) only [↓c_ck hL, ↓c_gI hL, ↓c_sh hL, ↓c_answer hL, ↓c_none hL, ↓c_no hL, ↓c_yes hL, ↓c_isHouse hL S, ↓c_isGang hL S, ↓q_within, ↓bd_s, ↓bv_s, ↓nmI_s, nI_1, ↓reduceIte, ite01z, not_true_eq_false, not_false_eq_true, if_true, if_false, z10, eq_false (n 0 (by decide)), eq_false (n 1 (by decide)), eq_false (n 2 (by decide)), eq_false (n 3 (by decide)), eq_false (n 4 (by decide)), eq_false (n 5 (by decide)), eq_false (n 6 (by decide)), eq_false (n 7 (by decide)), eq_false (n 8 (by decide)), eq_false (n 9 (by decide))]
    · have D := pre_md hL 5
      unfold f_X12_many
      rw [m_pre hL]
      simp (disch := omega) only [↓q_isIn, j0, j1, u1, u3, u4, u5, u8, u9, u20, u60, u99, u100, u240, u9999, ite01z, not_true_eq_false, not_false_eq_true, if_true, if_false, z10, eq_false q, ↓q_isHouse D, ↓q_isGang D, ↓m_refuse hL, ↓m_no hL, ↓m_r4 D.1, ↓m_r5 D.1, ↓m_r6 D.1, ↓m_r7 D.1, ↓m_r20 D.1, ↓m_r21 D.1, ↓m_r22 D.1, ↓m_r27 D.1, ↓m_r28 D.1, ↓m_r29 D.1, ↓m_r31 D.1, ↓m_r32 D.1, ↓m_r35 D.1, ↓m_ck D.1, ↓m_c0 D, ↓m_c1 D, ↓m_c2 D, ↓m_c3 D, ↓m_c4 D, ↓m_c D, i2, i3, i4, i5, i13, i21, i29, i37, i45, i53, i61, i69, i133, i137, i141, i145, i149, i153, i157, i161, i167, i4m, i6m, i8m, i9m, i18m, i60m, i256m, i450m, nI_add, ↓nmI_s, ↓bd_s, ↓bv_s, nI_1, ↓reduceIte]
      rfl
