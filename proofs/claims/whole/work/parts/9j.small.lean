/-! SMALL CALLS -/
theorem RR_t {M : Mm} (h : RR M) : RR (sI M 207 1 0) := by
  obtain ⟨a, b, y, z, H⟩ := h
  have ha := ll_a H.1
  have e : mI (sI M 207 1 0) 212 = mI M 212 := mI_o (by decide)
  refine ⟨a, b, y, z, RA_sh H (Ag.rf.s7 (by omega) 0) ?_ ?_ ?_⟩
  · rw [mI_o (by decide), mI_f (by decide)]
    exact H.2.2.2.1
  · rw [e]
    exact shO_same H.2.1 rfl rfl fun x x1 x2 => mI_o (by omega)
  · rw [e]
    exact H.2.2.1.1
theorem op_status : opI (fun M => f_X11_status M (some 0)) (fun M => f_X12_status M (some 207)) := by
  intro M hR
  dsimp only
  obtain ⟨a, b, y, z, H⟩ := id hR
  have hL := H.1
  refine ⟨mI M 0 0, M, _, ?_, ?_, RR_t hR⟩
  · unfold f_X11_status
    rw [c_gI hL]
  · unfold f_X12_status
    rw [m_pI hL.2.2.1, m_gI (M := sI M 207 1 0) hL.2.2.1, mI_f (by decide), H.2.2.2.1]
theorem op_top : opL (fun M => f_X11_top M (some 0)) (fun M => f_X12_top M (some 207)) := by
  intro M hR
  dsimp only
  obtain ⟨a, b, y, z, H⟩ := id hR
  have hL := H.1
  refine ⟨mL M 0 1, M, _, ?_, ?_, RR_t hR⟩
  · unfold f_X11_top
    rw [c_gL hL]
  · unfold f_X12_top
    rw [m_pI hL.2.2.1, m_gL (M := sI M 207 1 0) hL.2.2.1, H.2.2.2.2.1.1]
    rfl
theorem op_bottom : opL (fun M => f_X11_bottom M (some 0)) (fun M => f_X12_bottom M (some 207)) := by
  intro M hR
  dsimp only
  obtain ⟨a, b, y, z, H⟩ := id hR
  have hL := H.1
  refine ⟨mL M 0 2, M, _, ?_, ?_, RR_t hR⟩
  · unfold f_X11_bottom
    rw [c_gL hL]
  · unfold f_X12_bottom
    rw [m_pI hL.2.2.1, m_gL (M := sI M 207 1 0) hL.2.2.1, H.2.2.2.2.1.2]
    rfl
theorem op_fault (x : Int32) : opI (fun M => f_X11_fault M (some 0) x) (fun M => f_X12_fault M (some 207) x) := by
  intro M hR
  dsimp only
  obtain ⟨a, b, y, z, H⟩ := id hR
  have hL := H.1
  obtain ⟨f1, f2⟩ := H.2.2.2.2.2.1
  have D1 : mdL (sI M 207 1 0) := hL.2.2.1
  unfold f_X11_fault f_X12_fault
  rw [c_gI hL, c_gI hL]
  by_cases q0 : x = 0
  · refine ⟨mI M 0 3, M, _, by rw [if_pos q0], ?_, RR_t hR⟩
    rw [m_pI hL.2.2.1, if_pos q0, m_gI D1, mI_f (by decide), f1]
  · by_cases q1 : x = 1
    · refine ⟨mI M 0 4, M, _, by rw [if_neg q0, if_pos q1], ?_, RR_t hR⟩
      rw [m_pI hL.2.2.1, if_neg q0, if_pos q1, m_gI D1, mI_f (by decide), f2]
    · refine ⟨-1, M, _, by rw [if_neg q0, if_neg q1], ?_, RR_t hR⟩
      rw [m_pI hL.2.2.1, if_neg q0, if_neg q1]
theorem pre_7 {M : Mm} {s : Int32} {k : Nat} (h0 : k ≠ 0) (h1 : k ≠ 1) : mI (pre M s) 207 k = mI M 207 k := by
  unfold pre
  rw [mI_f h0, mI_f h1, mI_o (by decide)]
theorem pre_o {M : Mm} {s : Int32} {x : Nat} (h0 : x ≠ 0) (h1 : x ≠ 207) : mI (pre M s) x = mI M x := by
  unfold pre
  rw [mI_o h1, mI_o h1, mI_o h0]
theorem op_bestSet : opI (fun M => f_X11_bestSet M (some 0)) (fun M => f_X12_bestSet M (some 207)) := by
  (refine opI_st fun M a b y z H => ?_; have hL := H.1; have S := H.2.1; have O := S.2.2; have h8 := (ok_h O).2; have g4 := (ok_g O).2; have w6 := (ok_w O).2; have L := S.1)
  obtain ⟨p1, p2, -⟩ := H.2.2.2.2.2.2.2.2.2.2.1
  rcases p2 with q | ⟨s, hs, q⟩
  · refine ⟨-1, 8, ?_, ?_⟩
    · unfold f_X11_bestSet
      rw [c_gI hL, if_pos q, c_ck hL, c_none hL, bd_s]
    · have D := pre_md hL 8
      unfold f_X12_bestSet
      rw [m_pre hL, m_gI D.1, pre_7 (by decide) (by decide), ← p1, q, if_neg (by decide), m_ck D.1, m_refuse hL, bd_s]
      rfl
  · refine ⟨nI s, 0, ?_, ?_⟩
    · unfold f_X11_bestSet
      rw [c_gI hL, q, if_neg (neg1_ne (by omega)), c_gI hL, q, c_ck hL, c_answer hL, bd_s]
    · have D := pre_md hL 0
      unfold f_X12_bestSet
      rw [m_pre hL, m_gI D.1, pre_7 (by decide) (by decide), ← p1, q, if_pos (nI_pos' (by omega)), m_gI D.1, pre_7 (by decide) (by decide), ← p1, q]
      rfl
theorem op_order (x : Int32) : opI (fun M => f_X11_order M (some 0) x) (fun M => f_X12_order M (some 207) x) := by
  (refine opI_st fun M a b y z H => ?_; have hL := H.1; have S := H.2.1; have O := S.2.2; have h8 := (ok_h O).2; have g4 := (ok_g O).2; have w6 := (ok_w O).2; have L := S.1)
  obtain ⟨-, -, p3⟩ := H.2.2.2.2.2.2.2.2.2.2.1
  have k88 : (mK M 88).1 = 3 := by rw [hL.1.2.2.2.2.2.1.1]
  have g1 : ∀ K : Int32 → Option (Int32 × Mm), gfI M (some 88) 3 1 K = K (mI M 88 1) := fun K => gfI_s k88
  have g0 : ∀ K : Option Nat → Option (Int32 × Mm), gfR M (some 88) 3 0 K = K (some 89) := fun K => by rw [gfR_s k88, hL.1.2.2.2.2.2.1.2.1]
  rcases p3 with ⟨h1, h2⟩ | ⟨n, hn, h1, h2, h3⟩
  · refine ⟨-1, 8, ?_, ?_⟩
    · unfold f_X11_order
      rw [c_pl hL, g1, h1, q_within, bd_s, if_neg (show ¬ (0 ≤ x ∧ x ≤ (0 : Int32) - 1) from fun z => absurd (Int32.le_trans z.1 z.2) (by decide)), if_pos rfl, c_ck hL, c_none hL, bd_s]
    · have D := pre_md hL 8
      unfold f_X12_order
      rw [m_pre hL, m_gI D.1, pre_7 (by decide) (by decide), h2, show (0 : Int64) = Int32.toInt64 0 from by decide, q_in32, bd_s, if_neg (show ¬ (0 ≤ x ∧ x ≤ (-1 : Int32) - 1) from fun z => absurd (Int32.le_trans z.1 z.2) (by decide)), if_pos rfl, m_ck D.1, m_refuse hL, bd_s]
      rfl
  · by_cases q : 0 ≤ x ∧ x ≤ nI n - 1
    · obtain ⟨k, hk, rfl⟩ := (in_ix (by omega)).mp q
      refine ⟨mI M 89 k, 0, ?_, ?_⟩
      · unfold f_X11_order
        rw [c_pl hL, g1, h1, q_within, bd_s, if_pos q, if_neg (by decide), c_pl hL, g0, alI_s hL.1.2.2.2.2.2.1.2.2.2.2.1 (by omega) (by decide), c_ck hL, c_answer hL, bd_s]
      · have D := pre_md hL 0
        unfold f_X12_order
        rw [m_pre hL, m_gI D.1, pre_7 (by decide) (by decide), h2, show (0 : Int64) = Int32.toInt64 0 from by decide, q_in32, bd_s, if_pos q, if_neg (by decide), m_r31 D.1, alI_s D.1.2.2.2.2.2.2.2.2.2.2.2.1.2 (by omega) (by decide), pre_o (by decide) (by decide), h3 k hk]
        rfl
    · refine ⟨-1, 8, ?_, ?_⟩
      · unfold f_X11_order
        rw [c_pl hL, g1, h1, q_within, bd_s, if_neg q, if_pos rfl, c_ck hL, c_none hL, bd_s]
      · have D := pre_md hL 8
        unfold f_X12_order
        rw [m_pre hL, m_gI D.1, pre_7 (by decide) (by decide), h2, show (0 : Int64) = Int32.toInt64 0 from by decide, q_in32, bd_s, if_neg q, if_pos rfl, m_ck D.1, m_refuse hL, bd_s]
        rfl
theorem op_lived (x : Int32) : opI (fun M => f_X11_lived M (some 0) x) (fun M => f_X12_lived M (some 207) x) := by
  (refine opI_st fun M a b y z H => ?_; have hL := H.1; have S := H.2.1; have O := S.2.2; have h8 := (ok_h O).2; have g4 := (ok_g O).2; have w6 := (ok_w O).2; have L := S.1)
  obtain ⟨p1, p2⟩ := H.2.2.2.2.2.2.2.2.2.2.2
  have k92 : (mK M 92).1 = 2 := by rw [hL.1.2.2.2.2.2.2.1]
  have gl : ∀ j (K : Int32 → Option (Int32 × Mm)), gfI M (some 92) 2 j K = K (mI M 92 j) := fun j K => gfI_s k92
  by_cases q : 0 ≤ x ∧ x ≤ 4
  · rcases p2 with h | ⟨h, h5⟩
    · refine ⟨-1, 8, ?_, ?_⟩
      · unfold f_X11_lived
        rw [q_within, bd_s, if_pos q, if_neg (by decide), c_gI hL, h, if_pos rfl, c_ck hL, c_none hL, bd_s]
      · have D := pre_md hL 8
        unfold f_X12_lived
        rw [m_pre hL]
        simp (disch := omega) only [↓q_isIn, j0, j1, u1, u3, u4, u5, u8, u9, u20, u60, u99, u100, u240, u9999, ite01z, not_true_eq_false, not_false_eq_true, if_true, if_false, z10, eq_true q]
        rw [bd_s, if_neg (by decide), m_gI D.1, pre_7 (by decide) (by decide), ← p1, h, if_pos rfl, m_ck D.1, m_refuse hL, bd_s]
        rfl
    · obtain ⟨j, hj, rfl⟩ := rng (n := 4) (by decide) q
      refine ⟨mI M 92 (1 + j), 0, ?_, ?_⟩
      · unfold f_X11_lived
        rw [q_within, bd_s, if_pos q, if_neg (by decide), c_gI hL, h, if_neg (by decide)]
        rcases (show j = 0 ∨ j = 1 ∨ j = 2 ∨ j = 3 ∨ j = 4 by omega) with rfl | rfl | rfl | rfl | rfl
        · rw [if_pos (by decide), c_l1 hL, gl, c_ck hL, c_answer hL, bd_s]
        · rw [if_neg (by decide), if_pos (by decide), c_l1 hL, gl, c_ck hL, c_answer hL, bd_s]
        · rw [if_neg (by decide), if_neg (by decide), if_pos (by decide), c_l1 hL, gl, c_ck hL, c_answer hL, bd_s]
        · rw [if_neg (by decide), if_neg (by decide), if_neg (by decide), if_pos (by decide), c_l1 hL, gl, c_ck hL, c_answer hL, bd_s]
        · rw [if_neg (by decide), if_neg (by decide), if_neg (by decide), if_neg (by decide), c_l1 hL, gl, c_ck hL, c_answer hL, bd_s]
      · have D := pre_md hL 0
        unfold f_X12_lived
        rw [m_pre hL]
        simp (disch := omega) only [↓q_isIn, j0, j1, u1, u3, u4, u5, u8, u9, u20, u60, u99, u100, u240, u9999, ite01z, not_true_eq_false, not_false_eq_true, if_true, if_false, z10, eq_true q]
        rw [bd_s, if_neg (by decide), m_gI D.1, pre_7 (by decide) (by decide), ← p1, h, if_neg (by decide), m_r35 D.1, alI_s D.1.2.2.2.2.2.2.2.2.2.2.2.2.2.2 (show j < 5 by omega) (by decide), pre_o (by decide) (by decide), h5 j (by omega)]
        rfl
  · refine ⟨-1, 5, ?_, ?_⟩
    · unfold f_X11_lived
      rw [q_within, bd_s, if_neg q, if_pos rfl, c_ck hL, c_none hL, bd_s]
    · have D := pre_md hL 5
      unfold f_X12_lived
      rw [m_pre hL]
      simp (disch := omega) only [↓q_isIn, j0, j1, u1, u3, u4, u5, u8, u9, u20, u60, u99, u100, u240, u9999, ite01z, not_true_eq_false, not_false_eq_true, if_true, if_false, z10, eq_false q]
      rw [bd_s, if_pos rfl, m_ck D.1, m_refuse hL, bd_s]
      rfl
theorem op_help (x w n : Int32) : opI (fun M => f_X11_help M (some 0) x w n) (fun M => f_X12_help M (some 207) x w n) := by
  intro M hR
  dsimp only
  obtain ⟨a, b, y, z, H⟩ := id hR
  have hL := H.1
  have S := H.2.1
  have O := S.2.2
  have h8 := (ok_h O).2
  have g4 := (ok_g O).2
  have w6 := (ok_w O).2
  by_cases q1 : 0 ≤ x ∧ x ≤ mI M 212 0 - 1
  · by_cases q2 : 0 ≤ w ∧ w ≤ mI M 212 0 - 1
    · by_cases q3 : x = w
      · refine ⟨-1, sI M 0 0 5, _, ?_, ?_, RR_st hR 5⟩
        · unfold f_X11_help
          simp (disch := omega) only [↓c_ck hL, ↓c_gI hL, ↓c_sh hL, ↓c_answer hL, ↓c_none hL, ↓c_no hL, ↓c_yes hL, ↓c_isHouse hL S, ↓c_isGang hL S, ↓q_within, ↓bd_s, ↓bv_s, ↓nmI_s, nI_1, ↓reduceIte, ite01z, not_true_eq_false, not_false_eq_true, if_true, if_false, z10, eq_true q1, eq_true q2, eq_true q3, f_X11_help_37]
        · have D := pre_md hL 5
          unfold f_X12_help
          rw [m_pre hL]
          simp (disch := omega) only [↓q_isIn, j0, j1, u1, u3, u4, u5, u8, u9, u20, u60, u99, u100, u240, u9999, ite01z, not_true_eq_false, not_false_eq_true, if_true, if_false, z10, eq_true q1, eq_true q2, eq_true q3, ↓q_isHouse D, ↓q_isGang D, ↓m_refuse hL, ↓m_no hL, ↓m_r4 D.1, ↓m_r5 D.1, ↓m_r6 D.1, ↓m_r7 D.1, ↓m_r20 D.1, ↓m_r21 D.1, ↓m_r22 D.1, ↓m_r27 D.1, ↓m_r28 D.1, ↓m_r29 D.1, ↓m_r31 D.1, ↓m_r32 D.1, ↓m_r35 D.1, ↓m_ck D.1, ↓m_c0 D, ↓m_c1 D, ↓m_c2 D, ↓m_c3 D, ↓m_c4 D, ↓m_c D, i2, i3, i4, i5, i13, i21, i29, i37, i45, i53, i61, i69, i133, i137, i141, i145, i149, i153, i157, i161, i167, i4m, i6m, i8m, i9m, i18m, i60m, i256m, i450m, nI_add, ↓nmI_s, ↓bd_s, ↓bv_s, nI_1, ↓reduceIte, f_X12_help_49]
          rfl
      · by_cases q4 : 1 ≤ n ∧ n ≤ 99
        · obtain ⟨i, hi, rfl⟩ := hIx O q1
          obtain ⟨j, hj, rfl⟩ := hIx O q2
          obtain ⟨m, hm, rfl⟩ := rng (n := 99) (by decide) ⟨Int32.le_trans (by decide) q4.1, q4.2⟩
          have bd := O.2.2.2.2.2.2.1 i j hi hj
          have hdv : mI M (a + 5 + i) j = mI M 212 (69 + 8 * i + j) := S.2.1.2.2.1 i j hi hj
          by_cases q5 : mI M 212 (69 + 8 * i + j) + nI m ≤ 9999
          · have e9 : mI M 212 (69 + 8 * i + j) + nI m = nI (na (mI M 212) (69 + 8 * i + j) + m) := by
              conv => lhs; rw [bd.1]
              rw [nI_add]
            have b9 : na (mI M 212) (69 + 8 * i + j) + m ≤ 9999 := by
              rw [e9, show (9999 : Int32) = nI 9999 from rfl, nI_leI' (by have := bd.2.2; omega) (by omega)] at q5
              exact q5
            obtain ⟨v, hv⟩ : ∃ v, mI M 212 (69 + 8 * i + j) + nI m = v := ⟨_, rfl⟩
            have q5v : v ≤ 9999 := hv ▸ q5
            have O' : okC (upd (mI M 212) (69 + 8 * i + j) v) := by
              rw [← hv, e9]
              exact okC_debt O hi hj b9
            have W := w_d (shW_of S) (i := i) (j := j) (by omega) (by omega) v
            have S1 : shO (sI M (a + 5 + i) j v) a (upd (mI M 212) (69 + 8 * i + j) v) := by
              refine shO_of W (fun k hk => ?_) O'
              by_cases z1 : k = 69 + 8 * i + j
              · rw [z1, pk_us, ecl_o (by omega), pk_us]
              · rw [pk_un z1]
                unfold ecl
                by_cases z2 : 157 ≤ k ∧ k < 161
                · rw [if_pos z2, if_pos z2]
                  have hs : ∀ c', c' = upd (mI M 212) (69 + 8 * i + j) v → pcs c' (k - 157) = pcs (mI M 212) (k - 157) := fun c' hc' => by
                    have e : ∀ q, q < 69 ∨ 133 ≤ q → c' q = mI M 212 q := fun q hq => by rw [hc']; exact pk_un (by omega)
                    have e1 := e (149 + (k - 157)) (by omega)
                    have e2 := e (157 + (k - 157)) (by omega)
                    have hk1 : k - 157 < gN (mI M 212) := by
                      have : gN (upd (mI M 212) (69 + 8 * i + j) v) = gN (mI M 212) := upd_g (by omega)
                      rw [this] at hk
                      unfold vld at hk
                      omega
                    rcases hand_cases O hk1 with ⟨h1, -⟩ | ⟨h, hh, eh, -, -⟩
                    · rw [pcs_none h1, pcs_none (e1.trans h1)]
                    · rw [pcs_hand eh (by omega), pcs_hand (e1.trans eh) (by omega), e2]
                      unfold takes
                      rw [e (29 + h) (by omega), e (45 + h) (by omega), e (137 + (k - 157)) (by omega)]
                  exact (hs _ rfl).symm
                · rw [if_neg z2, if_neg z2, pk_un z1]
            have F1 : FrI M (sI M (a + 5 + i) j v) a 31 := FrI.rf.sI (by omega) (by omega)
            have hL1 : LL (sI M (a + 5 + i) j v) a b y z := LL_same hL rfl rfl rfl
            have ha := ll_a hL
            have e2 : mI (sI M (a + 5 + i) j v) 212 = mI M 212 := mI_o (by omega)
            have rd : mI (sI M (a + 5 + i) j v) (a + 5 + i) j = v := mI_sI_s _ _ _ _
            obtain ⟨M1, hM1⟩ : ∃ M1, sI M (a + 5 + i) j v = M1 := ⟨_, rfl⟩
            have pd : ∀ K : Mm → Option (Int32 × Mm), asI M (some (a + 5 + i)) 21 (nI j) v K = K (sI M (a + 5 + i) j v) := fun K => lp_d S.1 (by omega) (by omega)
            rw [hM1] at S1 F1 hL1 e2 rd
            simp only [hM1] at pd
            refine ⟨v, sI M1 0 0 0, sA (pre M1 0) 212 (upd (mI M 212) (69 + 8 * i + j) v), ?_, ?_, RR_w H F1 S1 (fun k hk => pk_un (by omega)) (by rw [na_same (pk_un (show 4 ≠ 69 + 8 * i + j by omega))]; exact H.2.2.1.1) (Or.inl rfl)⟩
            · unfold f_X11_help
              simp (disch := omega) only [↓c_ck hL, ↓c_gI hL, ↓c_sh hL, ↓c_answer hL, ↓c_none hL, ↓c_no hL, ↓c_yes hL, ↓c_isHouse hL S, ↓c_isGang hL S, ↓q_within, ↓bd_s, ↓bv_s, ↓nmI_s, nI_1, ↓reduceIte, ite01z, not_true_eq_false, not_false_eq_true, if_true, if_false, z10, eq_true q1, eq_true q2, eq_false q3, eq_true q4, ↓e_hc S, ↓e_gc S, ↓e_wc S, ↓e_law S, ↓e_min S, ↓l_hs S.1, ↓l_gs S.1, ↓l_ws S.1, ↓l_ds S.1, ↓l_h S.1, ↓l_g S.1, ↓l_w S.1, ↓l_d S.1, ↓e_db S, ↓e_hat S, ↓e_hwo S, ↓e_hpi S, ↓e_hwe S, ↓e_hlo S, ↓e_hpe S, ↓e_hon S, ↓e_hsd S, ↓e_gho S, ↓e_gha S, ↓e_gpa S, ↓e_gat S, ↓e_ghd S, ↓e_gwa S, ↓e_gpc S, ↓e_wst S, ↓e_wch S, ↓lc_h S.1, ↓lc_g S.1, ↓lc_s S.1, eq_true q5, hv]
              rw [pd, c_sh hL1, l_ds S1.1, l_d S1.1 (by omega), alI_s (lk_d S1.1 (by omega)) (show j < 8 by omega) (by decide), rd, c_ck hL1, c_answer hL1, bd_s, if_pos q5v]
            · have D := pre_md hL1 0
              rw [e2] at D
              unfold f_X12_help
              rw [m_pre hL1]
              simp (disch := omega) only [↓q_isIn, j0, j1, u1, u3, u4, u5, u8, u9, u20, u60, u99, u100, u240, u9999, ite01z, not_true_eq_false, not_false_eq_true, if_true, if_false, z10, ↓q_isHouse D, eq_true q1, eq_true q2, eq_false q3, eq_true q4, ↓m_r4 D.1, ↓m_r5 D.1, ↓m_r6 D.1, ↓m_r7 D.1, ↓m_r20 D.1, ↓m_r21 D.1, ↓m_r22 D.1, ↓m_r27 D.1, ↓m_r28 D.1, ↓m_r29 D.1, ↓m_r31 D.1, ↓m_r32 D.1, ↓m_r35 D.1, ↓m_ck D.1, ↓m_c0 D, ↓m_c1 D, ↓m_c2 D, ↓m_c3 D, ↓m_c4 D, ↓m_c D, i2, i3, i4, i5, i13, i21, i29, i37, i45, i53, i61, i69, i133, i137, i141, i145, i149, i153, i157, i161, i167, i4m, i6m, i8m, i9m, i18m, i60m, i256m, i450m, nI_add, ↓nmI_s, ↓bd_s, ↓bv_s, nI_1, ↓reduceIte, eq_true q5, hv]
              have D1 : mdL (pre M1 0) := D.1
              rw [if_pos q5v]
              rw [m_sc D (by omega), f_r20 D1, f_c D1 (by omega), pk_us]
          · refine ⟨-1, sI M 0 0 7, _, ?_, ?_, RR_st hR 7⟩
            · unfold f_X11_help
              simp (disch := omega) only [↓c_ck hL, ↓c_gI hL, ↓c_sh hL, ↓c_answer hL, ↓c_none hL, ↓c_no hL, ↓c_yes hL, ↓c_isHouse hL S, ↓c_isGang hL S, ↓q_within, ↓bd_s, ↓bv_s, ↓nmI_s, nI_1, ↓reduceIte, ite01z, not_true_eq_false, not_false_eq_true, if_true, if_false, z10, eq_true q1, eq_true q2, eq_false q3, eq_true q4, ↓e_hc S, ↓e_gc S, ↓e_wc S, ↓e_law S, ↓e_min S, ↓l_hs S.1, ↓l_gs S.1, ↓l_ws S.1, ↓l_ds S.1, ↓l_h S.1, ↓l_g S.1, ↓l_w S.1, ↓l_d S.1, ↓e_db S, ↓e_hat S, ↓e_hwo S, ↓e_hpi S, ↓e_hwe S, ↓e_hlo S, ↓e_hpe S, ↓e_hon S, ↓e_hsd S, ↓e_gho S, ↓e_gha S, ↓e_gpa S, ↓e_gat S, ↓e_ghd S, ↓e_gwa S, ↓e_gpc S, ↓e_wst S, ↓e_wch S, ↓lc_h S.1, ↓lc_g S.1, ↓lc_s S.1, eq_false q5]
            · have D := pre_md hL 7
              unfold f_X12_help
              rw [m_pre hL]
              simp (disch := omega) only [↓q_isIn, j0, j1, u1, u3, u4, u5, u8, u9, u20, u60, u99, u100, u240, u9999, ite01z, not_true_eq_false, not_false_eq_true, if_true, if_false, z10, eq_true q1, eq_true q2, eq_false q3, eq_true q4, ↓q_isHouse D, ↓q_isGang D, ↓m_refuse hL, ↓m_no hL, ↓m_r4 D.1, ↓m_r5 D.1, ↓m_r6 D.1, ↓m_r7 D.1, ↓m_r20 D.1, ↓m_r21 D.1, ↓m_r22 D.1, ↓m_r27 D.1, ↓m_r28 D.1, ↓m_r29 D.1, ↓m_r31 D.1, ↓m_r32 D.1, ↓m_r35 D.1, ↓m_ck D.1, ↓m_c0 D, ↓m_c1 D, ↓m_c2 D, ↓m_c3 D, ↓m_c4 D, ↓m_c D, i2, i3, i4, i5, i13, i21, i29, i37, i45, i53, i61, i69, i133, i137, i141, i145, i149, i153, i157, i161, i167, i4m, i6m, i8m, i9m, i18m, i60m, i256m, i450m, nI_add, ↓nmI_s, ↓bd_s, ↓bv_s, nI_1, ↓reduceIte, eq_false q5]
              rfl
        · refine ⟨-1, sI M 0 0 5, _, ?_, ?_, RR_st hR 5⟩
          · unfold f_X11_help
            simp (disch := omega) only [↓c_ck hL, ↓c_gI hL, ↓c_sh hL, ↓c_answer hL, ↓c_none hL, ↓c_no hL, ↓c_yes hL, ↓c_isHouse hL S, ↓c_isGang hL S, ↓q_within, ↓bd_s, ↓bv_s, ↓nmI_s, nI_1, ↓reduceIte, ite01z, not_true_eq_false, not_false_eq_true, if_true, if_false, z10, eq_true q1, eq_true q2, eq_false q3, eq_false q4, f_X11_help_37]
          · have D := pre_md hL 5
            unfold f_X12_help
            rw [m_pre hL]
            simp (disch := omega) only [↓q_isIn, j0, j1, u1, u3, u4, u5, u8, u9, u20, u60, u99, u100, u240, u9999, ite01z, not_true_eq_false, not_false_eq_true, if_true, if_false, z10, eq_true q1, eq_true q2, eq_false q3, eq_false q4, ↓q_isHouse D, ↓q_isGang D, ↓m_refuse hL, ↓m_no hL, ↓m_r4 D.1, ↓m_r5 D.1, ↓m_r6 D.1, ↓m_r7 D.1, ↓m_r20 D.1, ↓m_r21 D.1, ↓m_r22 D.1, ↓m_r27 D.1, ↓m_r28 D.1, ↓m_r29 D.1, ↓m_r31 D.1, ↓m_r32 D.1, ↓m_r35 D.1, ↓m_ck D.1, ↓m_c0 D, ↓m_c1 D, ↓m_c2 D, ↓m_c3 D, ↓m_c4 D, ↓m_c D, i2, i3, i4, i5, i13, i21, i29, i37, i45, i53, i61, i69, i133, i137, i141, i145, i149, i153, i157, i161, i167, i4m, i6m, i8m, i9m, i18m, i60m, i256m, i450m, nI_add, ↓nmI_s, ↓bd_s, ↓bv_s, nI_1, ↓reduceIte, f_X12_help_49]
            rfl
    · refine ⟨-1, sI M 0 0 2, _, ?_, ?_, RR_st hR 2⟩
      · unfold f_X11_help
        simp (disch := omega) only [↓c_ck hL, ↓c_gI hL, ↓c_sh hL, ↓c_answer hL, ↓c_none hL, ↓c_no hL, ↓c_yes hL, ↓c_isHouse hL S, ↓c_isGang hL S, ↓q_within, ↓bd_s, ↓bv_s, ↓nmI_s, nI_1, ↓reduceIte, ite01z, not_true_eq_false, not_false_eq_true, if_true, if_false, z10, eq_true q1, eq_false q2, f_X11_help_16]
      · have D := pre_md hL 2
        unfold f_X12_help
        rw [m_pre hL]
        simp (disch := omega) only [↓q_isIn, j0, j1, u1, u3, u4, u5, u8, u9, u20, u60, u99, u100, u240, u9999, ite01z, not_true_eq_false, not_false_eq_true, if_true, if_false, z10, eq_true q1, eq_false q2, ↓q_isHouse D, ↓q_isGang D, ↓m_refuse hL, ↓m_no hL, ↓m_r4 D.1, ↓m_r5 D.1, ↓m_r6 D.1, ↓m_r7 D.1, ↓m_r20 D.1, ↓m_r21 D.1, ↓m_r22 D.1, ↓m_r27 D.1, ↓m_r28 D.1, ↓m_r29 D.1, ↓m_r31 D.1, ↓m_r32 D.1, ↓m_r35 D.1, ↓m_ck D.1, ↓m_c0 D, ↓m_c1 D, ↓m_c2 D, ↓m_c3 D, ↓m_c4 D, ↓m_c D, i2, i3, i4, i5, i13, i21, i29, i37, i45, i53, i61, i69, i133, i137, i141, i145, i149, i153, i157, i161, i167, i4m, i6m, i8m, i9m, i18m, i60m, i256m, i450m, nI_add, ↓nmI_s, ↓bd_s, ↓bv_s, nI_1, ↓reduceIte, f_X12_help_26]
        rfl
  · refine ⟨-1, sI M 0 0 2, _, ?_, ?_, RR_st hR 2⟩
    · unfold f_X11_help
      simp (disch := omega) only [↓c_ck hL, ↓c_gI hL, ↓c_sh hL, ↓c_answer hL, ↓c_none hL, ↓c_no hL, ↓c_yes hL, ↓c_isHouse hL S, ↓c_isGang hL S, ↓q_within, ↓bd_s, ↓bv_s, ↓nmI_s, nI_1, ↓reduceIte, ite01z, not_true_eq_false, not_false_eq_true, if_true, if_false, z10, eq_false q1, f_X11_help_16]
    · have D := pre_md hL 2
      unfold f_X12_help
      rw [m_pre hL]
      simp (disch := omega) only [↓q_isIn, j0, j1, u1, u3, u4, u5, u8, u9, u20, u60, u99, u100, u240, u9999, ite01z, not_true_eq_false, not_false_eq_true, if_true, if_false, z10, eq_false q1, ↓q_isHouse D, ↓q_isGang D, ↓m_refuse hL, ↓m_no hL, ↓m_r4 D.1, ↓m_r5 D.1, ↓m_r6 D.1, ↓m_r7 D.1, ↓m_r20 D.1, ↓m_r21 D.1, ↓m_r22 D.1, ↓m_r27 D.1, ↓m_r28 D.1, ↓m_r29 D.1, ↓m_r31 D.1, ↓m_r32 D.1, ↓m_r35 D.1, ↓m_ck D.1, ↓m_c0 D, ↓m_c1 D, ↓m_c2 D, ↓m_c3 D, ↓m_c4 D, ↓m_c D, i2, i3, i4, i5, i13, i21, i29, i37, i45, i53, i61, i69, i133, i137, i141, i145, i149, i153, i157, i161, i167, i4m, i6m, i8m, i9m, i18m, i60m, i256m, i450m, nI_add, ↓nmI_s, ↓bd_s, ↓bv_s, nI_1, ↓reduceIte, f_X12_help_26]
      rfl
