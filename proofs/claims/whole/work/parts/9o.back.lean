/-! MARKS: going back -/
theorem bkS_f {X : Mm} {v : Int32} : mK (sI X 207 23 v) = mK X ∧ mR (sI X 207 23 v) = mR X ∧ mT (sI X 207 23 v) = mT X ∧ (∀ x, x ≠ 207 → mI (sI X 207 23 v) x = mI X x) ∧ mL (sI X 207 23 v) = mL X ∧ mI (sI X 207 23 v) 207 23 = v ∧ ∀ k, k ≠ 23 → mI (sI X 207 23 v) 207 k = mI X 207 k :=
  ⟨rfl, rfl, rfl, fun x hx => mI_o hx, rfl, mI_sI_s _ _ _ _, fun k hk => mI_f hk⟩
theorem sI_id (M : Mm) (a k : Nat) : sI M a k (mI M a k) = M := by
  rw [sI_sA]
  have e : upd (mI M a) k (mI M a k) = mI M a := by
    funext q
    unfold upd
    by_cases h : q = k
    · rw [h, if_pos rfl]
    · rw [if_neg h]
  rw [e]
  exact sA_self _ _
theorem bk_copy {M : Mm} {a b y z m : Nat} (hL : LL M a b y z) (e2 : mI M 207 23 = nI (m + 1)) (m3 : m < 3) : f_X12_copy (pre M 0) (some 207) (nI (m + 1)) 0 = some (mkS M (m + 1) 0 (m + 1)) := by
  have D := pre_md hL 0
  have ep : sI (pre M 0) 207 23 (nI (m + 1)) = pre M 0 := by
    have : mI (pre M 0) 207 23 = nI (m + 1) := by rw [pre_7 (by decide) (by decide), e2]
    rw [← this]
    exact sI_id _ _ _
  have e12 : mI (pre M 0) 212 = mI M 212 := pre_o (by decide) (by decide)
  have eL : mL (pre M 0) = mL M := rfl
  unfold mkS
  rw [ep]
  generalize pre M 0 = N at *
  have h := q_copy (M := N) (c := mI M 212) (i := m + 1) (j := 0) ⟨D.1, e12⟩ (by omega) (by omega) (by omega)
  rw [eL] at h
  exact h
theorem m_back {M X : Mm} {a b y z m : Nat} (hL : LL M a b y z) (e23 : mI M 207 23 = nI (m + 1)) (m3 : m < 3) (ec : f_X12_copy (pre M 0) (some 207) (nI (m + 1)) 0 = some X) (Dz : mdL X) (z23 : mI X 207 23 = nI (m + 1)) : f_X12_back (sI M 0 0 0) (some 207) = some (nI m, sI X 207 23 (nI m)) := by
  have D1 : mdL (pre M 0) := (pre_md hL 0).1
  have e7 : mI (pre M 0) 207 23 = nI (m + 1) := by rw [pre_7 (by decide) (by decide), e23]
  have q : ¬ nI (m + 1) = 0 := by rw [nI_z (by omega)]; omega
  have em : nI (m + 1) - 1 = nI m := nI_pred m
  have D2 : mdL (sI X 207 23 (nI m)) := (md_sI ⟨Dz, rfl⟩ (by decide)).1
  have e3 : mI (sI X 207 23 (nI m)) 207 23 = nI m := mI_sI_s _ _ _ _
  generalize hv : nI (m + 1) = v at *
  generalize hw : nI m = w at *
  unfold f_X12_back
  rw [m_pre hL]
  generalize pre M 0 = N at *
  rw [m_gI D1, e7, if_neg q, m_gI D1, e7, m_ck D1, ec, bv_s, m_gI Dz, z23, m_pI Dz, em, m_gI D2, e3]
theorem op_back : opI (fun M => f_X11_back M (some 0)) (fun M => f_X12_back M (some 207)) := by
  intro M hR
  dsimp only
  obtain ⟨a, b, y, z, H⟩ := id hR
  have hL := H.1
  have ha := ll_a hL
  have hy := ll_y hL
  obtain ⟨n, n3, e1, e2, hm⟩ := H.2.2.2.2.2.2.2.2.2.1
  by_cases q : n = 0
  · refine ⟨-1, sI M 0 0 8, _, ?_, ?_, RR_st hR 8⟩
    · unfold f_X11_back
      rw [c_gI hL, e1, q, if_neg (by decide), c_ck hL, c_none hL, bd_s]
    · unfold f_X12_back
      rw [m_pre hL, m_gI (M := pre M 8) hL.2.2.1, pre_7 (by decide) (by decide), e2, q, if_pos (by decide), m_ck (M := pre M 8) hL.2.2.1, m_refuse hL, bd_s]
      rfl
  · obtain ⟨m, rfl⟩ : ∃ m, n = m + 1 := ⟨n - 1, by omega⟩
    obtain ⟨S, hN, hY⟩ := hm m (by omega)
    have O := S.2.2
    have h8 := (ok_h O).2
    have g4 := (ok_g O).2
    have w6 := (ok_w O).2
    have m3 : m < 3 := by omega
    have em := nI_pred m
    obtain ⟨M0, hM0⟩ : ∃ M0, sI M 0 13 (nI m) = M0 := ⟨_, rfl⟩
    have g1 : mK M0 = mK M ∧ mR M0 = mR M ∧ mT M0 = mT M ∧ mL M0 = mL M := by rw [← hM0]; exact ⟨rfl, rfl, rfl, rfl⟩
    have g2 : ∀ x, x ≠ 0 → mI M0 x = mI M x := fun x hx => by rw [← hM0]; exact mI_o hx
    have g3 : ∀ k, k ≠ 13 → mI M0 0 k = mI M 0 k := fun k hk => by rw [← hM0, mI_f hk]
    have g4' : mI M0 0 13 = nI m := by rw [← hM0, mI_sI_s]
    have hL0 := LL_same hL g1.1 g1.2.1 g1.2.2.1
    have S0 : shO M0 (96 + 37 * m) (cb M (m + 1)) := shO_same S g1.1 g1.2.1 fun x h1 h2 => g2 x (by omega)
    obtain ⟨M1, k1, S1, F1, N1, N2, N3⟩ := p_copy S0 (ll_sa hL0) (by omega)
    have hL1 := LL_same hL0 F1.1 F1.2.1 F1.2.2.1
    have hY0 : rYr M0 (127 + 37 * m) (cb M (m + 1)) := rYr_same (fun x h1 h2 => g2 x (by omega)) rfl rfl (fun _ _ => rfl) hY
    have Y1 : rYr M1 (127 + 37 * m) (cb M (m + 1)) := rYr_same (fun x h1 h2 => (F1.2.2.2 x (by omega)).1) rfl rfl (fun _ _ => rfl) hY0
    obtain ⟨M2, k2, ⟨fK, fR, fT, fL⟩, fI, f3, f5⟩ := p_ycopy (M := M1) (x := y) (y := 127 + 37 * m) (ll_yy hL1) (hL1.1.2.2.2.1.2.2.1 m m3).2 (by omega) (rYr_z Y1)
    have hL2 := LL_same hL1 fK fR fT
    have e0 : mI M2 0 = mI M0 0 := by rw [fI 0 (by omega), (F1.2.2.2 0 (by omega)).1]
    have oI : ∀ x, x ≠ 0 → (x < a ∨ a + 31 ≤ x) → (x < y ∨ y + 6 ≤ x) → mI M2 x = mI M x := fun x h0 hx hx2 => by rw [fI x (by omega), (F1.2.2.2 x (by omega)).1, g2 x h0]
    have oL : ∀ x, x < a ∨ a + 31 ≤ x → mL M2 x = mL M x := fun x hx => by rw [fL, (F1.2.2.2 x (by omega)).2, g1.2.2.2]
    have e212 : mI M2 212 = mI M 212 := oI 212 (by omega) (by omega) (by omega)
    have e214 : mL M2 214 = mL M 214 := oL 214 (by omega)
    obtain ⟨zK, zR, zT, zI, zL, z2, z4, z0, z00, z70, z23, z7⟩ := mkS_f (M := M2) (i := m + 1) (j := 0) (n := m + 1)
    have e23 : mI M2 207 23 = nI (m + 1) := by rw [oI 207 (by omega) (by omega) (by omega), e2]
    have ec := bk_copy hL2 e23 m3
    have D := pre_md hL2 0
    have Dz := (LL_same hL2 zK zR zT).2.2.1
    have hLy := LL_same hL2 zK zR zT
    generalize mkS M2 (m + 1) 0 (m + 1) = X at ec zK zR zT zI zL z2 z4 z0 z00 z70 z23 z7 Dz hLy
    obtain ⟨xK, xR, xT, xI, xL, x23, x7⟩ := bkS_f (X := X) (v := nI m)
    refine ⟨nI m, sI M2 0 0 0, sI (X) 207 23 (nI m), ?_, ?_, ⟨a, b, y, z, ?_⟩⟩
    · unfold f_X11_back
      rw [c_gI hL, e1, if_pos (by rw [show (0 : Int32) = nI 0 from rfl]; exact (nI_ltI' (by omega) (by omega)).mpr (by omega)), c_gI hL, e1, c_pI hL, em, hM0, c_sh hL0, c_ms hL0, c_gI hL0, g4', alR_s hL0.1.2.2.2.2.1.1 m3 (by decide), (hL0.1.2.2.2.2.1.2.2 m m3).1, ck_s (by rw [(ll_sa hL0).1]), k1, bv_s, c_yr hL1, c_my hL1, c_gI hL1, (F1.2.2.2 0 (by omega)).1, g4', alR_s hL1.1.2.2.2.2.1.2.1 m3 (by decide), (hL1.1.2.2.2.2.1.2.2 m m3).2, ck_s (by rw [(ll_yy hL1).1]), k2, bv_s, c_gI hL2, e0, g4', c_ck hL2, c_answer hL2, bd_s]
    · exact m_back hL2 e23 m3 ec Dz z23
    · have hLz := LL_same hLy xK xR xT
      generalize sI (X) 207 23 (nI m) = Z at xK xR xT xI xL x23 x7 hLz ⊢
      have eM : mK Z = mK M := by rw [xK, zK, fK, F1.1, g1.1]
      have eR : mR Z = mR M := by rw [xR, zR, fR, F1.2.1, g1.2.1]
      have eI : ∀ x, x ≠ 0 → x ≠ 207 → x ≠ 212 → (x < a ∨ a + 31 ≤ x) → (x < y ∨ y + 6 ≤ x) → mI Z x = mI M x := fun x h0 h7 h2 h3 h4 => by rw [xI x h7, zI x h0 h7 h2, oI x h0 h3 h4]
      have eL : ∀ x, x ≠ 214 → (x < a ∨ a + 31 ≤ x) → mL Z x = mL M x := fun x h4 hx => by rw [xL, zL x h4, oL x hx]
      have eS : ∀ x, a ≤ x → x < a + 31 → mI Z x = mI M1 x := fun x h1 h2 => by rw [xI x (by omega), zI x (by omega) (by omega) (by omega), fI x (by omega)]
      have c0 : ∀ k, k < 450 → mI Z 212 k = cb M (m + 1) k := fun k hk => by
        have := blk_s (c := mI M 212) (i := m + 1) (j := 0) hk
        rw [Nat.mul_zero, Nat.zero_add] at this
        rw [xI 212 (by decide), z2, e212, this]
        rfl
      have w0 : ∀ k, k < 18 → mL Z 214 (18 * 0 + k) = mL M 214 (18 * (m + 1) + k) := fun k hk => by rw [xL, z4, e214, blkL_s hk]
      refine RA_mk H hLz (fun x hx => ?_) (fun x hx => ?_) (fun k k0 k13 => by rw [xI 0 (by decide), z0 k k0, e0, g3 k k13]) (fun k hk => by rw [x7 k (by omega), z7 k (by omega) (by omega) (by omega), oI 207 (by omega) (by omega) (by omega)]) (by rw [xI 0 (by decide), z00, x7 0 (by decide), z70]) ?_ ?_ ?_ ⟨m, by omega, by rw [xI 0 (by decide), z0 13 (by decide), e0, g4'], x23, fun i hi => ?_⟩
      · unfold oth at hx
        exact eI x (by omega) (by omega) (by omega) (by omega) (by omega)
      · unfold oth at hx
        exact eL x (by omega) (by omega)
      · exact shO_mv S1 (by rw [xK, zK, fK]) (by rw [xR, zR, fR]) eS fun k hk => c0 k (by omega)
      · exact rNm_move hN O (fun k hk => c0 k (by omega)) (fun i hi => by rw [xL, zL _ (by omega), fL, N1 i hi, g1.2.2.2]) (fun i hi => by rw [xL, zL _ (by omega), fL, N2 i hi, g1.2.2.2]) (fun i hi => by rw [xL, zL _ (by omega), fL, N3 i hi, g1.2.2.2]) w0
      · refine rYr_move (fun f hf => ?_) (fun j h1 h2 k hk => ?_) (c0 0 (by omega)) (c0 1 (by omega)) (fun k h1 h2 => c0 k h2) Y1
        · rw [xI _ (by omega), zI _ (by omega) (by omega) (by omega), f3 f hf]
        · rw [xI _ (by omega), zI _ (by omega) (by omega) (by omega), f5 j h1 h2 k hk]
      · obtain ⟨m1, m2, m3⟩ := hm i (by omega)
        have ci : ∀ k, k < 450 → cb Z (i + 1) k = cb M (i + 1) k := fun k hk => by
          unfold cb
          rw [xI 212 (by decide), z2, e212, blk_n hk (by omega)]
        have h8 := (ok_h m1.2.2).2
        have g4 := (ok_g m1.2.2).2
        have w6 := (ok_w m1.2.2).2
        refine ⟨shO_mv m1 eM eR (fun x h1 h2 => eI x (by omega) (by omega) (by omega) (by omega) (by omega)) fun k hk => ci k (by omega), ?_, ?_⟩
        · refine rNm_move m2 m1.2.2 (fun k hk => ci k (by omega)) (fun h hh => by rw [eL _ (by omega) (by omega)]) (fun h hh => by rw [eL _ (by omega) (by omega)]) (fun h hh => by rw [eL _ (by omega) (by omega)]) fun k hk => ?_
          rw [xL, z4, e214, blkL_n hk (by omega)]
        · exact rYr_move (fun f hf => by rw [eI _ (by omega) (by omega) (by omega) (by omega) (by omega)]) (fun j h1 h2 k hk => by rw [eI _ (by omega) (by omega) (by omega) (by omega) (by omega)]) (ci 0 (by omega)) (ci 1 (by omega)) (fun k h1 h2 => ci k h2) m3
