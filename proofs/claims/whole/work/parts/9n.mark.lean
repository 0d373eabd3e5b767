/-! MARKS: the two calls -/
def oth (x : Nat) : Prop := (1 ≤ x ∧ x < 12) ∨ (86 ≤ x ∧ x < 96) ∨ (208 ≤ x ∧ x < 212) ∨ x = 218 ∨ x = 220
theorem rNm_move {M M' : Mm} {a a' j j' : Nat} {c c' : Nat → Int32} (h : rNm M a j c) (O : okC c) (e : ∀ k, k < 5 → c' k = c k) (hh : ∀ h, h < hN c → mL M' (a' + 13 + h) 0 = mL M (a + 13 + h) 0) (hg : ∀ g, g < gN c → mL M' (a' + 21 + g) 0 = mL M (a + 21 + g) 0) (hw : ∀ w, w < wN c → mL M' (a' + 25 + w) 0 = mL M (a + 25 + w) 0) (hn : ∀ k, k < 18 → mL M' 214 (18 * j' + k) = mL M 214 (18 * j + k)) : rNm M' a' j' c' := by
  have h8 := (ok_h O).2
  have g4 := (ok_g O).2
  have w6 := (ok_w O).2
  obtain ⟨h9, h1, h2, h3⟩ := h
  unfold rNm
  rw [show na c' 4 = na c 4 from na_same (e 4 (by omega)), show hN c' = hN c from na_same (e 0 (by omega)), show gN c' = gN c from na_same (e 1 (by omega)), show wN c' = wN c from na_same (e 2 (by omega))]
  refine ⟨h9, fun i hi => ?_, fun i hi => ?_, fun i hi => ?_⟩
  · rw [hh i hi, hn i (by omega)]; exact h1 i hi
  · rw [hg i hi, show 18 * j' + 8 + i = 18 * j' + (8 + i) by omega, hn (8 + i) (by omega), ← Nat.add_assoc]; exact h2 i hi
  · rw [hw i hi, show 18 * j' + 12 + i = 18 * j' + (12 + i) by omega, hn (12 + i) (by omega), ← Nat.add_assoc]; exact h3 i hi
theorem RA_mk {M M' : Mm} {a b y z : Nat} (H : RA M a b y z) (hLL : LL M' a b y z) (hI : ∀ x, oth x → mI M' x = mI M x) (hL : ∀ x, oth x ∨ x = 0 ∨ x = 207 → mL M' x = mL M x) (h0 : ∀ k, k ≠ 0 → k ≠ 13 → mI M' 0 k = mI M 0 k) (h7 : ∀ k, k = 8 ∨ k = 10 ∨ k = 11 ∨ k = 30 ∨ k = 33 ∨ k = 36 → mI M' 207 k = mI M 207 k) (hs : mI M' 0 0 = mI M' 207 0) (S : shO M' a (mI M' 212)) (hN : rNm M' a 0 (mI M' 212)) (hY : rYr M' y (mI M' 212)) (hM : rMk M') : RA M' a b y z := by
  obtain ⟨-, -, -, -, h1, h2, h3, h4, -, -, h7', h8⟩ := H
  have e : ∀ x, (1 ≤ x ∧ x < 12) ∨ (86 ≤ x ∧ x < 96) ∨ (208 ≤ x ∧ x < 212) ∨ x = 218 ∨ x = 220 → mI M' x = mI M x := hI
  have f : ∀ x, ((1 ≤ x ∧ x < 12) ∨ (86 ≤ x ∧ x < 96) ∨ (208 ≤ x ∧ x < 212) ∨ x = 218 ∨ x = 220) ∨ x = 0 ∨ x = 207 → mL M' x = mL M x := hL
  refine ⟨hLL, S, hN, hs, ?_, ?_, ?_, ?_, hY, hM, ?_, ?_⟩
  · unfold rFr at *; rw [f 0 (by omega), f 207 (by omega)]; exact h1
  · unfold rFa at *; rw [h0 3 (by omega) (by omega), h0 4 (by omega) (by omega), h7 10 (by omega), h7 11 (by omega)]; exact h2
  · unfold rTp at *; rw [f 3 (by omega), e 1 (by omega), e 2 (by omega), e 211 (by omega), h7 8 (by omega)]; exact h3
  · unfold rTy at *
    intro t ht
    rw [f (6 + t) (by omega), f 210 (by omega), e 11 (by omega), e 10 (by omega), e 209 (by omega), e 208 (by omega)]
    exact h4 t ht
  · unfold rPl at *; rw [h0 15 (by omega) (by omega), h7 30 (by omega), h7 33 (by omega), e 88 (by omega), e 89 (by omega), e 218 (by omega)]; exact h7'
  · unfold rLi at *; rw [h0 18 (by omega) (by omega), h7 36 (by omega), e 92 (by omega), e 220 (by omega)]; exact h8
theorem shO_mv {M M' : Mm} {a : Nat} {c c' : Nat → Int32} (S : shO M a c) (hK : mK M' = mK M) (hR : mR M' = mR M) (hI : ∀ x, a ≤ x → x < a + 31 → mI M' x = mI M x) (e : ∀ k, k < 173 → c' k = c k) : shO M' a c' := shO_cong (shO_same S hK hR hI) e
theorem rYr_z {M : Mm} {y : Nat} {c : Nat → Int32} (h : rYr M y c) : mI M y 0 = 0 ∨ mI M y 0 = 1 := by
  rw [h.1]
  rcases h.2 with q | q
  · exact Or.inl q
  · exact Or.inr q.1
theorem blk_s {c : Nat → Int32} {i j k : Nat} (hk : k < 450) : blk c i j (450 * j + k) = c (450 * i + k) := by
  unfold blk
  rw [if_pos (by omega)]
  exact congrArg c (by omega)
theorem blk_n {c : Nat → Int32} {i j j2 k : Nat} (hk : k < 450) (h : j2 ≠ j) : blk c i j (450 * j2 + k) = c (450 * j2 + k) := if_neg (by omega)
theorem blkL_s {c : Nat → Int64} {i j k : Nat} (hk : k < 18) : blkL c i j (18 * j + k) = c (18 * i + k) := by
  unfold blkL
  rw [if_pos (by omega)]
  exact congrArg c (by omega)
theorem blkL_n {c : Nat → Int64} {i j j2 k : Nat} (hk : k < 18) (h : j2 ≠ j) : blkL c i j (18 * j2 + k) = c (18 * j2 + k) := if_neg (by omega)
/-- the reference's marking and going back, as memories -/
def mkS (M : Mm) (i j n : Nat) : Mm := sAL (sA (sI (pre M 0) 207 23 (nI n)) 212 (blk (mI M 212) i j)) 214 (blkL (mL M 214) i j)
theorem mkS_f {M : Mm} {i j n : Nat} : mK (mkS M i j n) = mK M ∧ mR (mkS M i j n) = mR M ∧ mT (mkS M i j n) = mT M ∧ (∀ x, x ≠ 0 → x ≠ 207 → x ≠ 212 → mI (mkS M i j n) x = mI M x) ∧ (∀ x, x ≠ 214 → mL (mkS M i j n) x = mL M x) ∧ mI (mkS M i j n) 212 = blk (mI M 212) i j ∧ mL (mkS M i j n) 214 = blkL (mL M 214) i j ∧ (∀ k, k ≠ 0 → mI (mkS M i j n) 0 k = mI M 0 k) ∧ mI (mkS M i j n) 0 0 = 0 ∧ mI (mkS M i j n) 207 0 = 0 ∧ mI (mkS M i j n) 207 23 = nI n ∧ ∀ k, k ≠ 0 → k ≠ 1 → k ≠ 23 → mI (mkS M i j n) 207 k = mI M 207 k := by
  have e1 : ∀ x, x ≠ 212 → mI (mkS M i j n) x = mI (sI (pre M 0) 207 23 (nI n)) x := fun x hx => mI_sA_o _ _ hx
  refine ⟨rfl, rfl, rfl, fun x h0 h7 h2 => ?_, fun x hx => mL_sAL_o _ _ hx, ?_, ?_, fun k hk => ?_, ?_, ?_, ?_, fun k h0 h1 h2 => ?_⟩
  · rw [e1 x h2, mI_o h7, pre_o h0 h7]
  · exact mI_sA_s (sI (pre M 0) 207 23 (nI n)) 212 (blk (mI M 212) i j)
  · exact mL_sAL_s (sA (sI (pre M 0) 207 23 (nI n)) 212 (blk (mI M 212) i j)) 214 (blkL (mL M 214) i j)
  · rw [e1 0 (by decide), mI_o (by decide)]
    unfold pre
    rw [mI_o (by decide), mI_o (by decide), mI_f hk]
  · rw [e1 0 (by decide), mI_o (by decide)]
    unfold pre
    rw [mI_o (by decide), mI_o (by decide), mI_sI_s]
  · rw [e1 207 (by decide), mI_f (by decide)]
    unfold pre
    rw [mI_sI_s]
  · rw [e1 207 (by decide), mI_sI_s]
  · rw [e1 207 (by decide), mI_f h2, pre_7 h0 h1]
theorem op_mark : opI (fun M => f_X11_mark M (some 0)) (fun M => f_X12_mark M (some 207)) := by
  intro M hR
  dsimp only
  obtain ⟨a, b, y, z, H⟩ := id hR
  have hL := H.1
  have S := H.2.1
  have O := S.2.2
  have h8 := (ok_h O).2
  have g4 := (ok_g O).2
  have w6 := (ok_w O).2
  have ha := ll_a hL
  have hy := ll_y hL
  obtain ⟨n, n3, e1, e2, hm⟩ := H.2.2.2.2.2.2.2.2.2.1
  by_cases q : n = 3
  · refine ⟨-1, sI M 0 0 7, _, ?_, ?_, RR_st hR 7⟩
    · unfold f_X11_mark
      rw [c_gI hL, e1, q, if_neg (by decide), c_ck hL, c_none hL, bd_s]
    · unfold f_X12_mark
      rw [m_pre hL, m_gI (M := pre M 7) hL.2.2.1, pre_7 (by decide) (by decide), e2, q, if_pos (by decide), m_ck (M := pre M 7) hL.2.2.1, m_refuse hL, bd_s]
      rfl
  · have n2 : n < 3 := by omega
    have hX := hL.1.2.2.2.1.2.2.1 n n2
    obtain ⟨M1, k1, S1, F1, N1, N2, N3⟩ := p_copy S hX.1 (by omega)
    have hL1 := LL_same hL F1.1 F1.2.1 F1.2.2.1
    have ey : ∀ x, y ≤ x → x < y + 6 → mI M1 x = mI M x := fun x h1 h2 => (F1.2.2.2 x (by omega)).1
    have Y1 : rYr M1 y (mI M 212) := rYr_same ey rfl rfl (fun _ _ => rfl) H.2.2.2.2.2.2.2.2.1
    obtain ⟨M2, k2, ⟨fK, fR, fT, fL⟩, fI, f3, f5⟩ := p_ycopy (M := M1) (x := 127 + 37 * n) (y := y) (hL1.1.2.2.2.1.2.2.1 n n2).2 (ll_yy hL1) (by omega) (rYr_z Y1)
    have hL2 := LL_same hL1 fK fR fT
    have e0 : mI M2 0 = mI M 0 := by rw [fI 0 (by omega), (F1.2.2.2 0 (by omega)).1]
    have oI : ∀ x, x < 96 + 37 * n ∨ 133 + 37 * n ≤ x → mI M2 x = mI M x := fun x hx => by rw [fI x (by omega), (F1.2.2.2 x (by omega)).1]
    have oL : ∀ x, x < 96 + 37 * n ∨ 127 + 37 * n ≤ x → mL M2 x = mL M x := fun x hx => by rw [fL, (F1.2.2.2 x (by omega)).2]
    have sL' : ∀ x, 96 + 37 * n ≤ x → x < 127 + 37 * n → mI M2 x = mI M1 x := fun x h1 h2 => fI x (by omega)
    obtain ⟨M3, hM3⟩ : ∃ M3, sI M2 0 13 (nI (n + 1)) = M3 := ⟨_, rfl⟩
    have g1 : mK M3 = mK M2 ∧ mR M3 = mR M2 ∧ mT M3 = mT M2 ∧ mL M3 = mL M2 := by rw [← hM3]; exact ⟨rfl, rfl, rfl, rfl⟩
    have g2 : ∀ x, x ≠ 0 → mI M3 x = mI M2 x := fun x hx => by rw [← hM3]; exact mI_o hx
    have g3 : ∀ k, k ≠ 13 → mI M3 0 k = mI M 0 k := fun k hk => by rw [← hM3, mI_f hk, e0]
    have g4' : mI M3 0 13 = nI (n + 1) := by rw [← hM3, mI_sI_s]
    have hL3 := LL_same hL2 g1.1 g1.2.1 g1.2.2.1
    have e212 : mI M3 212 = mI M 212 := by rw [g2 212 (by decide), oI 212 (by omega)]
    have e214 : mL M3 214 = mL M 214 := by rw [g1.2.2.2, oL 214 (by omega)]
    obtain ⟨zK, zR, zT, zI, zL, z2, z4, z0, z00, z70, z23, z7⟩ := mkS_f (M := M3) (i := 0) (j := n + 1) (n := n + 1)
    refine ⟨nI (n + 1), sI M3 0 0 0, mkS M3 0 (n + 1) (n + 1), ?_, ?_, ⟨a, b, y, z, ?_⟩⟩
    · unfold f_X11_mark
      rw [c_gI hL, e1, if_pos (by rw [show (3 : Int32) = nI 3 from rfl]; exact (nI_ltI' (by omega) (by omega)).mpr n2), c_ms hL, c_gI hL, e1, alR_s hL.1.2.2.2.2.1.1 n2 (by decide), (hL.1.2.2.2.2.1.2.2 n n2).1, c_sh hL, ck_s (by rw [hX.1.1]), k1, bv_s, c_my hL1, c_gI hL1, (F1.2.2.2 0 (by omega)).1, e1, alR_s hL1.1.2.2.2.2.1.2.1 n2 (by decide), (hL1.1.2.2.2.2.1.2.2 n n2).2, c_yr hL1, ck_s (by rw [(hL1.1.2.2.2.1.2.2.1 n n2).2.1]), k2, bv_s, c_gI hL2, e0, e1, c_pI hL2, nI_1, hM3, c_gI hL3, g4', c_ck hL3, c_answer hL3, bd_s]
    · have D := pre_md hL3 0
      have D1 : mdL (sI (pre M3 0) 207 23 (nI (n + 1))) := D.1
      have e23 : mI M3 207 23 = nI n := by rw [g2 207 (by decide), oI 207 (by omega), e2]
      have ec : f_X12_copy (sI (pre M3 0) 207 23 (nI (n + 1))) (some 207) (nI 0) (nI (n + 1)) = some (mkS M3 0 (n + 1) (n + 1)) := by
        rw [q_copy (c := mI M3 212) ⟨D1, by rw [mI_o (by decide), pre_o (by decide) (by decide)]⟩ (by omega) (by omega) (by omega)]
        rfl
      unfold f_X12_mark
      rw [m_pre hL3, m_gI (M := pre M3 0) D.1, pre_7 (by decide) (by decide), e23, if_neg (by rw [show (3 : Int32) = nI 3 from rfl, nI_inj (by omega) (by omega)]; exact q), m_gI (M := pre M3 0) D.1, pre_7 (by decide) (by decide), e23, m_pI (M := pre M3 0) D.1, nI_1, m_gI D1, mI_sI_s, m_ck D1]
      rw [show f_X12_copy (sI (pre M3 0) 207 23 (nI (n + 1))) (some 207) 0 (nI (n + 1)) = some (mkS M3 0 (n + 1) (n + 1)) from ec, bv_s, m_gI (LL_same hL3 zK zR zT).2.2.1, z23]
    · have hLz := LL_same hL3 zK zR zT
      have eM : mK (mkS M3 0 (n + 1) (n + 1)) = mK M := by rw [zK, g1.1, fK, F1.1]
      have eR : mR (mkS M3 0 (n + 1) (n + 1)) = mR M := by rw [zR, g1.2.1, fR, F1.2.1]
      have eI : ∀ x, x ≠ 0 → x ≠ 207 → x ≠ 212 → x < 96 + 37 * n ∨ 133 + 37 * n ≤ x → mI (mkS M3 0 (n + 1) (n + 1)) x = mI M x := fun x h0 h7 h2 hx => by rw [zI x h0 h7 h2, g2 x h0, oI x hx]
      have eL : ∀ x, x ≠ 214 → x < 96 + 37 * n ∨ 127 + 37 * n ≤ x → mL (mkS M3 0 (n + 1) (n + 1)) x = mL M x := fun x h4 hx => by rw [zL x h4, g1.2.2.2, oL x hx]
      have c0 : ∀ k, k < 450 → mI (mkS M3 0 (n + 1) (n + 1)) 212 k = mI M 212 k := fun k hk => by
        have := blk_n (c := mI M 212) (i := 0) (j := n + 1) (j2 := 0) hk (by omega)
        rw [Nat.mul_zero, Nat.zero_add] at this
        rw [z2, e212, this]
      have w0 : ∀ k, k < 18 → mL (mkS M3 0 (n + 1) (n + 1)) 214 (18 * 0 + k) = mL M 214 (18 * 0 + k) := fun k hk => by rw [z4, e214, blkL_n hk (by omega)]
      refine RA_mk H hLz (fun x hx => ?_) (fun x hx => ?_) (fun k k0 k13 => by rw [z0 k k0, g3 k k13]) (fun k hk => by rw [z7 k (by omega) (by omega) (by omega), g2 207 (by decide), oI 207 (by omega)]) (by rw [z00, z70]) ?_ ?_ ?_ ⟨n + 1, by omega, by rw [z0 13 (by decide), g4'], z23, fun i hi => ?_⟩
      · unfold oth at hx
        exact eI x (by omega) (by omega) (by omega) (by omega)
      · unfold oth at hx
        exact eL x (by omega) (by omega)
      · exact shO_mv S eM eR (fun x h1 h2 => eI x (by omega) (by omega) (by omega) (by omega)) fun k hk => c0 k (by omega)
      · exact rNm_move H.2.2.1 O (fun k hk => c0 k (by omega)) (fun i hi => by rw [eL _ (by omega) (by omega)]) (fun i hi => by rw [eL _ (by omega) (by omega)]) (fun i hi => by rw [eL _ (by omega) (by omega)]) w0
      · exact rYr_move (fun f hf => by rw [eI y (by omega) (by omega) (by omega) (by omega)]) (fun j h1 h2 k hk => by rw [eI (y + j) (by omega) (by omega) (by omega) (by omega)]) (c0 0 (by omega)) (c0 1 (by omega)) (fun k h1 h2 => c0 k h2) H.2.2.2.2.2.2.2.2.1
      · by_cases qi : i = n
        · subst qi
          have ci : ∀ k, k < 450 → cb (mkS M3 0 (i + 1) (i + 1)) (i + 1) k = mI M 212 k := fun k hk => by
            have := blk_s (c := mI M 212) (i := 0) (j := i + 1) hk
            rw [Nat.mul_zero, Nat.zero_add] at this
            unfold cb
            rw [z2, e212, this]
          refine ⟨shO_mv S1 (by rw [zK, g1.1, fK]) (by rw [zR, g1.2.1, fR]) (fun x h1 h2 => by rw [zI x (by omega) (by omega) (by omega), g2 x (by omega), sL' x (by omega) (by omega)]) fun k hk => ci k (by omega), ?_, ?_⟩
          · refine rNm_move H.2.2.1 O (fun k hk => ci k (by omega)) (fun h hh => by rw [zL _ (by omega), g1.2.2.2, fL, N1 h hh]) (fun h hh => by rw [zL _ (by omega), g1.2.2.2, fL, N2 h hh]) (fun h hh => by rw [zL _ (by omega), g1.2.2.2, fL, N3 h hh]) fun k hk => ?_
            rw [z4, e214, blkL_s hk]
          · refine rYr_move (fun f hf => ?_) (fun j h1 h2 k hk => ?_) (ci 0 (by omega)) (ci 1 (by omega)) (fun k h1 h2 => ci k h2) Y1
            · rw [zI _ (by omega) (by omega) (by omega), g2 _ (by omega), f3 f hf]
            · rw [zI _ (by omega) (by omega) (by omega), g2 _ (by omega), f5 j h1 h2 k hk]
        · obtain ⟨m1, m2, m3⟩ := hm i (by omega)
          have ci : ∀ k, k < 450 → cb (mkS M3 0 (n + 1) (n + 1)) (i + 1) k = cb M (i + 1) k := fun k hk => by
            unfold cb
            rw [z2, e212, blk_n hk (by omega)]
          have h8 := (ok_h m1.2.2).2
          have g4 := (ok_g m1.2.2).2
          have w6 := (ok_w m1.2.2).2
          refine ⟨shO_mv m1 eM eR (fun x h1 h2 => eI x (by omega) (by omega) (by omega) (by omega)) fun k hk => ci k (by omega), ?_, ?_⟩
          · refine rNm_move m2 m1.2.2 (fun k hk => ci k (by omega)) (fun h hh => by rw [eL _ (by omega) (by omega)]) (fun h hh => by rw [eL _ (by omega) (by omega)]) (fun h hh => by rw [eL _ (by omega) (by omega)]) fun k hk => ?_
            rw [z4, e214, blkL_n hk (by omega)]
          · exact rYr_move (fun f hf => by rw [eI _ (by omega) (by omega) (by omega) (by omega)]) (fun j h1 h2 k hk => by rw [eI _ (by omega) (by omega) (by omega) (by omega)]) (ci 0 (by omega)) (ci 1 (by omega)) (fun k h1 h2 => ci k h2) m3
