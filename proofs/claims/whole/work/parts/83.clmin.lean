/-! THE CLASS'S MINUTE is the reference's -/
section W
variable {ρ : Type} {M : Mm} {a : Nat} {e : Nat → Int32}
theorem pw_pieceMin (W : shW M a e) {g h : Nat} (hg : g < gN e) (hh : h < hN e) (g4 : g < 4) (h8 : h < 8) (hb : bdd e (137 + g) 1 40) : f_X0_pieceMinutes M (some (a + 21 + g)) (some (a + 13 + h)) = some (takes e g h, M) := by
  obtain ⟨e1, e2, e3⟩ := hb
  unfold f_X0_pieceMinutes takes
  rw [rg_ha W hg g4, nmI_s, rh_we W hh h8, rh_pe W hh h8, e1, mx1 e2 (by omega), dvI_s (nI_pos0 (by omega) (by omega)), Int32.mul_comm]
theorem pw_wayMin (W : shW M a e) {g h : Nat} (hg : g < gN e) (hh : h < hN e) (g4 : g < 4) (h8 : h < 8) : f_X0_wayMinutes M (some (a + 21 + g)) (some (a + 13 + h)) = some (walk e g h, M) := by
  unfold f_X0_wayMinutes walk
  rw [rg_pa W hg g4, rg_at W hg g4, rh_at W hh h8]
theorem takes_upd {e : Nat → Int32} {g h k : Nat} {v : Int32} (h8 : h < 8) (g4 : g < 4) (hk : (53 ≤ k ∧ k < 133) ∨ 141 ≤ k) : takes (upd e k v) g h = takes e g h := by
  unfold takes
  rw [pk_un (by omega), pk_un (by omega), pk_un (by omega)]
theorem pw_putDown (W : shW M a e) {g : Nat} (g4 : g < 4) : ∃ M', f_X0_putDown M (some (a + 21 + g)) = some M' ∧ shW M' a (drops e g) ∧ FrI M M' a 31 := by
  have L := W.1
  refine ⟨sI (sI (sI M (a + 21 + g) 5 (-1)) (a + 21 + g) 6 0) (a + 21 + g) 7 0, ?_, wg_pc (wg_wa (wg_hd W g4 _) g4 _) g4 _, ((FrI.rf.sI (by omega) (by omega)).sI (by omega) (by omega)).sI (by omega) (by omega)⟩
  unfold f_X0_putDown
  have L1 := (wg_hd W g4 (-1)).1
  have L2 := (wg_wa (wg_hd W g4 (-1)) g4 0).1
  rw [lp_g L g4, lp_g L1 g4, lp_g L2 g4]
theorem pw_take (W : shW M a e) {g h : Nat} (hg : g < gN e) (hh : h < hN e) (g4 : g < 4) (h8 : h < 8) (hb : bdd e (137 + g) 1 40) : ∃ M', f_X4_take M (some a) (nI g) (nI h) = some (walk e g h, M') ∧ shW M' a (upd (upd (upd (upd e (153 + g) (walk e g h)) (157 + g) (takes e g h)) (149 + g) (nI h)) (145 + g) (e (5 + h))) ∧ FrI M M' a 31 := by
  have L := W.1
  have W1 := wg_wa W g4 (walk e g h)
  have W2 := wg_pc W1 g4 (takes e g h)
  have W3 := wg_hd W2 g4 (nI h)
  have W4 := wg_at W3 g4 (e (5 + h))
  have L1 := W1.1
  have L2 := W2.1
  have L3 := W3.1
  have L4 := W4.1
  refine ⟨_, ?_, W4, (((FrI.rf.sI (by omega) (by omega)).sI (by omega) (by omega)).sI (by omega) (by omega)).sI (by omega) (by omega)⟩
  unfold f_X4_take
  rw [l_gs L, l_g L g4, l_hs L, l_h L h8, lc_g L g4, pw_wayMin W hg hh g4 h8, bd_s, lp_g L g4, l_hs L1, l_h L1 h8, lc_g L1 g4]
  rw [pw_pieceMin W1 (by rw [upd_g (by omega)]; exact hg) (by rw [upd_h (by omega)]; exact hh) g4 h8 (bdd_same (pk_un (by omega)) hb), bd_s, takes_upd h8 g4 (by omega), lp_g L1 g4, lp_g L2 g4, l_hs L3, l_h L3 h8]
  rw [rh_at W3 (by rw [upd_h (by omega), upd_h (by omega), upd_h (by omega)]; exact hh) h8, pk_un (by omega), pk_un (by omega), pk_un (by omega), lp_g L3 g4]
  rw [rg_wa W4 (by rw [upd_g (by omega), upd_g (by omega), upd_g (by omega), upd_g (by omega)]; exact hg) g4, pk_un (by omega), pk_un (by omega), pk_un (by omega), pk_us]
/-- so many minutes of work -/
theorem pw_work (W : shW M a e) {g : Nat} (hg : g < gN e) (g4 : g < 4) (n : Int32) : ∃ M', f_X0_work M (some (a + 21 + g)) n = some M' ∧ shW M' a (upd (upd e (153 + g) (e (153 + g) - mnI (e (153 + g)) n)) (157 + g) (e (157 + g) - (n - mnI (e (153 + g)) n))) ∧ FrI M M' a 31 := by
  have L := W.1
  have W1 := wg_wa W g4 (e (153 + g) - mnI (e (153 + g)) n)
  have W2 := wg_pc W1 g4 (e (157 + g) - (n - mnI (e (153 + g)) n))
  refine ⟨_, ?_, W2, (FrI.rf.sI (by omega) (by omega)).sI (by omega) (by omega)⟩
  unfold f_X0_work
  rw [rg_wa W hg g4, nmI_s, rg_wa W hg g4, lp_g L g4, rg_pc W1 (by rw [upd_g (by omega)]; exact hg) g4, pk_un (by omega), lp_g W1.1 g4]
theorem pw_left (W : shW M a e) {g : Nat} (hg : g < gN e) (g4 : g < 4) : f_X0_minutesLeft M (some (a + 21 + g)) = some (e (153 + g) + e (157 + g), M) := by
  unfold f_X0_minutesLeft
  rw [rg_wa W hg g4, rg_pc W hg g4]
/-- a piece comes off: what is then -/
def offE (e : Nat → Int32) (g h : Nat) : (Nat → Int32) × Int32 := if e (53 + h) - 1 ≤ 0 then (drops (dbt (upd e (53 + h) (e (53 + h) - 1)) g h) g, 1) else (upd (upd e (53 + h) (e (53 + h) - 1)) (157 + g) (takes e g h), 0)
theorem pw_off (W : shW M a e) {g h : Nat} (hg : g < gN e) (hh : h < hN e) (g4 : g < 4) (h8 : h < 8) (hb : bdd e (137 + g) 1 40) (hm : bdd e (133 + g) 0 7 ∧ na e (133 + g) < hN e) : ∃ M', f_X4_pieceComesOff M (some a) (nI g) (nI h) = some ((offE e g h).2, M') ∧ shW M' a (offE e g h).1 ∧ FrI M M' a 31 := by
  have L := W.1
  have W1 := wh_on W h8 (e (53 + h) - 1)
  have L1 := W1.1
  have hg1 : g < gN (upd e (53 + h) (e (53 + h) - 1)) := by rw [upd_g (by omega)]; exact hg
  have hh1 : h < hN (upd e (53 + h) (e (53 + h) - 1)) := by rw [upd_h (by omega)]; exact hh
  have F1 : FrI M (sI M (a + 13 + h) 7 (e (53 + h) - 1)) a 31 := FrI.rf.sI (by omega) (by omega)
  unfold f_X4_pieceComesOff offE
  rw [l_gs L, l_g L g4, l_hs L, l_h L h8, rh_on W hh h8, lp_h L h8, l_hs L1, l_h L1 h8, rh_on W1 hh1 h8, pk_us]
  by_cases q : e (53 + h) - 1 ≤ 0
  · rw [if_pos q, if_pos q, rg_ho W1 hg1 g4, pk_un (by omega)]
    obtain ⟨⟨b1, -, b3⟩, b2⟩ := hm
    unfold dbt
    rw [pk_un (show 133 + g ≠ 53 + h by omega), na_same (show upd e (53 + h) (e (53 + h) - 1) (133 + g) = e (133 + g) from pk_un (by omega))]
    by_cases q2 : e (133 + g) = nI h
    · rw [if_pos q2, if_pos q2]
      obtain ⟨M', e1, W2, F2⟩ := pw_putDown W1 g4
      refine ⟨M', ?_, W2, F1.tr F2⟩
      rw [f_X4_pieceComesOff_88, lc_g L1 g4, e1, bv_s]
    · rw [if_neg q2, if_neg q2]
      have hb1 : na e (133 + g) < hN (upd e (53 + h) (e (53 + h) - 1)) := by rw [upd_h (by omega)]; exact b2
      rw [l_ds L1, l_d L1 h8, rg_ho W1 hg1 g4, l_ds L1, l_d L1 h8, rg_ho W1 hg1 g4, pk_un (by omega), b1, g_d W1 hh1 hb1 h8 (by omega), lp_d L1 h8 (by omega)]
      have W2 := w_d W1 (i := h) (j := na e (133 + g)) h8 (by omega) (mnI 9999 (upd e (53 + h) (e (53 + h) - 1) (69 + 8 * h + na e (133 + g)) + 1))
      obtain ⟨M', e1, W3, F2⟩ := pw_putDown W2 g4
      refine ⟨M', ?_, W3, (F1.sI (by omega) (by omega)).tr F2⟩
      rw [f_X4_pieceComesOff_88, lc_g W2.1 g4, e1, bv_s]
  · rw [if_neg q, if_neg q, l_hs L1, l_h L1 h8, lc_g L1 g4, pw_pieceMin W1 hg1 hh1 g4 h8 (bdd_same (pk_un (by omega)) hb), bd_s, lp_g L1 g4, takes_upd h8 g4 (by omega)]
    exact ⟨_, rfl, wg_pc W1 g4 _, F1.sI (by omega) (by omega)⟩
end W
theorem takes_sS {c c' : Nat → Int32} (hs : sS c c') {g h : Nat} (h8 : h < 8) (g4 : g < 4) : takes c' g h = takes c g h := by
  unfold takes
  rw [hs _ (by omega), hs _ (by omega), hs _ (by omega)]
theorem pcs_none {c : Nat → Int32} {g : Nat} (h : c (149 + g) = -1) : pcs c g = 0 := if_pos h
theorem pcs_hand {c : Nat → Int32} {g h : Nat} (e : c (149 + g) = nI h) (h8 : h < 8) : pcs c g = if c (157 + g) = 0 then takes c g h else c (157 + g) := by
  unfold pcs
  rw [if_neg (by rw [e]; exact neg1_ne (by omega)), na_of e (by omega)]
theorem pcs_same {c c' : Nat → Int32} (O : okC c) (hs : sS c c') {g : Nat} (hg : g < gN c) (e1 : c' (149 + g) = c (149 + g)) (e2 : c' (157 + g) = c (157 + g)) : pcs c' g = pcs c g := by
  have h8 := (ok_h O).2
  have g4 := (ok_g O).2
  rcases hand_cases O hg with ⟨h1, -⟩ | ⟨h, hh, e, -, -⟩
  · rw [pcs_none h1, pcs_none (e1.trans h1)]
  · rw [pcs_hand e (by omega), pcs_hand (e1.trans e) (by omega), e2, takes_sS hs (by omega) (by omega)]
/-- the class's cells out of the reference's, where one gang's changed -/
theorem ecl_ext {c c' e' : Nat → Int32} {g : Nat} (O : okC c) (hg : g < gN c) (hs : sS c c') (he : ∀ k, k < 157 ∨ 161 ≤ k → e' k = c' k) (hp : e' (157 + g) = pcs c' g) (ho : ∀ g', g' < gN c → g' ≠ g → e' (157 + g') = pcs c g' ∧ c' (149 + g') = c (149 + g') ∧ c' (157 + g') = c (157 + g')) : ∀ k, vld (hN c') (gN c') (wN c') k → e' k = ecl c' k := by
  intro k hk
  have g4 := (ok_g O).2
  by_cases q : k < 157 ∨ 161 ≤ k
  · rw [he k q, ecl_o q]
  · have hk2 : k - 157 < gN c := by
      rw [hs.g] at hk
      unfold vld at hk
      omega
    obtain ⟨g', rfl⟩ : ∃ g', k = 157 + g' := ⟨k - 157, by omega⟩
    rw [ecl_p (by omega)]
    by_cases q2 : g' = g
    · subst q2
      exact hp
    · obtain ⟨p1, p2, p3⟩ := ho g' (by omega) q2
      rw [p1, pcs_same O hs (by omega) p2 p3]
