/-! THE CLASS'S GALE, its dawn -/
section W
variable {M : Mm} {a : Nat} {e c : Nat → Int32}
theorem gal_z0 {P Q : Nat → Bool} : hN (gal e P Q) = hN e ∧ gN (gal e P Q) = gN e := ⟨na_same (gal_o (by omega)), na_same (gal_o (by omega))⟩
theorem pw_blow1 (W : shW M a e) (h8 : hN e ≤ 8) (hh : e 0 = nI (hN e)) (set : Int32) (P : Nat → Bool) (hP : ∀ i, i < hN e → (P i = true ↔ hasB set i)) : ∀ {j : Nat}, j ≤ hN e → ∃ M', shW M' a (gal e (fun i => decide (i < j) && P i) (fun _ => false)) ∧ FrI M M' a 31 ∧ ∀ f, f_X4_blow_8 (f + j) M (some a) set 0 = f_X4_blow_8 f M' (some a) set (nI j)
  | 0, _ => ⟨M, by rw [gal_none (fun i _ => by simp) (fun i _ => rfl)]; exact W, FrI.rf, fun f => rfl⟩
  | j + 1, hj => by
    obtain ⟨M1, W1, F1, k1⟩ := pw_blow1 W h8 hh set P hP (j := j) (by omega)
    have L1 := W1.1
    have hlt : ¬ (nI (hN e) ≤ nI j) := by rw [nI_leI' (by omega) (by omega)]; omega
    by_cases q : P j = true
    · have W2 := wh_sd W1 (i := j) (by omega) 0
      rw [gal_stand (by omega)] at W2
      have e2 : gal e (fun i => (decide (i < j) && P i) || i == j) (fun _ => false) = gal e (fun i => decide (i < j + 1) && P i) (fun _ => false) := gal_cong (fun i hi => by
        by_cases z : i = j
        · subst z; simp [q]
        · have : decide (i < j + 1) = decide (i < j) := decide_eq_decide.mpr (by omega)
          have z2 : (i == j) = false := by simpa using z
          simp [this, z2]) (fun i hi => rfl)
      rw [e2] at W2
      refine ⟨_, W2, F1.sI (by omega) (by omega), fun f => ?_⟩
      rw [show f + (j + 1) = (f + 1) + j by omega, k1, f_X4_blow_8, rt_h W1, gal_o (by omega), hh, if_neg hlt, if_pos ((hP j (by omega)).mp q), l_hs L1, l_h L1 (by omega), lp_hz L1 (by omega) (Or.inl rfl), f_X4_blow_35, nI_1]
    · have e2 : gal e (fun i => decide (i < j) && P i) (fun _ => false) = gal e (fun i => decide (i < j + 1) && P i) (fun _ => false) := gal_cong (fun i hi => by
        by_cases z : i = j
        · subst z
          simp at q
          simp [q]
        · have : decide (i < j + 1) = decide (i < j) := decide_eq_decide.mpr (by omega)
          simp [this]) (fun i hi => rfl)
      refine ⟨M1, by rw [← e2]; exact W1, F1, fun f => ?_⟩
      rw [show f + (j + 1) = (f + 1) + j by omega, k1, f_X4_blow_8, rt_h W1, gal_o (by omega), hh, if_neg hlt, if_neg (fun z => q ((hP j (by omega)).mpr z)), f_X4_blow_35, nI_1]
theorem pw_blow2 {P : Nat → Bool} (W : shW M a (gal e P (fun _ => false))) (g4 : gN e ≤ 4) (hg : e 1 = nI (gN e)) (set : Int32) (Q : Nat → Bool) (hQ : ∀ g, g < gN e → (Q g = true ∧ ¬ e (149 + g) = -1 ∧ ((set >>> (e (149 + g) &&& 31)) &&& 1) = 1) ∨ (Q g = false ∧ (e (149 + g) = -1 ∨ ¬ ((set >>> (e (149 + g) &&& 31)) &&& 1) = 1))) : ∀ {j : Nat}, j ≤ gN e → ∃ M', shW M' a (gal e P (fun i => decide (i < j) && Q i)) ∧ FrI M M' a 31 ∧ ∀ f, f_X4_blow_43 (f + j) M (some a) set 0 = f_X4_blow_43 f M' (some a) set (nI j)
  | 0, _ => ⟨M, by rw [gal_cong (P' := P) (Q' := fun _ => false) (fun i _ => rfl) (fun i _ => by simp)]; exact W, FrI.rf, fun f => rfl⟩
  | j + 1, hj => by
    obtain ⟨M1, W1, F1, k1⟩ := pw_blow2 W g4 hg set Q hQ (j := j) (by omega)
    have L1 := W1.1
    have hlt : ¬ (nI (gN e) ≤ nI j) := by rw [nI_leI' (by omega) (by omega)]; omega
    have e9 : gal e P (fun i => decide (i < j) && Q i) (149 + j) = e (149 + j) := by rw [gal_9 (by omega), if_neg (by simp)]
    rcases hQ j (by omega) with ⟨q1, q2, q3⟩ | ⟨q1, q2⟩
    · obtain ⟨M2, e2, W2, F2⟩ := pw_putDown W1 (g := j) (by omega)
      rw [gal_drop (by omega)] at W2
      have e3 : gal e P (fun i => (decide (i < j) && Q i) || i == j) = gal e P (fun i => decide (i < j + 1) && Q i) := gal_cong (fun i hi => rfl) (fun i hi => by
        by_cases z : i = j
        · subst z; simp [q1]
        · have : decide (i < j + 1) = decide (i < j) := decide_eq_decide.mpr (by omega)
          have z2 : (i == j) = false := by simpa using z
          simp [this, z2])
      rw [e3] at W2
      refine ⟨M2, W2, F1.tr F2, fun f => ?_⟩
      rw [show f + (j + 1) = (f + 1) + j by omega, k1, f_X4_blow_43, rt_g W1, gal_o (by omega), hg, if_neg hlt, l_gs L1, l_g L1 (by omega), rg_hd W1 (by rw [gal_z0.2]; omega) (by omega), e9, if_neg q2, if_pos q3, l_gs L1, l_g L1 (by omega), lc_g L1 (by omega), e2, bv_s, f_X4_blow_87, nI_1]
    · have e3 : gal e P (fun i => decide (i < j) && Q i) = gal e P (fun i => decide (i < j + 1) && Q i) := gal_cong (fun i hi => rfl) (fun i hi => by
        by_cases z : i = j
        · subst z; simp [q1]
        · have : decide (i < j + 1) = decide (i < j) := decide_eq_decide.mpr (by omega)
          simp [this])
      refine ⟨M1, by rw [← e3]; exact W1, F1, fun f => ?_⟩
      rw [show f + (j + 1) = (f + 1) + j by omega, k1, f_X4_blow_43, rt_g W1, gal_o (by omega), hg, if_neg hlt, l_gs L1, l_g L1 (by omega), rg_hd W1 (by rw [gal_z0.2]; omega) (by omega), e9]
      rcases q2 with q2 | q2
      · rw [if_pos q2, f_X4_blow_87, nI_1]
      · by_cases q3 : e (149 + j) = -1
        · rw [if_pos q3, f_X4_blow_87, nI_1]
        · rw [if_neg q3, if_neg q2, f_X4_blow_87, nI_1]
theorem ecl_gal (O : okC c) {P Q : Nat → Bool} : ∀ k, vld (hN c) (gN c) (wN c) k → gal (ecl c) P Q k = ecl (gal c P Q) k := by
  intro k hk
  have g4 := (ok_g O).2
  have h8 := (ok_h O).2
  rcases gal_cases k with h | ⟨i, h, rfl⟩ | ⟨i, h, rfl⟩ | ⟨i, h, rfl⟩ | ⟨i, h, rfl⟩
  · rw [gal_o h, ecl_o (by omega), ecl_o (by omega), gal_o h]
  · rw [gal_s h, ecl_o (by omega), ecl_o (by omega), gal_s h]
  · rw [gal_9 h, ecl_o (by omega), ecl_o (by omega), gal_9 h]
  · rw [gal_3 h, ecl_o (by omega), ecl_o (by omega), gal_3 h]
  · have hi : i < gN c := by unfold vld at hk; omega
    rw [gal_7 h, ecl_p h, ecl_p h]
    by_cases q : Q i = true
    · rw [if_pos q, pcs_none (by rw [gal_9 h, if_pos q])]
    · rw [if_neg q]
      have e9 : gal c P Q (149 + i) = c (149 + i) := by rw [gal_9 h, if_neg q]
      have e7 : gal c P Q (157 + i) = c (157 + i) := by rw [gal_7 h, if_neg q]
      rcases hand_cases O hi with ⟨h1, -⟩ | ⟨h', hh, e, -, -⟩
      · rw [pcs_none h1, pcs_none (e9.trans h1)]
      · rw [pcs_hand e (by omega), pcs_hand (e9.trans e) (by omega), e7]
        unfold takes
        rw [gal_o (k := 29 + h') (by omega), gal_o (k := 45 + h') (by omega), gal_o (k := 137 + i) (by omega)]
theorem p_blow (S : shO M a c) (s : Int32) : ∃ M', f_X4_blow M (some a) s = some (pop (st (falls c s) (hN c)), M') ∧ shO M' a (galS c s) ∧ FrI M M' a 31 := by
  have O := S.2.2
  have g4 := (ok_g O).2
  have h8 := (ok_h O).2
  have W := shW_of S
  have e0 : ecl c 0 = nI (hN (ecl c)) := by rw [ecl_h, ecl_o (by omega)]; exact (ok_h O).1
  have e1 : ecl c 1 = nI (gN (ecl c)) := by rw [ecl_g, ecl_o (by omega)]; exact (ok_g O).1
  have hP : ∀ i, i < hN (ecl c) → (fP c s i = true ↔ hasB (st (falls c s) (hN c)) i) := fun i hi => by
    rw [ecl_h] at hi
    rw [fP_t, hasB_st _ (by omega) (by omega)]
  obtain ⟨M1, W1, F1, k1⟩ := pw_blow1 W (by rw [ecl_h]; exact h8) e0 (st (falls c s) (hN c)) (fP c s) hP (j := hN c) (by rw [ecl_h]; exact Nat.le_refl _)
  have hQ : ∀ g, g < gN (ecl c) → (fQ c s g = true ∧ ¬ ecl c (149 + g) = -1 ∧ ((st (falls c s) (hN c) >>> (ecl c (149 + g) &&& 31)) &&& 1) = 1) ∨ (fQ c s g = false ∧ (ecl c (149 + g) = -1 ∨ ¬ ((st (falls c s) (hN c) >>> (ecl c (149 + g) &&& 31)) &&& 1) = 1)) := fun g hg => by
    rw [ecl_g] at hg
    rw [ecl_o (by omega)]
    rcases hand_cases O hg with ⟨h1, -⟩ | ⟨h, hh, e, -, en⟩
    · refine Or.inr ⟨?_, Or.inl h1⟩
      rw [← Bool.not_eq_true, fQ_t, h1]
      exact fun z => absurd z.2.1 (by decide)
    · by_cases q : fQ c s g = true
      · refine Or.inl ⟨q, by rw [e]; exact neg1_ne (by omega), ?_⟩
        rw [e]
        have := (fQ_t.mp q).2.2
        rw [en] at this
        exact (hP h (by rw [ecl_h]; exact hh)).mp this
      · refine Or.inr ⟨by simpa using q, Or.inr fun z => q ?_⟩
        rw [e] at z
        rw [fQ_t, en, e]
        exact ⟨hg, nI_pos' (by omega), (hP h (by rw [ecl_h]; exact hh)).mpr z⟩
  obtain ⟨M2, W2, F2, k2⟩ := pw_blow2 W1 (by rw [ecl_g]; exact g4) e1 (st (falls c s) (hN c)) (fQ c s) hQ (j := gN c) (by rw [ecl_g]; exact Nat.le_refl _)
  have ez : gal (ecl c) (fun i => decide (i < hN c) && fP c s i) (fun i => decide (i < gN c) && fQ c s i) = gal (ecl c) (fP c s) (fQ c s) := gal_cong (fun i _ => by
    by_cases y : fP c s i = true
    · simp [(fP_t.mp y).1]
    · simp at y; simp [y]) (fun i _ => by
    by_cases y : fQ c s i = true
    · simp [(fQ_t.mp y).1]
    · simp at y; simp [y])
  rw [ez] at W2
  have O' := okC_galS O s
  have hz : hN (galS c s) = hN c ∧ gN (galS c s) = gN c ∧ wN (galS c s) = wN c := ⟨na_same (gal_o (by omega)), na_same (gal_o (by omega)), na_same (gal_o (by omega))⟩
  refine ⟨M2, ?_, shO_of W2 (fun k hk => by rw [hz.1, hz.2.1, hz.2.2] at hk; exact ecl_gal O k hk) O', F1.tr F2⟩
  unfold f_X4_blow
  rw [lc_s S.1, p_falling S, bd_s]
  have hgc : ¬ False := id
  rw [show fu = (fu - 1 - hN c + 1) + hN c by unfold fu; omega, k1, f_X4_blow_8, rt_h W1, gal_o (by omega), ecl_o (by omega), if_pos (hc_out O)]
  rw [show fu = (fu - 1 - gN c + 1) + gN c by unfold fu; omega, k2, f_X4_blow_43, rt_g W2, gal_o (by omega), ecl_o (by omega), if_pos (gc_out O)]
  obtain ⟨s1, s2⟩ := st_256 (falls c s) h8
  rw [s1, p_bits M2 s2, bd_s]
end W
