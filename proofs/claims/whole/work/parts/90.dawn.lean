/-! A DAWN of both sides -/
/-- the roofs of the first j houses on again, of those that stand -/
def onF (c : Nat → Int32) : Nat → Nat → Int32
  | 0 => c
  | j + 1 => if c (61 + j) = 1 then upd (onF c j) (53 + j) (c (21 + j)) else onF c j
def dwnN (c : Nat → Int32) (j : Nat) : Int32 := sm (fun h => if c (61 + h) = 1 ∧ c (53 + h) < c (21 + h) then 1 else 0) j
def dwn (c : Nat → Int32) : Nat → Int32 := upd (gal (onF c (hN c)) (fun _ => false) (fun g => decide (g < gN c))) 4 0
theorem onF_o {c : Nat → Int32} : ∀ {j : Nat} {k : Nat}, (k < 53 ∨ 53 + j ≤ k) → onF c j k = c k
  | 0, _, _ => rfl
  | j + 1, k, h => by
    unfold onF
    by_cases q : c (61 + j) = 1
    · rw [if_pos q, pk_un (by omega), onF_o (by omega)]
    · rw [if_neg q, onF_o (by omega)]
theorem onF_on {c : Nat → Int32} : ∀ {j i : Nat}, i < j → j ≤ 8 → onF c j (53 + i) = if c (61 + i) = 1 then c (21 + i) else c (53 + i)
  | 0, _, h, _ => absurd h (by omega)
  | j + 1, i, h, h8 => by
    unfold onF
    by_cases z : i = j
    · subst z
      by_cases q : c (61 + i) = 1
      · rw [if_pos q, if_pos q, pk_us]
      · rw [if_neg q, if_neg q, onF_o (by omega)]
    · have ih := onF_on (c := c) (j := j) (i := i) (by omega) (by omega)
      by_cases q : c (61 + j) = 1
      · rw [if_pos q, pk_un (by omega), ih]
      · rw [if_neg q, ih]
theorem onF_ok {c : Nat → Int32} (O : okC c) : ∀ {j : Nat}, j ≤ hN c → okC (onF c j)
  | 0, _ => O
  | j + 1, h => by
    have h8 := (ok_h O).2
    have ih := onF_ok O (j := j) (by omega)
    have hH : hN (onF c j) = hN c := na_same (onF_o (by omega))
    unfold onF
    by_cases q : c (61 + j) = 1
    · rw [if_pos q]
      obtain ⟨-, -, p3, -, -, -, -, -, -, -⟩ := O.2.2.2.2.2.1 j (by omega)
      have e53 : upd (onF c j) (53 + j) (c (21 + j)) (53 + j) = nI (na c (21 + j)) := pk_us.trans p3.1
      have e61 : upd (onF c j) (53 + j) (c (21 + j)) (61 + j) = nI 1 := by rw [pk_un (by omega), onF_o (by omega), q]; rfl
      have h21 : na (onF c j) (21 + j) = na c (21 + j) := na_same (onF_o (by omega))
      refine okC_house ih (by rw [hH]; omega) (fun k k1 k2 => pk_un k1) ⟨bdd_of e53 (by omega) p3.2.2 (by omega), bdd_of e61 (by omega) (by omega) (by omega), by rw [na_of e53 (by have := p3.2.2; omega), h21]; exact Nat.le_refl _, fun z => by rw [na_of e61 (by omega)] at z; omega⟩ (Or.inl ⟨e61, ?_⟩)
      rw [e53, show (0 : Int32) = nI 0 from rfl, nI_ltI' (by omega) (by have := p3.2.2; omega)]
      exact p3.2.1
    · rw [if_neg q]
      exact ih
theorem okC_dwn {c : Nat → Int32} (O : okC c) : okC (dwn c) := by
  have O1 := onF_ok O (j := hN c) (Nat.le_refl _)
  have O2 : okC (gal (onF c (hN c)) (fun _ => false) (fun g => decide (g < gN c))) := okC_gal O1 (fun i h => absurd h (by decide)) (fun g hg h hh e z => absurd z (by decide))
  exact okC_min O2 (n := 0) (by omega)
section F
variable {M : Mm} {f : Nat → Int32}
theorem q_dawns (D : mdL M) (O : okC f) : f_X12_dawns (sA M 212 f) (some 207) = some (dwnN f (hN f), sA M 212 (dwn f)) := by
  have g4 := (ok_g O).2
  have h8 := (ok_h O).2
  refine lup0 (fun i j => f_X12_dawns_4 i (sA M 212 (onF f j)) (some 207) (dwnN f j) (nI j)) (hN f) _ (by omega) (fun i j hj => ?_) (fun i => ?_)
  · have O1 := onF_ok O (j := j) (by omega)
    rw [f_X12_dawns_4, f_r20 D, f_c0 D, onF_o (by omega), if_neg (hc_in O hj), f_ck D, q_stands (md_f D _) (by omega), bd_s, onF_o (by omega)]
    have e1 : onF f j (53 + j) = f (53 + j) := onF_o (by omega)
    have e2 : onF f j (21 + j) = f (21 + j) := onF_o (by omega)
    unfold dwnN
    rw [sm]
    by_cases q : f (61 + j) = 1
    · have e3 : onF f (j + 1) = upd (onF f j) (53 + j) (f (21 + j)) := by
        conv => lhs; unfold onF
        rw [if_pos q]
      rw [if_pos q, if_neg (by decide), e3]
      simp (disch := omega) only [↓f_r20 D, ↓f_ck D, ↓f_c0 D, ↓f_c1 D, ↓f_c2 D, ↓f_c4 D, ↓f_c D, ↓f_sc D, ↓f_sc4 D, ↓f_gI D, ↓f_pI D, i2, i3, i4, i5, i13, i21, i29, i37, i45, i53, i61, i69, i133, i137, i141, i145, i149, i153, i157, i161, i167, i4m, i6m, i8m, i9m, i18m, i60m, i256m, i450m, nI_add, ↓nmI_s, ↓bd_s, ↓bv_s, nI_1, ↓reduceIte, e1, e2]
      by_cases q2 : f (21 + j) ≤ f (53 + j)
      · rw [if_pos q2, if_neg (fun z => absurd z.2 (Int32.not_lt.mpr q2)), f_X12_dawns_52, Int32.add_zero]
        simp (disch := omega) only [↓f_r20 D, ↓f_ck D, ↓f_c0 D, ↓f_c1 D, ↓f_c2 D, ↓f_c4 D, ↓f_c D, ↓f_sc D, ↓f_sc4 D, ↓f_gI D, ↓f_pI D, i2, i3, i4, i5, i13, i21, i29, i37, i45, i53, i61, i69, i133, i137, i141, i145, i149, i153, i157, i161, i167, i4m, i6m, i8m, i9m, i18m, i60m, i256m, i450m, nI_add, ↓nmI_s, ↓bd_s, ↓bv_s, nI_1, ↓reduceIte, e1, e2, f_X12_dawns_72]
      · rw [if_neg q2, if_pos ⟨q, Int32.not_le.mp q2⟩, f_X12_dawns_52]
        simp (disch := omega) only [↓f_r20 D, ↓f_ck D, ↓f_c0 D, ↓f_c1 D, ↓f_c2 D, ↓f_c4 D, ↓f_c D, ↓f_sc D, ↓f_sc4 D, ↓f_gI D, ↓f_pI D, i2, i3, i4, i5, i13, i21, i29, i37, i45, i53, i61, i69, i133, i137, i141, i145, i149, i153, i157, i161, i167, i4m, i6m, i8m, i9m, i18m, i60m, i256m, i450m, nI_add, ↓nmI_s, ↓bd_s, ↓bv_s, nI_1, ↓reduceIte, e1, e2, f_X12_dawns_72]
    · have e3 : onF f (j + 1) = onF f j := by
        conv => lhs; unfold onF
        rw [if_neg q]
      rw [if_neg q, if_pos rfl, e3, if_neg (fun z => q z.1), Int32.add_zero, f_X12_dawns_72, nI_1]
  · rw [f_X12_dawns_4, f_r20 D, f_c0 D, onF_o (by omega), if_pos (hc_out O)]
    have key := lup0 (fun i g => f_X12_dawns_80 i (sA M 212 (gal (onF f (hN f)) (fun _ => false) (fun x => decide (x < g)))) (some 207) (dwnN f (hN f)) (nI g)) (gN f) (some (dwnN f (hN f), sA M 212 (dwn f))) (by omega) (fun i g hg => ?_) (fun i => ?_)
    · rw [gal_none (fun i _ => rfl) (fun i _ => by simp)] at key
      exact key
    · rw [f_X12_dawns_80, f_r20 D, f_c1 D, gal_o (by omega), onF_o (by omega), if_neg (gc_in O hg), f_ck D, q_drops D (by omega), bv_s, gal_drop (by omega), nI_1]
      refine congrArg (fun z => f_X12_dawns_80 i (sA M 212 z) (some 207) (dwnN f (hN f)) (nI (g + 1))) (gal_cong (fun _ _ => rfl) (fun x hx => ?_))
      by_cases z : x = g
      · subst z; simp
      · have : decide (x < g + 1) = decide (x < g) := decide_eq_decide.mpr (by omega)
        have z2 : (x == g) = false := by simpa using z
        simp [this, z2]
    · rw [f_X12_dawns_80, f_r20 D, f_c1 D, gal_o (by omega), onF_o (by omega), if_pos (gc_out O), f_r20 D, f_sc4 D]
      rfl
end F
section W
variable {M : Mm} {a : Nat} {e c : Nat → Int32}
theorem onF_e {c e : Nat → Int32} (h : ∀ k, k < 157 → e k = c k) : ∀ {j k : Nat}, j ≤ 8 → k < 157 → onF e j k = onF c j k
  | 0, k, _, hk => h k hk
  | j + 1, k, hj, hk => by
    unfold onF
    rw [h (61 + j) (by omega), h (21 + j) (by omega)]
    by_cases q : c (61 + j) = 1
    · rw [if_pos q, if_pos q]
      by_cases z : k = 53 + j
      · rw [z, pk_us, pk_us]
      · rw [pk_un z, pk_un z, onF_e h (by omega) hk]
    · rw [if_neg q, if_neg q, onF_e h (by omega) hk]
theorem pw_dawn1 (S : shO M a c) : ∀ {j : Nat}, j ≤ hN c → ∃ M', shW M' a (onF (ecl c) j) ∧ FrI M M' a 31 ∧ ∀ f, f_X4_breakDay_4 (f + j) M (some a) 0 0 = f_X4_breakDay_4 f M' (some a) (dwnN c j) (nI j)
  | 0, _ => ⟨M, shW_of S, FrI.rf, fun f => rfl⟩
  | j + 1, hj => by
    obtain ⟨M1, W1, F1, k1⟩ := pw_dawn1 S (j := j) (by omega)
    have O := S.2.2
    have h8 := (ok_h O).2
    have L1 := W1.1
    have hz : hN (onF (ecl c) j) = hN c := (na_same (onF_o (by omega))).trans (ecl_h c)
    have e0 : onF (ecl c) j 0 = c 0 := (onF_o (by omega)).trans (ecl_o (by omega))
    have e61 : onF (ecl c) j (61 + j) = c (61 + j) := (onF_o (by omega)).trans (ecl_o (by omega))
    have e53 : onF (ecl c) j (53 + j) = c (53 + j) := (onF_o (by omega)).trans (ecl_o (by omega))
    have e21 : onF (ecl c) j (21 + j) = c (21 + j) := (onF_o (by omega)).trans (ecl_o (by omega))
    have hj2 : j < hN (onF (ecl c) j) := by rw [hz]; omega
    have hlt := hc_in O (show j < hN c by omega)
    obtain ⟨p1, p2, p3, p4, p5, p6, p7, p8, p9, p10⟩ := O.2.2.2.2.2.1 j (by omega)
    by_cases q : c (61 + j) = 1
    · have hn : onF (ecl c) (j + 1) = upd (onF (ecl c) j) (53 + j) (c (21 + j)) := by
        conv => lhs; unfold onF
        rw [ecl_o (by omega), ecl_o (by omega), if_pos q]
      by_cases q2 : c (21 + j) ≤ c (53 + j)
      · have heq : c (21 + j) = c (53 + j) := by
          rw [p3.1, p7.1, nI_leI' (by have := p3.2.2; omega) (by have := p7.2.2; omega)] at q2
          rw [p3.1, p7.1]
          exact congrArg nI (by omega)
        have hs : upd (onF (ecl c) j) (53 + j) (c (21 + j)) = onF (ecl c) j := by
          rw [heq, ← e53]
          exact upd_self
        refine ⟨M1, by rw [hn, hs]; exact W1, F1, fun f => ?_⟩
        have hd : dwnN c (j + 1) = dwnN c j := by
          unfold dwnN
          rw [sm, if_neg (fun z => absurd z.2 (Int32.not_lt.mpr q2)), Int32.add_zero]
        rw [show f + (j + 1) = (f + 1) + j by omega, k1, f_X4_breakDay_4, rt_h W1, e0, if_neg hlt, l_hs L1, l_h L1 (by omega), rh_sd W1 hj2 (by omega), e61, if_neg (by rw [q]; decide), rh_on W1 hj2 (by omega), rh_pi W1 hj2 (by omega), e53, e21, if_pos q2, f_X4_breakDay_48, nI_1, hd]
      · have W2 := wh_on W1 (i := j) (by omega) (c (21 + j))
        refine ⟨_, by rw [hn]; exact W2, F1.sI (by omega) (by omega), fun f => ?_⟩
        have hd : dwnN c (j + 1) = dwnN c j + 1 := by
          unfold dwnN
          rw [sm, if_pos ⟨q, Int32.not_le.mp q2⟩]
        rw [show f + (j + 1) = (f + 1) + j by omega, k1, f_X4_breakDay_4, rt_h W1, e0, if_neg hlt, l_hs L1, l_h L1 (by omega), rh_sd W1 hj2 (by omega), e61, if_neg (by rw [q]; decide), rh_on W1 hj2 (by omega), rh_pi W1 hj2 (by omega), e53, e21, if_neg q2, rh_pi W1 hj2 (by omega), e21, lp_h L1 (by omega), f_X4_breakDay_48, nI_1, hd]
    · have hn : onF (ecl c) (j + 1) = onF (ecl c) j := by
        conv => lhs; unfold onF
        rw [ecl_o (by omega), if_neg q]
      have q0 : c (61 + j) = 0 := by
        rw [p8.1] at q ⊢
        have h1 := p8.2.2
        rcases (show na c (61 + j) = 0 ∨ na c (61 + j) = 1 by omega) with z | z
        · rw [z]; rfl
        · rw [z] at q; exact absurd rfl q
      refine ⟨M1, by rw [hn]; exact W1, F1, fun f => ?_⟩
      have hd : dwnN c (j + 1) = dwnN c j := by
        unfold dwnN
        rw [sm, if_neg (fun z => q z.1), Int32.add_zero]
      rw [show f + (j + 1) = (f + 1) + j by omega, k1, f_X4_breakDay_4, rt_h W1, e0, if_neg hlt, l_hs L1, l_h L1 (by omega), rh_sd W1 hj2 (by omega), e61, if_pos q0, f_X4_breakDay_48, nI_1, hd]
theorem pw_dawn2 (W : shW M a e) (g4 : gN e ≤ 4) (hg : e 1 = nI (gN e)) (n : Int32) : ∀ {j : Nat}, j ≤ gN e → ∃ M', shW M' a (gal e (fun _ => false) (fun i => decide (i < j))) ∧ FrI M M' a 31 ∧ ∀ f, f_X4_breakDay_56 (f + j) M (some a) n 0 = f_X4_breakDay_56 f M' (some a) n (nI j)
  | 0, _ => ⟨M, by rw [gal_none (fun i _ => rfl) (fun i _ => by simp)]; exact W, FrI.rf, fun f => rfl⟩
  | j + 1, hj => by
    obtain ⟨M1, W1, F1, k1⟩ := pw_dawn2 W g4 hg n (j := j) (by omega)
    have L1 := W1.1
    have hlt : ¬ (nI (gN e) ≤ nI j) := by rw [nI_leI' (by omega) (by omega)]; omega
    obtain ⟨M2, e2, W2, F2⟩ := pw_putDown W1 (g := j) (by omega)
    rw [gal_drop (by omega)] at W2
    have e3 : gal e (fun _ => false) (fun i => decide (i < j) || i == j) = gal e (fun _ => false) (fun i => decide (i < j + 1)) := gal_cong (fun i hi => rfl) (fun i hi => by
      by_cases z : i = j
      · subst z; simp
      · have : decide (i < j + 1) = decide (i < j) := decide_eq_decide.mpr (by omega)
        have z2 : (i == j) = false := by simpa using z
        simp [this, z2])
    rw [e3] at W2
    refine ⟨M2, W2, F1.tr F2, fun f => ?_⟩
    rw [show f + (j + 1) = (f + 1) + j by omega, k1, f_X4_breakDay_56, rt_g W1, gal_o (by omega), hg, if_neg hlt, l_gs L1, l_g L1 (by omega), lc_g L1 (by omega), e2, bv_s, nI_1]
theorem p_dawn (S : shO M a c) : ∃ M', f_X4_breakDay M (some a) = some (dwnN c (hN c), M') ∧ shO M' a (dwn c) ∧ FrI M M' a 31 := by
  have O := S.2.2
  have g4 := (ok_g O).2
  have h8 := (ok_h O).2
  obtain ⟨M1, W1, F1, k1⟩ := pw_dawn1 S (j := hN c) (Nat.le_refl _)
  have hH1 : hN (onF (ecl c) (hN c)) = hN c := (na_same (onF_o (by omega))).trans (ecl_h c)
  have hG1 : gN (onF (ecl c) (hN c)) = gN c := (na_same (onF_o (by omega))).trans (ecl_g c)
  have e0 : onF (ecl c) (hN c) 0 = c 0 := (onF_o (by omega)).trans (ecl_o (by omega))
  have e1 : onF (ecl c) (hN c) 1 = c 1 := (onF_o (by omega)).trans (ecl_o (by omega))
  obtain ⟨M2, W2, F2, k2⟩ := pw_dawn2 W1 (by rw [hG1]; exact g4) (by rw [hG1, e1]; exact (ok_g O).1) (dwnN c (hN c)) (j := gN c) (by rw [hG1]; exact Nat.le_refl _)
  have W3 := w_m W2 0
  have hz : hN (dwn c) = hN c ∧ gN (dwn c) = gN c ∧ wN (dwn c) = wN c := ⟨na_same ((pk_un (by omega)).trans ((gal_o (by omega)).trans (onF_o (by omega)))), na_same ((pk_un (by omega)).trans ((gal_o (by omega)).trans (onF_o (by omega)))), na_same ((pk_un (by omega)).trans ((gal_o (by omega)).trans (onF_o (by omega))))⟩
  refine ⟨_, ?_, shO_of W3 (fun k hk => ?_) (okC_dwn O), (F1.tr F2).sI (by omega) (by omega)⟩
  · unfold f_X4_breakDay
    rw [show fu = (fu - 1 - hN c + 1) + hN c by unfold fu; omega, k1, f_X4_breakDay_4, rt_h W1, e0, if_pos (hc_out O)]
    rw [show fu = (fu - 1 - gN c + 1) + gN c by unfold fu; omega, k2, f_X4_breakDay_56, rt_g W2, gal_o (by omega), e1, if_pos (gc_out O), lp_s W2.1]
  · rw [hz.1, hz.2.1, hz.2.2] at hk
    by_cases z : k = 4
    · rw [z, pk_us, ecl_o (by omega)]
      exact pk_us.symm
    · rw [pk_un z]
      by_cases y : 157 ≤ k ∧ k < 161
      · obtain ⟨i, rfl⟩ : ∃ i, k = 157 + i := ⟨k - 157, by omega⟩
        have hi : i < gN c := by unfold vld at hk; omega
        rw [gal_7 (by omega), if_pos (by simpa using hi), ecl_p (by omega)]
        refine (pcs_none ?_).symm
        unfold dwn
        rw [pk_un (by omega), gal_9 (by omega), if_pos (by simpa using hi)]
      · rw [ecl_o (by omega)]
        unfold dwn
        rw [pk_un z]
        rcases gal_cases k with h | ⟨i, h, rfl⟩ | ⟨i, h, rfl⟩ | ⟨i, h, rfl⟩ | ⟨i, h, rfl⟩
        · rw [gal_o h, gal_o h]
          by_cases x : k < 157
          · exact onF_e (fun k hk => ecl_o (by omega)) h8 x
          · rw [onF_o (by omega), onF_o (by omega), ecl_o (by omega)]
        · rw [gal_s h, gal_s h, onF_e (fun k hk => ecl_o (by omega)) h8 (by omega)]
        · rw [gal_9 h, gal_9 h, onF_e (fun k hk => ecl_o (by omega)) h8 (by omega)]
        · rw [gal_3 h, gal_3 h, onF_e (fun k hk => ecl_o (by omega)) h8 (by omega)]
        · exact absurd ⟨by omega, by omega⟩ y
end W
