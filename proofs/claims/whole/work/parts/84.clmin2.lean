/-! THE CLASS'S MINUTE, the whole of it -/
theorem dbt_at {X c : Nat → Int32} {g h k : Nat} (e1 : X (133 + g) = c (133 + g)) (e2 : ∀ j, 69 ≤ j → j < 133 → X j = c j) (h8 : h < 8) (hb : na c (133 + g) < 8) : dbt X g h k = if c (133 + g) = nI h then X k else if k = 69 + 8 * h + na c (133 + g) then mnI 9999 (c (69 + 8 * h + na c (133 + g)) + 1) else X k := by
  unfold dbt
  rw [e1, na_same e1]
  by_cases q : c (133 + g) = nI h
  · rw [if_pos q, if_pos q]
  · rw [if_neg q, if_neg q, e2 _ (by omega) (by omega)]
    by_cases q2 : k = 69 + 8 * h + na c (133 + g)
    · rw [if_pos q2, q2, pk_us]
    · rw [if_neg q2, pk_un q2]
theorem bgn_p {c : Nat → Int32} {g h : Nat} (e : c (149 + g) = nI h) (h8 : h < 8) : bgn c g h (157 + g) = pcs c g := by
  rw [pcs_hand e h8]
  unfold bgn
  by_cases q : c (157 + g) = 0
  · rw [if_pos q, if_pos q, pk_us]
  · rw [if_neg q, if_neg q]
section P
variable {M : Mm} {a : Nat} {c : Nat → Int32}
theorem p_35 (S : shO M a c) {g h : Nat} (hg : g < gN c) (hh : h < hN c) (eh : c (149 + g) = nI h) (on : isOn c h) : ∃ M', f_X4_passMinute_35 M (some a) (nI g) (some (a + 21 + g)) = some ((m30 c g).2, M') ∧ shO M' a (m30 c g).1 ∧ FrI M M' a 31 := by
  have O := S.2.2
  have g4 := (ok_g O).2
  have h8 := (ok_h O).2
  have hb := home_8 O hg
  obtain ⟨⟨m1, m2⟩, h3, -, -, h6, h7, -⟩ := O.2.2.2.2.2.2.2.1 g hg
  have O' := okC_m30 O hg hh eh on
  have hs' := sS_m30 (c := c) (g := g) (by omega) (by rw [na_of eh (by omega)]; omega) hb
  obtain ⟨OB, pB, oB⟩ := okC_bgn O hg hh eh on
  have bp := bgn_p (c := c) (g := g) eh (show h < 8 by omega)
  have hB := OB.2.2.2.2.2.2.2.1 g (by rw [show gN (bgn c g h) = gN c from na_same (oB 1 (by omega))]; exact hg)
  have p7 := hB.2.2.2.2.2.1
  obtain ⟨pN, hpN⟩ : ∃ pN, na (bgn c g h) (157 + g) = pN := ⟨_, rfl⟩
  rw [hpN] at pB
  have pe : pcs c g = nI pN := by rw [← bp, ← hpN]; exact p7.1
  have p116 : pN ≤ 116 := by rw [← hpN]; exact p7.2.2
  obtain ⟨w, hw⟩ : ∃ w, na c (153 + g) = w := ⟨_, rfl⟩
  have we : c (153 + g) = nI w := by rw [← hw]; exact h6.1
  have w540 : w ≤ 540 := by rw [← hw]; exact h6.2.2
  have en : na c (149 + g) = h := na_of eh (by omega)
  have W := shW_of S
  have hgE : g < gN (ecl c) := by rw [ecl_g]; exact hg
  have hhE : h < hN (ecl c) := by rw [ecl_h]; exact hh
  obtain ⟨M1, e1, W1, F1⟩ := pw_work W hgE (by omega) 1
  rw [ecl_o (by omega), ecl_p (by omega), we, pe] at W1
  have hgE1 : ∀ x y, g < gN (upd (upd (ecl c) (153 + g) x) (157 + g) y) := fun x y => by rw [upd_g (by omega), upd_g (by omega)]; exact hgE
  have hhE1 : ∀ x y, h < hN (upd (upd (ecl c) (153 + g) x) (157 + g) y) := fun x y => by rw [upd_h (by omega), upd_h (by omega)]; exact hhE
  unfold f_X4_passMinute_35
  rw [lc_g S.1 (by omega), e1, bv_s, lc_g W1.1 (by omega), pw_left W1 (hgE1 _ _) (by omega), bd_s, pk_us, pk_un (show 153 + g ≠ 157 + g by omega), pk_us]
  by_cases q : c (153 + g) ≤ 0
  · have w0 : w = 0 := by
      rw [we, show (0 : Int32) = nI 0 from rfl, nI_leI' (by omega) (by omega)] at q
      omega
    have em : m30 c g = m98 (bgn c g h) g h := by
      unfold m30
      rw [if_pos q, en]
    rw [em] at O' hs' ⊢
    subst w0
    have mn0 : mnI (nI 0) 1 = nI 0 := by decide
    rw [mn0] at W1 ⊢
    have s0 : nI 0 - nI 0 = nI 0 := by decide
    have s1 : nI pN - (1 - nI 0) = nI (pN - 1) := by rw [show (1 : Int32) - nI 0 = nI 1 from by decide, nI_sub pB]
    rw [s0, s1] at W1 ⊢
    have bq : bgn c g h (157 + g) - 1 = nI (pN - 1) := by rw [bp, pe, show (1 : Int32) = nI 1 from rfl, nI_sub pB]
    have b53 : bgn c g h (53 + h) = c (53 + h) := oB _ (by omega)
    have hE : ∀ k, (k < 157 ∨ 161 ≤ k) → upd (upd (ecl c) (153 + g) (nI 0)) (157 + g) (nI (pN - 1)) k = c k := fun k hk => by
      rw [pk_un (by omega)]
      by_cases z : k = 153 + g
      · rw [z, pk_us, we]
      · rw [pk_un z, ecl_o hk]
    have hE2 : ∀ g', g' < 4 → g' ≠ g → upd (upd (ecl c) (153 + g) (nI 0)) (157 + g) (nI (pN - 1)) (157 + g') = pcs c g' := fun g' h4 hne => by
      rw [pk_un (by omega), pk_un (by omega), ecl_p h4]
    rw [nI_add]
    by_cases q1 : nI (pN - 1) ≤ 0
    · have q1' : nI (0 + (pN - 1)) ≤ 0 := by rw [Nat.zero_add]; exact q1
      rw [if_pos q1', rg_hd W1 (hgE1 _ _) (by omega), hE _ (by omega), eh, lc_s W1.1]
      obtain ⟨M2, e2, W2, F2⟩ := pw_off W1 (hgE1 _ _) (hhE1 _ _) (by omega) (by omega) (bdd_same (hE _ (by omega)) h3) ⟨bdd_same (hE _ (by omega)) m1, by rw [na_same (hE (133 + g) (by omega)), upd_h (by omega), upd_h (by omega), ecl_h]; exact m2⟩
      rw [e2, bd_s]
      by_cases q2 : c (53 + h) - 1 ≤ 0
      · have eo : offE (upd (upd (ecl c) (153 + g) (nI 0)) (157 + g) (nI (pN - 1))) g h = (drops (dbt (upd (upd (upd (ecl c) (153 + g) (nI 0)) (157 + g) (nI (pN - 1))) (53 + h) (c (53 + h) - 1)) g h) g, 1) := by
          unfold offE
          rw [hE _ (by omega), if_pos q2]
        have e9 : m98 (bgn c g h) g h = (dbt (fin (bgn c g h) g h) g h, 1) := by
          unfold m98
          rw [bq, b53, if_pos q1, if_pos q2]
        rw [eo] at W2 ⊢
        rw [e9] at O' hs' ⊢
        dsimp only at W2 O' hs' ⊢
        have v1 : ∀ j, (j < 145 ∨ 161 ≤ j) → j ≠ 53 + h → fin (bgn c g h) g h j = c j := fun j hj hj2 => by
          unfold fin
          rw [pk_un hj2, drops_o (by omega) (by omega) (by omega), oB _ (by omega)]
        have u1 : ∀ j, (j < 157 ∨ 161 ≤ j) → j ≠ 53 + h → upd (upd (upd (ecl c) (153 + g) (nI 0)) (157 + g) (nI (pN - 1))) (53 + h) (c (53 + h) - 1) j = c j := fun j hj hj2 => by rw [pk_un hj2, hE j hj]
        have D1 := fun k => dbt_at (k := k) (u1 (133 + g) (by omega) (by omega)) (fun j h1 h2 => u1 j (by omega) (by omega)) (show h < 8 by omega) hb
        have D2 := fun k => dbt_at (k := k) (v1 (133 + g) (by omega) (by omega)) (fun j h1 h2 => v1 j (by omega) (by omega)) (show h < 8 by omega) hb
        refine ⟨M2, rfl, shO_of W2 (ecl_ext O hg hs' (fun k hk => ?_) ?_ (fun g' hg' hne => ⟨?_, ?_, ?_⟩)) O', F1.tr F2⟩
        · rw [D2 k]
          by_cases z1 : k = 149 + g
          · subst z1
            rw [drops_9, if_neg (show ¬ 149 + g = 69 + 8 * h + na c (133 + g) by omega)]
            have : fin (bgn c g h) g h (149 + g) = -1 := by unfold fin; rw [pk_un (by omega), drops_9]
            rw [this, ite_self]
          · by_cases z2 : k = 153 + g
            · subst z2
              rw [drops_3, if_neg (show ¬ 153 + g = 69 + 8 * h + na c (133 + g) by omega)]
              have : fin (bgn c g h) g h (153 + g) = 0 := by unfold fin; rw [pk_un (by omega), drops_3]
              rw [this, ite_self]
            · rw [drops_o z1 z2 (by omega), D1 k]
              have : upd (upd (upd (ecl c) (153 + g) (nI 0)) (157 + g) (nI (pN - 1))) (53 + h) (c (53 + h) - 1) k = fin (bgn c g h) g h k := by
                by_cases z3 : k = 53 + h
                · subst z3
                  unfold fin
                  rw [pk_us, pk_us, b53]
                · unfold fin
                  rw [u1 k hk z3, pk_un z3, drops_o z1 z2 (by omega), oB k (by omega)]
              rw [this]
        · rw [drops_7]
          have : dbt (fin (bgn c g h) g h) g h (149 + g) = -1 := by
            rw [D2, if_neg (show ¬ 149 + g = 69 + 8 * h + na c (133 + g) by omega)]
            have : fin (bgn c g h) g h (149 + g) = -1 := by unfold fin; rw [pk_un (by omega), drops_9]
            rw [this, ite_self]
          rw [pcs_none this]
        · rw [drops_o (by omega) (by omega) (by omega), D1, if_neg (show ¬ 157 + g' = 69 + 8 * h + na c (133 + g) by omega), ite_self, pk_un (by omega), hE2 g' (by omega) hne]
        · rw [D2, if_neg (show ¬ 149 + g' = 69 + 8 * h + na c (133 + g) by omega), ite_self]
          unfold fin
          rw [pk_un (by omega), drops_o (by omega) (by omega) (by omega), oB _ (by omega)]
        · rw [D2, if_neg (show ¬ 157 + g' = 69 + 8 * h + na c (133 + g) by omega), ite_self]
          unfold fin
          rw [pk_un (by omega), drops_o (by omega) (by omega) (by omega), oB _ (by omega)]
      · have eo : offE (upd (upd (ecl c) (153 + g) (nI 0)) (157 + g) (nI (pN - 1))) g h = (upd (upd (upd (upd (ecl c) (153 + g) (nI 0)) (157 + g) (nI (pN - 1))) (53 + h) (c (53 + h) - 1)) (157 + g) (takes (upd (upd (ecl c) (153 + g) (nI 0)) (157 + g) (nI (pN - 1))) g h), 0) := by
          unfold offE
          rw [hE _ (by omega), if_neg q2]
        have e9 : m98 (bgn c g h) g h = (upd (upd (bgn c g h) (157 + g) (nI (pN - 1))) (53 + h) (c (53 + h) - 1), 0) := by
          unfold m98
          rw [bq, b53, if_pos q1, if_neg q2]
        rw [eo] at W2 ⊢
        rw [e9] at O' hs' ⊢
        dsimp only at W2 O' hs' ⊢
        refine ⟨M2, rfl, shO_of W2 (ecl_ext O hg hs' (fun k hk => ?_) ?_ (fun g' hg' hne => ⟨?_, ?_, ?_⟩)) O', F1.tr F2⟩
        · rw [pk_un (show k ≠ 157 + g by omega)]
          by_cases z3 : k = 53 + h
          · rw [z3, pk_us, pk_us]
          · rw [pk_un z3, pk_un z3, hE k hk, pk_un (show k ≠ 157 + g by omega), oB k (by omega)]
        · have p1 : pN - 1 = 0 := by
            rw [show (0 : Int32) = nI 0 from rfl, nI_leI' (by omega) (by omega)] at q1
            omega
          have x9 : upd (upd (bgn c g h) (157 + g) (nI (pN - 1))) (53 + h) (c (53 + h) - 1) (149 + g) = nI h := by rw [pk_un (by omega), pk_un (by omega), oB _ (by omega), eh]
          have x7 : upd (upd (bgn c g h) (157 + g) (nI (pN - 1))) (53 + h) (c (53 + h) - 1) (157 + g) = 0 := by rw [pk_un (by omega), pk_us, p1]; rfl
          rw [pk_us, pcs_hand x9 (by omega), if_pos x7, takes_sS hs' (by omega) (by omega), takes_upd (by omega) (by omega) (by omega), takes_upd (by omega) (by omega) (by omega)]
          unfold takes
          rw [ecl_o (by omega), ecl_o (by omega), ecl_o (by omega)]
        · rw [pk_un (by omega), pk_un (by omega), hE2 g' (by omega) hne]
        · rw [pk_un (by omega), pk_un (by omega), oB _ (by omega)]
        · rw [pk_un (by omega), pk_un (by omega), oB _ (by omega)]
    · have q1' : ¬ nI (0 + (pN - 1)) ≤ 0 := by rw [Nat.zero_add]; exact q1
      have e9 : m98 (bgn c g h) g h = (upd (bgn c g h) (157 + g) (nI (pN - 1)), 0) := by
        unfold m98
        rw [bq, if_neg q1]
      rw [e9] at O' hs' ⊢
      dsimp only at O' hs' ⊢
      rw [if_neg q1']
      refine ⟨M1, rfl, shO_of W1 (ecl_ext O hg hs' (fun k hk => ?_) ?_ (fun g' hg' hne => ⟨hE2 g' (by omega) hne, ?_, ?_⟩)) O', F1⟩
      · rw [hE k hk, pk_un (show k ≠ 157 + g by omega), oB k (by omega)]
      · have x9 : upd (bgn c g h) (157 + g) (nI (pN - 1)) (149 + g) = nI h := by rw [pk_un (by omega), oB _ (by omega), eh]
        have x0 : ¬ upd (bgn c g h) (157 + g) (nI (pN - 1)) (157 + g) = 0 := by
          rw [pk_us]
          intro z
          exact q1 (by rw [z]; exact Int32.le_refl _)
        rw [pk_us, pcs_hand x9 (by omega), if_neg x0, pk_us]
      · rw [pk_un (by omega), oB _ (by omega)]
      · rw [pk_un (by omega), oB _ (by omega)]
  · have w1 : 1 ≤ w := by
      rw [we, show (0 : Int32) = nI 0 from rfl, nI_leI' (by omega) (by omega)] at q
      omega
    have mn1 : mnI (nI w) 1 = nI 1 := by
      rw [show (1 : Int32) = nI 1 from rfl, mn_nI (by omega) (by omega), Nat.min_eq_right w1]
    have s1 : nI pN - (1 - nI 1) = nI pN := by rw [show (1 : Int32) - nI 1 = nI 0 from by decide, nI_sub (by omega)]; rfl
    rw [mn1, nI_sub w1, s1] at W1 ⊢
    have c1 : c (153 + g) - 1 = nI (w - 1) := by rw [we, show (1 : Int32) = nI 1 from rfl, nI_sub w1]
    have em : m30 c g = (upd c (153 + g) (nI (w - 1)), 0) := by
      unfold m30
      rw [if_neg q, c1]
    rw [em] at O' hs' ⊢
    dsimp only at O' hs' ⊢
    rw [nI_add, if_neg (by rw [show (0 : Int32) = nI 0 from rfl, nI_leI' (by omega) (by omega)]; omega)]
    refine ⟨M1, rfl, shO_of W1 (ecl_ext O hg hs' (fun k hk => ?_) ?_ (fun g' hg' hne => ⟨?_, ?_, ?_⟩)) O', F1⟩
    · rw [pk_un (by omega)]
      by_cases z : k = 153 + g
      · rw [z, pk_us, pk_us]
      · rw [pk_un z, pk_un z, ecl_o hk]
    · rw [pk_us, pcs_same O hs' hg (pk_un (by omega)) (pk_un (by omega)), pe]
    · rw [pk_un (by omega), pk_un (by omega), ecl_p (by omega)]
    · exact pk_un (by omega)
    · exact pk_un (by omega)
end P
