/-! who is taken first: the class's rank, the reference's lateness -/
theorem bdd_int {c : Nat → Int32} {k lo hi : Nat} (h : bdd c k lo hi) (hh : hi < 2147483648) : (c k).toInt = (na c k : Int) := by
  have h1 := h.1
  have h2 := h.2.2
  rw [h1, nI_toInt (by omega)]
theorem bm_id {x : Int} (h1 : -2147483648 ≤ x) (h2 : x < 2147483648) : x.bmod (2 ^ 32) = x := Int.bmod_eq_of_le (by simpa using h1) (by simpa using h2)
theorem neg_int {x : Int32} (h : -2147483648 < x.toInt) : (-x).toInt = -x.toInt := by
  have h2 := Int32.toInt_lt x
  rw [Int32.toInt_neg]
  exact bm_id (by omega) (by omega)
theorem add_int {x y : Int32} (h1 : -2147483648 ≤ x.toInt + y.toInt) (h2 : x.toInt + y.toInt < 2147483648) : (x + y).toInt = x.toInt + y.toInt := by
  rw [Int32.toInt_add]
  exact bm_id h1 h2
theorem sub_int {x y : Int32} (h1 : -2147483648 ≤ x.toInt - y.toInt) (h2 : x.toInt - y.toInt < 2147483648) : (x - y).toInt = x.toInt - y.toInt := by
  rw [Int32.toInt_sub]
  exact bm_id h1 h2
theorem sm_bd {f : Nat → Int32} (B : Nat) (hB : B ≤ 1000000) : ∀ {n : Nat}, n ≤ 100 → (∀ k, k < n → -(B : Int) ≤ (f k).toInt ∧ (f k).toInt ≤ B) → -((B * n : Nat) : Int) ≤ (sm f n).toInt ∧ (sm f n).toInt ≤ ((B * n : Nat) : Int)
  | 0, _, _ => by simp [sm]
  | n + 1, hn, h => by
    have h1 := sm_bd B hB (n := n) (by omega) (fun k hk => h k (by omega))
    have h2 := h n (by omega)
    have h3 : B * n ≤ 1000000 * 100 := Nat.mul_le_mul hB (by omega)
    have h4 : B * (n + 1) = B * n + B := Nat.mul_succ B n
    rw [sm, add_int (by omega) (by omega)]
    omega
theorem due_bd {c : Nat → Int32} (O : okC c) {h : Nat} (hh : h < hN c) : -80000 ≤ (due c h).toInt ∧ (due c h).toInt ≤ 80000 := by
  have h8 := (ok_h O).2
  have key := sm_bd (f := fun o => c (69 + 8 * o + h) - c (69 + 8 * h + o)) 9999 (by decide) (n := hN c) (by omega) (fun k hk => by
    have b1 := O.2.2.2.2.2.2.1 k h hk hh
    have b2 := O.2.2.2.2.2.2.1 h k hh hk
    have e1 := bdd_int b1 (by decide)
    have e2 := bdd_int b2 (by decide)
    have g1 := b1.2.2
    have g2 := b2.2.2
    show -((9999 : Nat) : Int) ≤ (c (69 + 8 * k + h) - c (69 + 8 * h + k)).toInt ∧ (c (69 + 8 * k + h) - c (69 + 8 * h + k)).toInt ≤ ((9999 : Nat) : Int)
    rw [sub_int (by omega) (by omega)]
    omega)
  unfold due
  have : 9999 * hN c ≤ 9999 * 8 := Nat.mul_le_mul_left _ h8
  omega
/-- how far two places are apart -/
def dst (x y : Nat) : Nat := (x - y) + (y - x)
theorem abI_dst {a b : Nat} (ha : a < 1000000) (hb : b < 1000000) : abI (nI a - nI b) = nI (dst a b) := by
  unfold abI dst
  have e : (nI a - nI b).toInt = (a : Int) - b := pk_sub_toInt (by omega) (by omega)
  by_cases h : 0 ≤ nI a - nI b
  · rw [if_pos h]
    rw [Int32.le_iff_toInt_le, e, Int32.toInt_zero] at h
    apply Int32.toInt_inj.mp
    rw [e, nI_toInt (by omega)]
    omega
  · rw [if_neg h]
    rw [Int32.le_iff_toInt_le, e, Int32.toInt_zero] at h
    apply Int32.toInt_inj.mp
    rw [sub_int (by rw [e, Int32.toInt_zero]; omega) (by rw [e, Int32.toInt_zero]; omega), e, Int32.toInt_zero, nI_toInt (by omega)]
    omega
theorem near_int {c : Nat → Int32} (O : okC c) {g h : Nat} (hg : g < gN c) (hh : h < hN c) : abI (c (145 + g) - c (5 + h)) = nI (dst (na c (145 + g)) (na c (5 + h))) ∧ dst (na c (145 + g)) (na c (5 + h)) ≤ 60 := by
  obtain ⟨-, -, -, ⟨a1, a2, a3⟩, -⟩ := O.2.2.2.2.2.2.2.1 g hg
  obtain ⟨⟨b1, b2, b3⟩, -⟩ := O.2.2.2.2.2.1 h hh
  refine ⟨?_, by unfold dst; omega⟩
  have := abI_dst (a := na c (145 + g)) (b := na c (5 + h)) (by omega) (by omega)
  rw [← a1, ← b1] at this
  exact this
/-- lateness is rank, the other way round -/
theorem late_int {c : Nat → Int32} (O : okC c) {g h : Nat} (hg : g < gN c) (hh : h < hN c) : (late c g h).toInt = -(rank c g h).toInt := by
  unfold late rank
  by_cases h0 : c 3 = 0
  · rw [if_pos h0, if_pos h0]
    have b := bdd_int (O.2.2.2.2.2.1 h hh).2.1 (by decide)
    rw [neg_int (by omega)]
  · rw [if_neg h0, if_neg h0]
    by_cases h1 : c 3 = 1
    · rw [if_pos h1, if_pos h1]
      have b := due_bd O hh
      rw [neg_int (by omega)]
    · rw [if_neg h1, if_neg h1]
      by_cases h2 : c 3 = 2
      · rw [if_pos h2, if_pos h2]
        obtain ⟨e, b⟩ := near_int O hg hh
        rw [e, neg_int (by rw [nI_toInt (by omega)]; omega)]
        omega
      · rw [if_neg h2, if_neg h2]
        decide
theorem late_le {c : Nat → Int32} (O : okC c) {g h i : Nat} (hg : g < gN c) (hh : h < hN c) (hi : i < hN c) : late c g i ≤ late c g h ↔ ¬ rank c g i < rank c g h := by
  rw [Int32.le_iff_toInt_le, late_int O hg hh, late_int O hg hi, Int32.lt_iff_toInt_lt]
  omega
theorem fb_inv (c : Nat → Int32) (g : Nat) : ∀ n, (fb c g n).1 = -1 ∨ ∃ b, b < n ∧ (fb c g n).1 = nI b ∧ (fb c g n).2 = rank c g b ∧ canT c g b
  | 0 => Or.inl rfl
  | n + 1 => by
    have h := fb_inv c g n
    have lift : (fb c g n).1 = -1 ∨ ∃ b, b < n + 1 ∧ (fb c g n).1 = nI b ∧ (fb c g n).2 = rank c g b ∧ canT c g b := by
      rcases h with h | ⟨b, h1, h2⟩
      · exact Or.inl h
      · exact Or.inr ⟨b, by omega, h2⟩
    unfold fb
    by_cases h1 : canT c g n
    · rw [if_pos h1]
      by_cases h2 : (fb c g n).1 = -1 ∨ (fb c g n).2 < rank c g n
      · rw [if_pos h2]
        exact Or.inr ⟨n, by omega, rfl, rfl, h1⟩
      · rw [if_neg h2]
        exact lift
    · rw [if_neg h1]
      exact lift
theorem neg1_lt : ((-1 : Int32) < 0) := by decide
theorem neg1_ne {b : Nat} (h : b < 1000000) : ¬ nI b = -1 := fun z => absurd (z ▸ neg1_lt) (nI_pos (by omega))
section Md
variable {ρ : Type} {M : Mm} {c : Nat → Int32}
theorem q_chosen (D : md M c) (O : okC c) {g : Nat} (hg : g < gN c) : f_X12_chosenBy M (some 207) (nI g) = some ((fb c g (hN c)).1, M) := by
  have h8 := (ok_h O).2
  have g4 := (ok_g O).2
  refine lup0 (fun f k => f_X12_chosenBy_4 f M (some 207) (nI g) (fb c g k).1 (nI k)) (hN c) _ (by omega) (fun f k hk => ?_) (fun f => ?_)
  · rw [f_X12_chosenBy_4]
    simp (disch := omega) only [↓m_r4 D.1, ↓m_r5 D.1, ↓m_r6 D.1, ↓m_r7 D.1, ↓m_r20 D.1, ↓m_r21 D.1, ↓m_r22 D.1, ↓m_r27 D.1, ↓m_r28 D.1, ↓m_r29 D.1, ↓m_r31 D.1, ↓m_r32 D.1, ↓m_r35 D.1, ↓m_ck D.1, ↓m_c0 D, ↓m_c1 D, ↓m_c2 D, ↓m_c3 D, ↓m_c4 D, ↓m_c D, i2, i3, i4, i5, i13, i21, i29, i37, i45, i53, i61, i69, i133, i137, i141, i145, i149, i153, i157, i161, i167, i4m, i6m, i8m, i9m, i18m, i60m, i256m, i450m, nI_add, ↓nmI_s, ↓bd_s, ↓bv_s, nI_1, ↓reduceIte, hc_in O hk, if_false, q_isOn D]
    by_cases h1 : isOn c k
    · rw [if_pos h1, if_neg (by decide)]
      simp (disch := omega) only [↓m_r4 D.1, ↓m_r5 D.1, ↓m_r6 D.1, ↓m_r7 D.1, ↓m_r20 D.1, ↓m_r21 D.1, ↓m_r22 D.1, ↓m_r27 D.1, ↓m_r28 D.1, ↓m_r29 D.1, ↓m_r31 D.1, ↓m_r32 D.1, ↓m_r35 D.1, ↓m_ck D.1, ↓m_c0 D, ↓m_c1 D, ↓m_c2 D, ↓m_c3 D, ↓m_c4 D, ↓m_c D, i2, i3, i4, i5, i13, i21, i29, i37, i45, i53, i61, i69, i133, i137, i141, i145, i149, i153, i157, i161, i167, i4m, i6m, i8m, i9m, i18m, i60m, i256m, i450m, nI_add, ↓nmI_s, ↓bd_s, ↓bv_s, nI_1, ↓reduceIte, q_taken D O hg]
      by_cases h2 : free c g k
      · rw [if_pos h2, if_pos rfl]
        have h3 : canT c g k := ⟨h1, h2⟩
        rcases fb_inv c g k with h4 | ⟨b, hb, h4, h5, h6⟩
        · rw [h4, if_pos neg1_lt, f_X12_chosenBy_50, f_X12_chosenBy_52, fb, if_pos h3, if_pos (Or.inl h4), nI_1]
        · have h7 : ¬ nI b = -1 := neg1_ne (by omega)
          rw [h4, if_neg (nI_pos (by omega)), q_late D O hg hk, bd_s, m_ck D.1, q_late D O hg (by omega : b < hN c), bd_s, fb, if_pos h3, h4, h5]
          by_cases h8 : late c g b ≤ late c g k
          · rw [if_pos h8, f_X12_chosenBy_52, if_neg (by rintro (z | z); exact h7 z; exact (late_le O hg hk (by omega)).mp h8 z), h4, nI_1]
          · have h9 : rank c g b < rank c g k := Decidable.byContradiction fun z => h8 ((late_le O hg hk (by omega)).mpr z)
            rw [if_neg h8, f_X12_chosenBy_50, f_X12_chosenBy_52, if_pos (Or.inr h9), nI_1]
      · rw [if_neg h2, if_neg (by decide), f_X12_chosenBy_52, fb, if_neg (fun z => h2 z.2), nI_1]
    · rw [if_neg h1, if_pos rfl, f_X12_chosenBy_52, fb, if_neg (fun z => h1 z.1), nI_1]
  · simp (disch := omega) only [f_X12_chosenBy_4, ↓m_r4 D.1, ↓m_r5 D.1, ↓m_r6 D.1, ↓m_r7 D.1, ↓m_r20 D.1, ↓m_r21 D.1, ↓m_r22 D.1, ↓m_r27 D.1, ↓m_r28 D.1, ↓m_r29 D.1, ↓m_r31 D.1, ↓m_r32 D.1, ↓m_r35 D.1, ↓m_ck D.1, ↓m_c0 D, ↓m_c1 D, ↓m_c2 D, ↓m_c3 D, ↓m_c4 D, ↓m_c D, i2, i3, i4, i5, i13, i21, i29, i37, i45, i53, i61, i69, i133, i137, i141, i145, i149, i153, i157, i161, i167, i4m, i6m, i8m, i9m, i18m, i60m, i256m, i450m, nI_add, ↓nmI_s, ↓bd_s, ↓bv_s, nI_1, ↓reduceIte, hc_out O, if_true]
end Md
