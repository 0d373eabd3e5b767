theorem z10 : ((1 : Int32) = 0) = False := eq_false (by decide)
theorem z01 : ((0 : Int32) = 1) = False := eq_false (by decide)
/-- lateness by the law, the reference's way -/
def late (c : Nat → Int32) (g h : Nat) : Int32 := if c 3 = 0 then -(c (13 + h)) else if c 3 = 1 then -(due c h) else if c 3 = 2 then abI (c (145 + g) - c (5 + h)) else 0
def holdM (c : Nat → Int32) (h : Nat) : Int32 := (10 + c (29 + h)) + 3 * c (45 + h)
/-- the worth of all that stand (1), of all that don't (0) -/
def wst (c : Nat → Int32) (b : Int32) : Int32 := sm (fun h => if (if c (61 + h) = 1 then (1 : Int32) else 0) = b then c (13 + h) else 0) (hN c)
section Md
variable {ρ : Type} {M : Mm} {c : Nat → Int32}
theorem q_stands (D : md M c) {h : Nat} (hh : h < 8) : f_X12_stands M (some 207) (nI h) = some (if c (61 + h) = 1 then 1 else 0, M) := by
  unfold f_X12_stands g_X12_stands
  simp (disch := omega) only [↓m_r4 D.1, ↓m_r5 D.1, ↓m_r6 D.1, ↓m_r7 D.1, ↓m_r20 D.1, ↓m_r21 D.1, ↓m_r22 D.1, ↓m_r27 D.1, ↓m_r28 D.1, ↓m_r29 D.1, ↓m_r31 D.1, ↓m_r32 D.1, ↓m_r35 D.1, ↓m_ck D.1, ↓m_c0 D, ↓m_c1 D, ↓m_c2 D, ↓m_c3 D, ↓m_c4 D, ↓m_c D, i2, i3, i4, i5, i13, i21, i29, i37, i45, i53, i61, i69, i133, i137, i141, i145, i149, i153, i157, i161, i167, i4m, i6m, i8m, i9m, i18m, i60m, i256m, i450m, nI_add, ↓nmI_s, ↓bd_s, ↓bv_s, nI_1, ↓reduceIte]
  exact zc_if
theorem q_isOn (D : md M c) {h : Nat} (hh : h < 8) : f_X12_isOn M (some 207) (nI h) = some (if isOn c h then 1 else 0, M) := by
  unfold f_X12_isOn g_X12_isOn
  by_cases h1 : c (61 + h) = 1
  · by_cases h2 : c (53 + h) ≤ 0
    · have h3 : ¬ isOn c h := fun z => absurd z.2 (Int32.not_lt.mpr h2)
      simp (disch := omega) only [↓m_r4 D.1, ↓m_r5 D.1, ↓m_r6 D.1, ↓m_r7 D.1, ↓m_r20 D.1, ↓m_r21 D.1, ↓m_r22 D.1, ↓m_r27 D.1, ↓m_r28 D.1, ↓m_r29 D.1, ↓m_r31 D.1, ↓m_r32 D.1, ↓m_r35 D.1, ↓m_ck D.1, ↓m_c0 D, ↓m_c1 D, ↓m_c2 D, ↓m_c3 D, ↓m_c4 D, ↓m_c D, i2, i3, i4, i5, i13, i21, i29, i37, i45, i53, i61, i69, i133, i137, i141, i145, i149, i153, i157, i161, i167, i4m, i6m, i8m, i9m, i18m, i60m, i256m, i450m, nI_add, ↓nmI_s, ↓bd_s, ↓bv_s, nI_1, ↓reduceIte, q_stands D, h1, h2, h3, z10, z01, if_true, if_false, ne_eq, not_true_eq_false, not_false_eq_true, true_and, and_true, false_and, and_false, zc0]
    · have h3 : isOn c h := ⟨h1, Int32.not_le.mp h2⟩
      rw [if_pos h3]
      simp (disch := omega) only [↓m_r4 D.1, ↓m_r5 D.1, ↓m_r6 D.1, ↓m_r7 D.1, ↓m_r20 D.1, ↓m_r21 D.1, ↓m_r22 D.1, ↓m_r27 D.1, ↓m_r28 D.1, ↓m_r29 D.1, ↓m_r31 D.1, ↓m_r32 D.1, ↓m_r35 D.1, ↓m_ck D.1, ↓m_c0 D, ↓m_c1 D, ↓m_c2 D, ↓m_c3 D, ↓m_c4 D, ↓m_c D, i2, i3, i4, i5, i13, i21, i29, i37, i45, i53, i61, i69, i133, i137, i141, i145, i149, i153, i157, i161, i167, i4m, i6m, i8m, i9m, i18m, i60m, i256m, i450m, nI_add, ↓nmI_s, ↓bd_s, ↓bv_s, nI_1, ↓reduceIte, q_stands D, h1, h2, z10, z01, if_true, if_false, ne_eq, not_true_eq_false, not_false_eq_true, true_and, and_true, false_and, and_false, zc1]
  · have h3 : ¬ isOn c h := fun z => h1 z.1
    rw [if_neg h3]
    simp (disch := omega) only [↓m_r4 D.1, ↓m_r5 D.1, ↓m_r6 D.1, ↓m_r7 D.1, ↓m_r20 D.1, ↓m_r21 D.1, ↓m_r22 D.1, ↓m_r27 D.1, ↓m_r28 D.1, ↓m_r29 D.1, ↓m_r31 D.1, ↓m_r32 D.1, ↓m_r35 D.1, ↓m_ck D.1, ↓m_c0 D, ↓m_c1 D, ↓m_c2 D, ↓m_c3 D, ↓m_c4 D, ↓m_c D, i2, i3, i4, i5, i13, i21, i29, i37, i45, i53, i61, i69, i133, i137, i141, i145, i149, i153, i157, i161, i167, i4m, i6m, i8m, i9m, i18m, i60m, i256m, i450m, nI_add, ↓nmI_s, ↓bd_s, ↓bv_s, nI_1, ↓reduceIte, q_stands D, h1, z10, z01, if_true, if_false, ne_eq, not_true_eq_false, not_false_eq_true, true_and, and_true, false_and, and_false, zc0]
theorem q_holds (D : md M c) {h : Nat} (hh : h < 8) : f_X12_holds M (some 207) (nI h) = some (holdM c h, M) := by
  unfold f_X12_holds
  simp (disch := omega) only [↓m_r4 D.1, ↓m_r5 D.1, ↓m_r6 D.1, ↓m_r7 D.1, ↓m_r20 D.1, ↓m_r21 D.1, ↓m_r22 D.1, ↓m_r27 D.1, ↓m_r28 D.1, ↓m_r29 D.1, ↓m_r31 D.1, ↓m_r32 D.1, ↓m_r35 D.1, ↓m_ck D.1, ↓m_c0 D, ↓m_c1 D, ↓m_c2 D, ↓m_c3 D, ↓m_c4 D, ↓m_c D, i2, i3, i4, i5, i13, i21, i29, i37, i45, i53, i61, i69, i133, i137, i141, i145, i149, i153, i157, i161, i167, i4m, i6m, i8m, i9m, i18m, i60m, i256m, i450m, nI_add, ↓nmI_s, ↓bd_s, ↓bv_s, nI_1, ↓reduceIte]
  rfl
theorem q_due (D : md M c) (O : okC c) {h : Nat} (hh : h < hN c) : f_X12_dueOf M (some 207) (nI h) = some (due c h, M) := by
  have h8 := (ok_h O).2
  refine lup0 (fun f k => f_X12_dueOf_4 f M (some 207) (nI h) (sm (fun o => c (69 + 8 * o + h) - c (69 + 8 * h + o)) k) (nI k)) (hN c) _ (by omega) (fun f k hk => ?_) (fun f => ?_)
  · simp (disch := omega) only [f_X12_dueOf_4, ↓m_r4 D.1, ↓m_r5 D.1, ↓m_r6 D.1, ↓m_r7 D.1, ↓m_r20 D.1, ↓m_r21 D.1, ↓m_r22 D.1, ↓m_r27 D.1, ↓m_r28 D.1, ↓m_r29 D.1, ↓m_r31 D.1, ↓m_r32 D.1, ↓m_r35 D.1, ↓m_ck D.1, ↓m_c0 D, ↓m_c1 D, ↓m_c2 D, ↓m_c3 D, ↓m_c4 D, ↓m_c D, i2, i3, i4, i5, i13, i21, i29, i37, i45, i53, i61, i69, i133, i137, i141, i145, i149, i153, i157, i161, i167, i4m, i6m, i8m, i9m, i18m, i60m, i256m, i450m, nI_add, ↓nmI_s, ↓bd_s, ↓bv_s, nI_1, ↓reduceIte, hc_in O hk, if_false, sm]
  · simp (disch := omega) only [f_X12_dueOf_4, ↓m_r4 D.1, ↓m_r5 D.1, ↓m_r6 D.1, ↓m_r7 D.1, ↓m_r20 D.1, ↓m_r21 D.1, ↓m_r22 D.1, ↓m_r27 D.1, ↓m_r28 D.1, ↓m_r29 D.1, ↓m_r31 D.1, ↓m_r32 D.1, ↓m_r35 D.1, ↓m_ck D.1, ↓m_c0 D, ↓m_c1 D, ↓m_c2 D, ↓m_c3 D, ↓m_c4 D, ↓m_c D, i2, i3, i4, i5, i13, i21, i29, i37, i45, i53, i61, i69, i133, i137, i141, i145, i149, i153, i157, i161, i167, i4m, i6m, i8m, i9m, i18m, i60m, i256m, i450m, nI_add, ↓nmI_s, ↓bd_s, ↓bv_s, nI_1, ↓reduceIte, hc_out O, if_true, due]
theorem q_takes (D : md M c) (O : okC c) {g h : Nat} (hg : g < gN c) (hh : h < 8) : f_X12_takesOf M (some 207) (nI g) (nI h) = some (takes c g h, M) := by
  have g4 := (ok_g O).2
  obtain ⟨-, ⟨e1, e2, e3⟩, -⟩ := O.2.2.2.2.2.2.2.1 g hg
  have e4 : ¬ c (137 + g) = 0 := by rw [e1]; exact nI_pos0 (by omega) (by omega)
  unfold f_X12_takesOf
  simp (disch := omega) only [↓m_r4 D.1, ↓m_r5 D.1, ↓m_r6 D.1, ↓m_r7 D.1, ↓m_r20 D.1, ↓m_r21 D.1, ↓m_r22 D.1, ↓m_r27 D.1, ↓m_r28 D.1, ↓m_r29 D.1, ↓m_r31 D.1, ↓m_r32 D.1, ↓m_r35 D.1, ↓m_ck D.1, ↓m_c0 D, ↓m_c1 D, ↓m_c2 D, ↓m_c3 D, ↓m_c4 D, ↓m_c D, i2, i3, i4, i5, i13, i21, i29, i37, i45, i53, i61, i69, i133, i137, i141, i145, i149, i153, i157, i161, i167, i4m, i6m, i8m, i9m, i18m, i60m, i256m, i450m, nI_add, ↓nmI_s, ↓bd_s, ↓bv_s, nI_1, ↓reduceIte]
  rw [dvI_s e4]
  rfl
theorem q_walk (D : md M c) {g h : Nat} (hg : g < 4) (hh : h < 8) : f_X12_walkOf M (some 207) (nI g) (nI h) = some (walk c g h, M) := by
  unfold f_X12_walkOf
  simp (disch := omega) only [↓m_r4 D.1, ↓m_r5 D.1, ↓m_r6 D.1, ↓m_r7 D.1, ↓m_r20 D.1, ↓m_r21 D.1, ↓m_r22 D.1, ↓m_r27 D.1, ↓m_r28 D.1, ↓m_r29 D.1, ↓m_r31 D.1, ↓m_r32 D.1, ↓m_r35 D.1, ↓m_ck D.1, ↓m_c0 D, ↓m_c1 D, ↓m_c2 D, ↓m_c3 D, ↓m_c4 D, ↓m_c D, i2, i3, i4, i5, i13, i21, i29, i37, i45, i53, i61, i69, i133, i137, i141, i145, i149, i153, i157, i161, i167, i4m, i6m, i8m, i9m, i18m, i60m, i256m, i450m, nI_add, ↓nmI_s, ↓bd_s, ↓bv_s, nI_1, ↓reduceIte]
  rfl
theorem q_worthOf (D : md M c) (O : okC c) (b : Int32) : f_X12_worthOf M (some 207) b = some (wst c b, M) := by
  have h8 := (ok_h O).2
  refine lup0 (fun f k => f_X12_worthOf_4 f M (some 207) b (sm (fun h => if (if c (61 + h) = 1 then (1 : Int32) else 0) = b then c (13 + h) else 0) k) (nI k)) (hN c) _ (by omega) (fun f k hk => ?_) (fun f => ?_)
  · by_cases h1 : (if c (61 + k) = 1 then (1 : Int32) else 0) = b
    · simp (disch := omega) only [f_X12_worthOf_4, ↓m_r4 D.1, ↓m_r5 D.1, ↓m_r6 D.1, ↓m_r7 D.1, ↓m_r20 D.1, ↓m_r21 D.1, ↓m_r22 D.1, ↓m_r27 D.1, ↓m_r28 D.1, ↓m_r29 D.1, ↓m_r31 D.1, ↓m_r32 D.1, ↓m_r35 D.1, ↓m_ck D.1, ↓m_c0 D, ↓m_c1 D, ↓m_c2 D, ↓m_c3 D, ↓m_c4 D, ↓m_c D, i2, i3, i4, i5, i13, i21, i29, i37, i45, i53, i61, i69, i133, i137, i141, i145, i149, i153, i157, i161, i167, i4m, i6m, i8m, i9m, i18m, i60m, i256m, i450m, nI_add, ↓nmI_s, ↓bd_s, ↓bv_s, nI_1, ↓reduceIte, hc_in O hk, if_false, q_stands D, sm, h1, if_true, f_X12_worthOf_37]
    · simp (disch := omega) only [f_X12_worthOf_4, ↓m_r4 D.1, ↓m_r5 D.1, ↓m_r6 D.1, ↓m_r7 D.1, ↓m_r20 D.1, ↓m_r21 D.1, ↓m_r22 D.1, ↓m_r27 D.1, ↓m_r28 D.1, ↓m_r29 D.1, ↓m_r31 D.1, ↓m_r32 D.1, ↓m_r35 D.1, ↓m_ck D.1, ↓m_c0 D, ↓m_c1 D, ↓m_c2 D, ↓m_c3 D, ↓m_c4 D, ↓m_c D, i2, i3, i4, i5, i13, i21, i29, i37, i45, i53, i61, i69, i133, i137, i141, i145, i149, i153, i157, i161, i167, i4m, i6m, i8m, i9m, i18m, i60m, i256m, i450m, nI_add, ↓nmI_s, ↓bd_s, ↓bv_s, nI_1, ↓reduceIte, hc_in O hk, if_false, q_stands D, sm, h1, if_true, f_X12_worthOf_37]
  · simp (disch := omega) only [f_X12_worthOf_4, ↓m_r4 D.1, ↓m_r5 D.1, ↓m_r6 D.1, ↓m_r7 D.1, ↓m_r20 D.1, ↓m_r21 D.1, ↓m_r22 D.1, ↓m_r27 D.1, ↓m_r28 D.1, ↓m_r29 D.1, ↓m_r31 D.1, ↓m_r32 D.1, ↓m_r35 D.1, ↓m_ck D.1, ↓m_c0 D, ↓m_c1 D, ↓m_c2 D, ↓m_c3 D, ↓m_c4 D, ↓m_c D, i2, i3, i4, i5, i13, i21, i29, i37, i45, i53, i61, i69, i133, i137, i141, i145, i149, i153, i157, i161, i167, i4m, i6m, i8m, i9m, i18m, i60m, i256m, i450m, nI_add, ↓nmI_s, ↓bd_s, ↓bv_s, nI_1, ↓reduceIte, hc_out O, if_true, wst]
theorem q_allCh (D : md M c) (O : okC c) : f_X12_allChances M (some 207) = some (allCh c, M) := by
  have h8 := (ok_w O).2
  refine lup0 (fun f k => f_X12_allChances_4 f M (some 207) (sm (fun w => c (167 + w)) k) (nI k)) (wN c) _ (by omega) (fun f k hk => ?_) (fun f => ?_)
  · simp (disch := omega) only [f_X12_allChances_4, ↓m_r4 D.1, ↓m_r5 D.1, ↓m_r6 D.1, ↓m_r7 D.1, ↓m_r20 D.1, ↓m_r21 D.1, ↓m_r22 D.1, ↓m_r27 D.1, ↓m_r28 D.1, ↓m_r29 D.1, ↓m_r31 D.1, ↓m_r32 D.1, ↓m_r35 D.1, ↓m_ck D.1, ↓m_c0 D, ↓m_c1 D, ↓m_c2 D, ↓m_c3 D, ↓m_c4 D, ↓m_c D, i2, i3, i4, i5, i13, i21, i29, i37, i45, i53, i61, i69, i133, i137, i141, i145, i149, i153, i157, i161, i167, i4m, i6m, i8m, i9m, i18m, i60m, i256m, i450m, nI_add, ↓nmI_s, ↓bd_s, ↓bv_s, nI_1, ↓reduceIte, wc_in O hk, if_false, sm]
  · simp (disch := omega) only [f_X12_allChances_4, ↓m_r4 D.1, ↓m_r5 D.1, ↓m_r6 D.1, ↓m_r7 D.1, ↓m_r20 D.1, ↓m_r21 D.1, ↓m_r22 D.1, ↓m_r27 D.1, ↓m_r28 D.1, ↓m_r29 D.1, ↓m_r31 D.1, ↓m_r32 D.1, ↓m_r35 D.1, ↓m_ck D.1, ↓m_c0 D, ↓m_c1 D, ↓m_c2 D, ↓m_c3 D, ↓m_c4 D, ↓m_c D, i2, i3, i4, i5, i13, i21, i29, i37, i45, i53, i61, i69, i133, i137, i141, i145, i149, i153, i157, i161, i167, i4m, i6m, i8m, i9m, i18m, i60m, i256m, i450m, nI_add, ↓nmI_s, ↓bd_s, ↓bv_s, nI_1, ↓reduceIte, wc_out O, if_true, allCh]
theorem q_taken (D : md M c) (O : okC c) {g h : Nat} (hg : g < gN c) (hh : h < 8) : f_X12_isTaken M (some 207) (nI h) (nI g) = some (if free c g h then 0 else 1, M) := by
  have g4 := (ok_g O).2
  unfold f_X12_isTaken g_X12_isTaken
  have step : ∀ f k, k < gN c → (k ≠ g → ¬ c (149 + k) = nI h) → f_X12_isTaken_2 (f + 1) M (some 207) (nI h) (nI g) (nI k) = f_X12_isTaken_2 f M (some 207) (nI h) (nI g) (nI (k + 1)) := by
    intro f k hk hno
    by_cases e : k = g
    · subst e
      simp (disch := omega) only [f_X12_isTaken_2, ↓m_r4 D.1, ↓m_r5 D.1, ↓m_r6 D.1, ↓m_r7 D.1, ↓m_r20 D.1, ↓m_r21 D.1, ↓m_r22 D.1, ↓m_r27 D.1, ↓m_r28 D.1, ↓m_r29 D.1, ↓m_r31 D.1, ↓m_r32 D.1, ↓m_r35 D.1, ↓m_ck D.1, ↓m_c0 D, ↓m_c1 D, ↓m_c2 D, ↓m_c3 D, ↓m_c4 D, ↓m_c D, i2, i3, i4, i5, i13, i21, i29, i37, i45, i53, i61, i69, i133, i137, i141, i145, i149, i153, i157, i161, i167, i4m, i6m, i8m, i9m, i18m, i60m, i256m, i450m, nI_add, ↓nmI_s, ↓bd_s, ↓bv_s, nI_1, ↓reduceIte, gc_in O hk, if_false, if_true, f_X12_isTaken_33]
    · have e2 : ¬ nI k = nI g := by rw [nI_eq' (by omega) (by omega)]; exact e
      have e3 := hno e
      simp (disch := omega) only [f_X12_isTaken_2, ↓m_r4 D.1, ↓m_r5 D.1, ↓m_r6 D.1, ↓m_r7 D.1, ↓m_r20 D.1, ↓m_r21 D.1, ↓m_r22 D.1, ↓m_r27 D.1, ↓m_r28 D.1, ↓m_r29 D.1, ↓m_r31 D.1, ↓m_r32 D.1, ↓m_r35 D.1, ↓m_ck D.1, ↓m_c0 D, ↓m_c1 D, ↓m_c2 D, ↓m_c3 D, ↓m_c4 D, ↓m_c D, i2, i3, i4, i5, i13, i21, i29, i37, i45, i53, i61, i69, i133, i137, i141, i145, i149, i153, i157, i161, i167, i4m, i6m, i8m, i9m, i18m, i60m, i256m, i450m, nI_add, ↓nmI_s, ↓bd_s, ↓bv_s, nI_1, ↓reduceIte, gc_in O hk, if_false, e2, e3, f_X12_isTaken_33]
  by_cases h2 : free c g h
  · rw [if_pos h2]
    rw [show f_X12_isTaken_2 fu M (some 207) (nI h) (nI g) 0 = some (0, M) from lup0 (fun f k => f_X12_isTaken_2 f M (some 207) (nI h) (nI g) (nI k)) (gN c) _ (by omega) (fun f k hk => step f k hk (h2 k hk)) (fun f => by simp (disch := omega) only [f_X12_isTaken_2, ↓m_r4 D.1, ↓m_r5 D.1, ↓m_r6 D.1, ↓m_r7 D.1, ↓m_r20 D.1, ↓m_r21 D.1, ↓m_r22 D.1, ↓m_r27 D.1, ↓m_r28 D.1, ↓m_r29 D.1, ↓m_r31 D.1, ↓m_r32 D.1, ↓m_r35 D.1, ↓m_ck D.1, ↓m_c0 D, ↓m_c1 D, ↓m_c2 D, ↓m_c3 D, ↓m_c4 D, ↓m_c D, i2, i3, i4, i5, i13, i21, i29, i37, i45, i53, i61, i69, i133, i137, i141, i145, i149, i153, i157, i161, i167, i4m, i6m, i8m, i9m, i18m, i60m, i256m, i450m, nI_add, ↓nmI_s, ↓bd_s, ↓bv_s, nI_1, ↓reduceIte, gc_out O, if_true]), zc0]
  · rw [if_neg h2]
    obtain ⟨b, ⟨hb1, hb2, hb3⟩, hmin⟩ := pk_least (fun k => k < gN c ∧ k ≠ g ∧ c (149 + k) = nI h) (by
      refine Classical.byContradiction fun hn => h2 (fun g' h3 h4 h5 => hn ⟨g', h3, h4, h5⟩))
    have e2 : ¬ nI b = nI g := by rw [nI_eq' (by omega) (by omega)]; exact hb2
    rw [show f_X12_isTaken_2 fu M (some 207) (nI h) (nI g) 0 = some (1, M) from lup0 (fun f k => f_X12_isTaken_2 f M (some 207) (nI h) (nI g) (nI k)) b _ (by omega) (fun f k hk => step f k (by omega) (fun h3 h4 => hmin k hk ⟨by omega, h3, h4⟩)) (fun f => by simp (disch := omega) only [f_X12_isTaken_2, ↓m_r4 D.1, ↓m_r5 D.1, ↓m_r6 D.1, ↓m_r7 D.1, ↓m_r20 D.1, ↓m_r21 D.1, ↓m_r22 D.1, ↓m_r27 D.1, ↓m_r28 D.1, ↓m_r29 D.1, ↓m_r31 D.1, ↓m_r32 D.1, ↓m_r35 D.1, ↓m_ck D.1, ↓m_c0 D, ↓m_c1 D, ↓m_c2 D, ↓m_c3 D, ↓m_c4 D, ↓m_c D, i2, i3, i4, i5, i13, i21, i29, i37, i45, i53, i61, i69, i133, i137, i141, i145, i149, i153, i157, i161, i167, i4m, i6m, i8m, i9m, i18m, i60m, i256m, i450m, nI_add, ↓nmI_s, ↓bd_s, ↓bv_s, nI_1, ↓reduceIte, gc_in O hb1, if_false, e2, hb3, if_true]), zc1]
theorem q_late (D : md M c) (O : okC c) {g h : Nat} (hg : g < gN c) (hh : h < hN c) : f_X12_lateness M (some 207) (nI g) (nI h) = some (late c g h, M) := by
  have g4 := (ok_g O).2
  have h8 := (ok_h O).2
  unfold f_X12_lateness late
  by_cases h0 : c 3 = 0
  · simp (disch := omega) only [↓m_r4 D.1, ↓m_r5 D.1, ↓m_r6 D.1, ↓m_r7 D.1, ↓m_r20 D.1, ↓m_r21 D.1, ↓m_r22 D.1, ↓m_r27 D.1, ↓m_r28 D.1, ↓m_r29 D.1, ↓m_r31 D.1, ↓m_r32 D.1, ↓m_r35 D.1, ↓m_ck D.1, ↓m_c0 D, ↓m_c1 D, ↓m_c2 D, ↓m_c3 D, ↓m_c4 D, ↓m_c D, i2, i3, i4, i5, i13, i21, i29, i37, i45, i53, i61, i69, i133, i137, i141, i145, i149, i153, i157, i161, i167, i4m, i6m, i8m, i9m, i18m, i60m, i256m, i450m, nI_add, ↓nmI_s, ↓bd_s, ↓bv_s, nI_1, ↓reduceIte, h0, if_true]
  · by_cases h1 : c 3 = 1
    · simp (disch := omega) only [↓m_r4 D.1, ↓m_r5 D.1, ↓m_r6 D.1, ↓m_r7 D.1, ↓m_r20 D.1, ↓m_r21 D.1, ↓m_r22 D.1, ↓m_r27 D.1, ↓m_r28 D.1, ↓m_r29 D.1, ↓m_r31 D.1, ↓m_r32 D.1, ↓m_r35 D.1, ↓m_ck D.1, ↓m_c0 D, ↓m_c1 D, ↓m_c2 D, ↓m_c3 D, ↓m_c4 D, ↓m_c D, i2, i3, i4, i5, i13, i21, i29, i37, i45, i53, i61, i69, i133, i137, i141, i145, i149, i153, i157, i161, i167, i4m, i6m, i8m, i9m, i18m, i60m, i256m, i450m, nI_add, ↓nmI_s, ↓bd_s, ↓bv_s, nI_1, ↓reduceIte, h1, if_true, z10, if_false, q_due D O hh]
    · by_cases h2 : c 3 = 2
      · have h3 : ¬ ((2 : Int32) = 0) := by decide
        have h4 : ¬ ((2 : Int32) = 1) := by decide
        simp (disch := omega) only [↓m_r4 D.1, ↓m_r5 D.1, ↓m_r6 D.1, ↓m_r7 D.1, ↓m_r20 D.1, ↓m_r21 D.1, ↓m_r22 D.1, ↓m_r27 D.1, ↓m_r28 D.1, ↓m_r29 D.1, ↓m_r31 D.1, ↓m_r32 D.1, ↓m_r35 D.1, ↓m_ck D.1, ↓m_c0 D, ↓m_c1 D, ↓m_c2 D, ↓m_c3 D, ↓m_c4 D, ↓m_c D, i2, i3, i4, i5, i13, i21, i29, i37, i45, i53, i61, i69, i133, i137, i141, i145, i149, i153, i157, i161, i167, i4m, i6m, i8m, i9m, i18m, i60m, i256m, i450m, nI_add, ↓nmI_s, ↓bd_s, ↓bv_s, nI_1, ↓reduceIte, h2, h3, h4, if_true, if_false]
      · simp (disch := omega) only [↓m_r4 D.1, ↓m_r5 D.1, ↓m_r6 D.1, ↓m_r7 D.1, ↓m_r20 D.1, ↓m_r21 D.1, ↓m_r22 D.1, ↓m_r27 D.1, ↓m_r28 D.1, ↓m_r29 D.1, ↓m_r31 D.1, ↓m_r32 D.1, ↓m_r35 D.1, ↓m_ck D.1, ↓m_c0 D, ↓m_c1 D, ↓m_c2 D, ↓m_c3 D, ↓m_c4 D, ↓m_c D, i2, i3, i4, i5, i13, i21, i29, i37, i45, i53, i61, i69, i133, i137, i141, i145, i149, i153, i157, i161, i167, i4m, i6m, i8m, i9m, i18m, i60m, i256m, i450m, nI_add, ↓nmI_s, ↓bd_s, ↓bv_s, nI_1, ↓reduceIte, h0, h1, h2, if_false]
theorem or0 (x : Int32) : x ||| 0 = x := Int32.or_zero
theorem q_worthIn (D : md M c) (O : okC c) (s : Int32) : f_X12_worthIn M (some 207) s = some (wof c s, M) := by
  have h8 := (ok_h O).2
  refine lup0 (fun f k => f_X12_worthIn_4 f M (some 207) s (sm (fun h => if hasB s h then c (13 + h) else 0) k) (nI k)) (hN c) _ (by omega) (fun f k hk => ?_) (fun f => ?_)
  · by_cases h1 : hasB s k
    · simp (disch := omega) only [f_X12_worthIn_4, ↓m_r4 D.1, ↓m_r5 D.1, ↓m_r6 D.1, ↓m_r7 D.1, ↓m_r20 D.1, ↓m_r21 D.1, ↓m_r22 D.1, ↓m_r27 D.1, ↓m_r28 D.1, ↓m_r29 D.1, ↓m_r31 D.1, ↓m_r32 D.1, ↓m_r35 D.1, ↓m_ck D.1, ↓m_c0 D, ↓m_c1 D, ↓m_c2 D, ↓m_c3 D, ↓m_c4 D, ↓m_c D, i2, i3, i4, i5, i13, i21, i29, i37, i45, i53, i61, i69, i133, i137, i141, i145, i149, i153, i157, i161, i167, i4m, i6m, i8m, i9m, i18m, i60m, i256m, i450m, nI_add, ↓nmI_s, ↓bd_s, ↓bv_s, nI_1, ↓reduceIte, hc_in O hk, if_false, q_has, sm, h1, if_true, z10, f_X12_worthIn_36]
      rw [if_pos h1]
    · simp (disch := omega) only [f_X12_worthIn_4, ↓m_r4 D.1, ↓m_r5 D.1, ↓m_r6 D.1, ↓m_r7 D.1, ↓m_r20 D.1, ↓m_r21 D.1, ↓m_r22 D.1, ↓m_r27 D.1, ↓m_r28 D.1, ↓m_r29 D.1, ↓m_r31 D.1, ↓m_r32 D.1, ↓m_r35 D.1, ↓m_ck D.1, ↓m_c0 D, ↓m_c1 D, ↓m_c2 D, ↓m_c3 D, ↓m_c4 D, ↓m_c D, i2, i3, i4, i5, i13, i21, i29, i37, i45, i53, i61, i69, i133, i137, i141, i145, i149, i153, i157, i161, i167, i4m, i6m, i8m, i9m, i18m, i60m, i256m, i450m, nI_add, ↓nmI_s, ↓bd_s, ↓bv_s, nI_1, ↓reduceIte, hc_in O hk, if_false, q_has, sm, h1, if_true, f_X12_worthIn_36]
  · simp (disch := omega) only [f_X12_worthIn_4, ↓m_r4 D.1, ↓m_r5 D.1, ↓m_r6 D.1, ↓m_r7 D.1, ↓m_r20 D.1, ↓m_r21 D.1, ↓m_r22 D.1, ↓m_r27 D.1, ↓m_r28 D.1, ↓m_r29 D.1, ↓m_r31 D.1, ↓m_r32 D.1, ↓m_r35 D.1, ↓m_ck D.1, ↓m_c0 D, ↓m_c1 D, ↓m_c2 D, ↓m_c3 D, ↓m_c4 D, ↓m_c D, i2, i3, i4, i5, i13, i21, i29, i37, i45, i53, i61, i69, i133, i137, i141, i145, i149, i153, i157, i161, i167, i4m, i6m, i8m, i9m, i18m, i60m, i256m, i450m, nI_add, ↓nmI_s, ↓bd_s, ↓bv_s, nI_1, ↓reduceIte, hc_out O, if_true, wof]
theorem q_onSet (D : md M c) (O : okC c) : f_X12_onSet M (some 207) = some (st (isOn c) (hN c), M) := by
  have h8 := (ok_h O).2
  refine lup0 (fun f k => f_X12_onSet_4 f M (some 207) (st (isOn c) k) (nI k)) (hN c) _ (by omega) (fun f k hk => ?_) (fun f => ?_)
  · by_cases h1 : isOn c k
    · rw [st_y h1]
      rw [f_X12_onSet_4]
      simp (disch := omega) only [↓m_r4 D.1, ↓m_r5 D.1, ↓m_r6 D.1, ↓m_r7 D.1, ↓m_r20 D.1, ↓m_r21 D.1, ↓m_r22 D.1, ↓m_r27 D.1, ↓m_r28 D.1, ↓m_r29 D.1, ↓m_r31 D.1, ↓m_r32 D.1, ↓m_r35 D.1, ↓m_ck D.1, ↓m_c0 D, ↓m_c1 D, ↓m_c2 D, ↓m_c3 D, ↓m_c4 D, ↓m_c D, i2, i3, i4, i5, i13, i21, i29, i37, i45, i53, i61, i69, i133, i137, i141, i145, i149, i153, i157, i161, i167, i4m, i6m, i8m, i9m, i18m, i60m, i256m, i450m, nI_add, ↓nmI_s, ↓bd_s, ↓bv_s, nI_1, ↓reduceIte, hc_in O hk, if_false, q_isOn D]
      rw [if_pos h1, if_neg (by decide), f_X12_onSet_30, nmI_s, nI_1]
    · rw [st_n h1]
      rw [f_X12_onSet_4]
      simp (disch := omega) only [↓m_r4 D.1, ↓m_r5 D.1, ↓m_r6 D.1, ↓m_r7 D.1, ↓m_r20 D.1, ↓m_r21 D.1, ↓m_r22 D.1, ↓m_r27 D.1, ↓m_r28 D.1, ↓m_r29 D.1, ↓m_r31 D.1, ↓m_r32 D.1, ↓m_r35 D.1, ↓m_ck D.1, ↓m_c0 D, ↓m_c1 D, ↓m_c2 D, ↓m_c3 D, ↓m_c4 D, ↓m_c D, i2, i3, i4, i5, i13, i21, i29, i37, i45, i53, i61, i69, i133, i137, i141, i145, i149, i153, i157, i161, i167, i4m, i6m, i8m, i9m, i18m, i60m, i256m, i450m, nI_add, ↓nmI_s, ↓bd_s, ↓bv_s, nI_1, ↓reduceIte, hc_in O hk, if_false, q_isOn D]
      rw [if_neg h1, if_pos rfl, f_X12_onSet_30, or0, nmI_s, nI_1]
  · simp (disch := omega) only [f_X12_onSet_4, ↓m_r4 D.1, ↓m_r5 D.1, ↓m_r6 D.1, ↓m_r7 D.1, ↓m_r20 D.1, ↓m_r21 D.1, ↓m_r22 D.1, ↓m_r27 D.1, ↓m_r28 D.1, ↓m_r29 D.1, ↓m_r31 D.1, ↓m_r32 D.1, ↓m_r35 D.1, ↓m_ck D.1, ↓m_c0 D, ↓m_c1 D, ↓m_c2 D, ↓m_c3 D, ↓m_c4 D, ↓m_c D, i2, i3, i4, i5, i13, i21, i29, i37, i45, i53, i61, i69, i133, i137, i141, i145, i149, i153, i157, i161, i167, i4m, i6m, i8m, i9m, i18m, i60m, i256m, i450m, nI_add, ↓nmI_s, ↓bd_s, ↓bv_s, nI_1, ↓reduceIte, hc_out O, if_true]
theorem holdM_lt (O : okC c) {h : Nat} (hh : h < hN c) (s : Int32) : s ≤ holdM c h ↔ s < holds c h := by
  obtain ⟨-, -, -, ⟨a1, a2, a3⟩, -, ⟨b1, b2, b3⟩, -⟩ := O.2.2.2.2.2.1 h hh
  have e1 : holdM c h = nI (10 + na c (29 + h) + 3 * na c (45 + h)) := by
    unfold holdM
    rw [a1, b1, show (10 : Int32) = nI 10 from rfl, show (3 : Int32) = nI 3 from rfl, nI_add, nI_mul, nI_add]
  have e2 : holds c h = nI (11 + na c (29 + h) + 3 * na c (45 + h)) := by
    unfold holds
    rw [a1, b1, show (11 : Int32) = nI 11 from rfl, show (3 : Int32) = nI 3 from rfl, nI_add, nI_mul, nI_add]
  rw [e1, e2, Int32.le_iff_toInt_le, Int32.lt_iff_toInt_lt, nI_toInt (by omega), nI_toInt (by omega)]
  omega
theorem q_fallSet (D : md M c) (O : okC c) (s : Int32) : f_X12_fallSet M (some 207) s = some (st (falls c s) (hN c), M) := by
  have h8 := (ok_h O).2
  refine lup0 (fun f k => f_X12_fallSet_4 f M (some 207) s (st (falls c s) k) (nI k)) (hN c) _ (by omega) (fun f k hk => ?_) (fun f => ?_)
  · rw [f_X12_fallSet_4]
    simp (disch := omega) only [↓m_r4 D.1, ↓m_r5 D.1, ↓m_r6 D.1, ↓m_r7 D.1, ↓m_r20 D.1, ↓m_r21 D.1, ↓m_r22 D.1, ↓m_r27 D.1, ↓m_r28 D.1, ↓m_r29 D.1, ↓m_r31 D.1, ↓m_r32 D.1, ↓m_r35 D.1, ↓m_ck D.1, ↓m_c0 D, ↓m_c1 D, ↓m_c2 D, ↓m_c3 D, ↓m_c4 D, ↓m_c D, i2, i3, i4, i5, i13, i21, i29, i37, i45, i53, i61, i69, i133, i137, i141, i145, i149, i153, i157, i161, i167, i4m, i6m, i8m, i9m, i18m, i60m, i256m, i450m, nI_add, ↓nmI_s, ↓bd_s, ↓bv_s, nI_1, ↓reduceIte, hc_in O hk, if_false, q_isOn D]
    by_cases h1 : isOn c k
    · rw [if_pos h1, if_neg (by decide)]
      simp (disch := omega) only [↓m_r4 D.1, ↓m_r5 D.1, ↓m_r6 D.1, ↓m_r7 D.1, ↓m_r20 D.1, ↓m_r21 D.1, ↓m_r22 D.1, ↓m_r27 D.1, ↓m_r28 D.1, ↓m_r29 D.1, ↓m_r31 D.1, ↓m_r32 D.1, ↓m_r35 D.1, ↓m_ck D.1, ↓m_c0 D, ↓m_c1 D, ↓m_c2 D, ↓m_c3 D, ↓m_c4 D, ↓m_c D, i2, i3, i4, i5, i13, i21, i29, i37, i45, i53, i61, i69, i133, i137, i141, i145, i149, i153, i157, i161, i167, i4m, i6m, i8m, i9m, i18m, i60m, i256m, i450m, nI_add, ↓nmI_s, ↓bd_s, ↓bv_s, nI_1, ↓reduceIte, q_holds D]
      by_cases h2 : s ≤ holdM c k
      · rw [if_pos h2, st_n (fun z => z.2 ((holdM_lt O hk s).mp h2)), f_X12_fallSet_38, f_X12_fallSet_39, nmI_s, or0, nI_1]
      · rw [if_neg h2, st_y (p := falls c s) ⟨h1, fun z => h2 ((holdM_lt O hk s).mpr z)⟩, f_X12_fallSet_39, nmI_s, nI_1]
    · rw [if_neg h1, if_pos rfl, st_n (fun z => h1 z.1), f_X12_fallSet_38, f_X12_fallSet_39, nmI_s, or0, nI_1]
  · simp (disch := omega) only [f_X12_fallSet_4, ↓m_r4 D.1, ↓m_r5 D.1, ↓m_r6 D.1, ↓m_r7 D.1, ↓m_r20 D.1, ↓m_r21 D.1, ↓m_r22 D.1, ↓m_r27 D.1, ↓m_r28 D.1, ↓m_r29 D.1, ↓m_r31 D.1, ↓m_r32 D.1, ↓m_r35 D.1, ↓m_ck D.1, ↓m_c0 D, ↓m_c1 D, ↓m_c2 D, ↓m_c3 D, ↓m_c4 D, ↓m_c D, i2, i3, i4, i5, i13, i21, i29, i37, i45, i53, i61, i69, i133, i137, i141, i145, i149, i153, i157, i161, i167, i4m, i6m, i8m, i9m, i18m, i60m, i256m, i450m, nI_add, ↓nmI_s, ↓bd_s, ↓bv_s, nI_1, ↓reduceIte, hc_out O, if_true]
def hlp (c : Nat → Int32) (h : Nat) : Int32 := st (fun x => 0 < c (69 + 8 * x + h)) (hN c)
theorem q_helpedBy (D : md M c) (O : okC c) {h : Nat} (hh : h < hN c) : f_X12_helpedBy M (some 207) (nI h) = some (hlp c h, M) := by
  have h8 := (ok_h O).2
  refine lup0 (fun f k => f_X12_helpedBy_4 f M (some 207) (nI h) (st (fun x => 0 < c (69 + 8 * x + h)) k) (nI k)) (hN c) _ (by omega) (fun f k hk => ?_) (fun f => ?_)
  · rw [f_X12_helpedBy_4]
    simp (disch := omega) only [↓m_r4 D.1, ↓m_r5 D.1, ↓m_r6 D.1, ↓m_r7 D.1, ↓m_r20 D.1, ↓m_r21 D.1, ↓m_r22 D.1, ↓m_r27 D.1, ↓m_r28 D.1, ↓m_r29 D.1, ↓m_r31 D.1, ↓m_r32 D.1, ↓m_r35 D.1, ↓m_ck D.1, ↓m_c0 D, ↓m_c1 D, ↓m_c2 D, ↓m_c3 D, ↓m_c4 D, ↓m_c D, i2, i3, i4, i5, i13, i21, i29, i37, i45, i53, i61, i69, i133, i137, i141, i145, i149, i153, i157, i161, i167, i4m, i6m, i8m, i9m, i18m, i60m, i256m, i450m, nI_add, ↓nmI_s, ↓bd_s, ↓bv_s, nI_1, ↓reduceIte, hc_in O hk, if_false]
    by_cases h2 : c (69 + 8 * k + h) ≤ 0
    · rw [if_pos h2, st_n (fun z => absurd z (Int32.not_lt.mpr h2)), f_X12_helpedBy_39, nmI_s, or0, nI_1]
    · rw [if_neg h2, st_y (p := fun x => 0 < c (69 + 8 * x + h)) (Int32.not_le.mp h2), f_X12_helpedBy_39, nmI_s, nI_1]
  · simp (disch := omega) only [f_X12_helpedBy_4, ↓m_r4 D.1, ↓m_r5 D.1, ↓m_r6 D.1, ↓m_r7 D.1, ↓m_r20 D.1, ↓m_r21 D.1, ↓m_r22 D.1, ↓m_r27 D.1, ↓m_r28 D.1, ↓m_r29 D.1, ↓m_r31 D.1, ↓m_r32 D.1, ↓m_r35 D.1, ↓m_ck D.1, ↓m_c0 D, ↓m_c1 D, ↓m_c2 D, ↓m_c3 D, ↓m_c4 D, ↓m_c D, i2, i3, i4, i5, i13, i21, i29, i37, i45, i53, i61, i69, i133, i137, i141, i145, i149, i153, i157, i161, i167, i4m, i6m, i8m, i9m, i18m, i60m, i256m, i450m, nI_add, ↓nmI_s, ↓bd_s, ↓bv_s, nI_1, ↓reduceIte, hc_out O, if_true, hlp]
theorem q_isHouse (D : md M c) (x : Int32) : f_X12_isHouseAt M (some 207) x = some (if 0 ≤ x ∧ x ≤ c 0 - 1 then 1 else 0, M) := by
  unfold f_X12_isHouseAt g_X12_isHouseAt
  simp (disch := omega) only [↓m_r4 D.1, ↓m_r5 D.1, ↓m_r6 D.1, ↓m_r7 D.1, ↓m_r20 D.1, ↓m_r21 D.1, ↓m_r22 D.1, ↓m_r27 D.1, ↓m_r28 D.1, ↓m_r29 D.1, ↓m_r31 D.1, ↓m_r32 D.1, ↓m_r35 D.1, ↓m_ck D.1, ↓m_c0 D, ↓m_c1 D, ↓m_c2 D, ↓m_c3 D, ↓m_c4 D, ↓m_c D, i2, i3, i4, i5, i13, i21, i29, i37, i45, i53, i61, i69, i133, i137, i141, i145, i149, i153, i157, i161, i167, i4m, i6m, i8m, i9m, i18m, i60m, i256m, i450m, nI_add, ↓nmI_s, ↓bd_s, ↓bv_s, nI_1, ↓reduceIte]
  rw [show (0 : Int64) = Int32.toInt64 0 from rfl, q_in32, bd_s]
  by_cases h : 0 ≤ x ∧ x ≤ c 0 - 1
  · rw [if_pos h, zc1]
  · rw [if_neg h, zc0]
theorem q_isGang (D : md M c) (x : Int32) : f_X12_isGangAt M (some 207) x = some (if 0 ≤ x ∧ x ≤ c 1 - 1 then 1 else 0, M) := by
  unfold f_X12_isGangAt g_X12_isGangAt
  simp (disch := omega) only [↓m_r4 D.1, ↓m_r5 D.1, ↓m_r6 D.1, ↓m_r7 D.1, ↓m_r20 D.1, ↓m_r21 D.1, ↓m_r22 D.1, ↓m_r27 D.1, ↓m_r28 D.1, ↓m_r29 D.1, ↓m_r31 D.1, ↓m_r32 D.1, ↓m_r35 D.1, ↓m_ck D.1, ↓m_c0 D, ↓m_c1 D, ↓m_c2 D, ↓m_c3 D, ↓m_c4 D, ↓m_c D, i2, i3, i4, i5, i13, i21, i29, i37, i45, i53, i61, i69, i133, i137, i141, i145, i149, i153, i157, i161, i167, i4m, i6m, i8m, i9m, i18m, i60m, i256m, i450m, nI_add, ↓nmI_s, ↓bd_s, ↓bv_s, nI_1, ↓reduceIte]
  rw [show (0 : Int64) = Int32.toInt64 0 from rfl, q_in32, bd_s]
  by_cases h : 0 ≤ x ∧ x ≤ c 1 - 1
  · rw [if_pos h, zc1]
  · rw [if_neg h, zc0]
end Md
