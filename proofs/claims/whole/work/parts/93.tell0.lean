/-! CALLS THAT ONLY TELL -/
theorem j0 (x : Int32) : ((0 : Int64) ≤ Int32.toInt64 x) = (0 ≤ x) := propext (by rw [show (0 : Int64) = Int32.toInt64 0 from by decide, le64])
theorem j1 (x : Int32) : ((1 : Int64) ≤ Int32.toInt64 x) = (1 ≤ x) := propext (by rw [show (1 : Int64) = Int32.toInt64 1 from by decide, le64])
theorem u1 (x : Int32) : (Int32.toInt64 x ≤ (1 : Int64)) = (x ≤ 1) := propext (by rw [show (1 : Int64) = Int32.toInt64 1 from by decide, le64])
theorem u3 (x : Int32) : (Int32.toInt64 x ≤ (3 : Int64)) = (x ≤ 3) := propext (by rw [show (3 : Int64) = Int32.toInt64 3 from by decide, le64])
theorem u4 (x : Int32) : (Int32.toInt64 x ≤ (4 : Int64)) = (x ≤ 4) := propext (by rw [show (4 : Int64) = Int32.toInt64 4 from by decide, le64])
theorem u5 (x : Int32) : (Int32.toInt64 x ≤ (5 : Int64)) = (x ≤ 5) := propext (by rw [show (5 : Int64) = Int32.toInt64 5 from by decide, le64])
theorem u8 (x : Int32) : (Int32.toInt64 x ≤ (8 : Int64)) = (x ≤ 8) := propext (by rw [show (8 : Int64) = Int32.toInt64 8 from by decide, le64])
theorem u9 (x : Int32) : (Int32.toInt64 x ≤ (9 : Int64)) = (x ≤ 9) := propext (by rw [show (9 : Int64) = Int32.toInt64 9 from by decide, le64])
theorem u20 (x : Int32) : (Int32.toInt64 x ≤ (20 : Int64)) = (x ≤ 20) := propext (by rw [show (20 : Int64) = Int32.toInt64 20 from by decide, le64])
theorem u60 (x : Int32) : (Int32.toInt64 x ≤ (60 : Int64)) = (x ≤ 60) := propext (by rw [show (60 : Int64) = Int32.toInt64 60 from by decide, le64])
theorem u99 (x : Int32) : (Int32.toInt64 x ≤ (99 : Int64)) = (x ≤ 99) := propext (by rw [show (99 : Int64) = Int32.toInt64 99 from by decide, le64])
theorem u100 (x : Int32) : (Int32.toInt64 x ≤ (100 : Int64)) = (x ≤ 100) := propext (by rw [show (100 : Int64) = Int32.toInt64 100 from by decide, le64])
theorem u240 (x : Int32) : (Int32.toInt64 x ≤ (240 : Int64)) = (x ≤ 240) := propext (by rw [show (240 : Int64) = Int32.toInt64 240 from by decide, le64])
theorem u9999 (x : Int32) : (Int32.toInt64 x ≤ (9999 : Int64)) = (x ≤ 9999) := propext (by rw [show (9999 : Int64) = Int32.toInt64 9999 from by decide, le64])
theorem ul (x y : Int32) : (Int32.toInt64 x ≤ Int32.toInt64 y) = (x ≤ y) := propext (le64 x y)
/-- the first of the greatest, by a test -/
def am (p : Nat → Bool) (v : Nat → Int32) (r : Int32 → Int32 → Bool) (z : Int32) : Nat → Int32 × Int32
  | 0 => (-1, z)
  | n + 1 => if p n = true then (if (am p v r z n).1 = -1 ∨ r (am p v r z n).2 (v n) = true then (nI n, v n) else am p v r z n) else am p v r z n
section A
variable {p : Nat → Bool} {v : Nat → Int32} {r : Int32 → Int32 → Bool} {z : Int32} {n : Nat}
theorem am_inv (p : Nat → Bool) (v : Nat → Int32) (r : Int32 → Int32 → Bool) (z : Int32) : ∀ n, ((am p v r z n).1 = -1 ∧ (am p v r z n).2 = z) ∨ ∃ b, b < n ∧ (am p v r z n).1 = nI b ∧ (am p v r z n).2 = v b ∧ p b = true
  | 0 => Or.inl ⟨rfl, rfl⟩
  | n + 1 => by
    have ih := am_inv p v r z n
    have lift : ((am p v r z n).1 = -1 ∧ (am p v r z n).2 = z) ∨ ∃ b, b < n + 1 ∧ (am p v r z n).1 = nI b ∧ (am p v r z n).2 = v b ∧ p b = true := by
      rcases ih with h | ⟨b, h1, h2⟩
      · exact Or.inl h
      · exact Or.inr ⟨b, by omega, h2⟩
    unfold am
    by_cases h1 : p n = true
    · rw [if_pos h1]
      by_cases h2 : (am p v r z n).1 = -1 ∨ r (am p v r z n).2 (v n) = true
      · rw [if_pos h2]
        exact Or.inr ⟨n, by omega, rfl, rfl, h1⟩
      · rw [if_neg h2]
        exact lift
    · rw [if_neg h1]
      exact lift
theorem am_skip (h : ¬ p n = true) : am p v r z (n + 1) = am p v r z n := by
  conv => lhs; unfold am
  rw [if_neg h]
theorem am_take (h : p n = true) (h2 : (am p v r z n).1 = -1 ∨ r (am p v r z n).2 (v n) = true) : am p v r z (n + 1) = (nI n, v n) := by
  conv => lhs; unfold am
  rw [if_pos h, if_pos h2]
theorem am_keep (h : p n = true) (h2 : ¬ (am p v r z n).1 = -1) (h3 : ¬ r (am p v r z n).2 (v n) = true) : am p v r z (n + 1) = am p v r z n := by
  conv => lhs; unfold am
  rw [if_pos h, if_neg (by rintro (y | y); exact h2 y; exact h3 y)]
end A
/-- sums of numbers -/
def smN (f : Nat → Nat) : Nat → Nat
  | 0 => 0
  | n + 1 => smN f n + f n
theorem sm_nI {f : Nat → Int32} {g : Nat → Nat} : ∀ {n : Nat}, (∀ k, k < n → f k = nI (g k)) → sm f n = nI (smN g n)
  | 0, _ => rfl
  | n + 1, h => by rw [sm, smN, sm_nI (n := n) (fun k hk => h k (by omega)), h n (by omega), nI_add]
theorem smN_le {g : Nat → Nat} {B : Nat} : ∀ {n : Nat}, (∀ k, k < n → g k ≤ B) → smN g n ≤ B * n
  | 0, _ => by simp [smN]
  | n + 1, h => by
    have h1 := smN_le (B := B) (n := n) (fun k hk => h k (by omega))
    have h2 := h n (by omega)
    rw [smN, Nat.mul_succ]
    omega
def rskN (c : Nat → Int32) (h : Nat) : Nat := smN (fun w => if falls c (c (161 + w)) h then na c (167 + w) else 0) (wN c)
theorem rsk_nI {c : Nat → Int32} (O : okC c) (h : Nat) : rsk c h = nI (rskN c h) ∧ rskN c h ≤ 594 := by
  have w6 := (ok_w O).2
  constructor
  · refine sm_nI fun w hw => ?_
    by_cases q : falls c (c (161 + w)) h
    · rw [if_pos q, if_pos q]
      exact (O.2.2.2.2.2.2.2.2.1 w hw).2.1
    · rw [if_neg q, if_neg q]
      rfl
  · have := smN_le (g := fun w => if falls c (c (161 + w)) h then na c (167 + w) else 0) (B := 99) (n := wN c) (fun w hw => by
      have := (O.2.2.2.2.2.2.2.2.1 w hw).2.2.2
      by_cases q : falls c (c (161 + w)) h
      · show (if falls c (c (161 + w)) h then na c (167 + w) else 0) ≤ 99
        rw [if_pos q]; exact this
      · show (if falls c (c (161 + w)) h then na c (167 + w) else 0) ≤ 99
        rw [if_neg q]; omega)
    unfold rskN
    omega
def wofN (c : Nat → Int32) (s : Int32) : Nat := smN (fun h => if hasB s h then na c (13 + h) else 0) (hN c)
theorem wof_nI {c : Nat → Int32} (O : okC c) (s : Int32) : wof c s = nI (wofN c s) ∧ wofN c s ≤ 7992 := by
  have h8 := (ok_h O).2
  constructor
  · refine sm_nI fun h hh => ?_
    by_cases q : hasB s h
    · rw [if_pos q, if_pos q]
      exact (O.2.2.2.2.2.1 h hh).2.1.1
    · rw [if_neg q, if_neg q]
      rfl
  · have := smN_le (g := fun h => if hasB s h then na c (13 + h) else 0) (B := 999) (n := hN c) (fun h hh => by
      have := (O.2.2.2.2.2.1 h hh).2.1.2.2
      by_cases q : hasB s h
      · show (if hasB s h then na c (13 + h) else 0) ≤ 999
        rw [if_pos q]; exact this
      · show (if hasB s h then na c (13 + h) else 0) ≤ 999
        rw [if_neg q]; omega)
    unfold wofN
    omega
theorem hIx {c : Nat → Int32} (O : okC c) {x : Int32} (q : 0 ≤ x ∧ x ≤ c 0 - 1) : ∃ k, k < hN c ∧ x = nI k := by
  have := ok_h O
  rw [this.1] at q
  exact (in_ix (by omega)).mp q
theorem gIx {c : Nat → Int32} (O : okC c) {x : Int32} (q : 0 ≤ x ∧ x ≤ c 1 - 1) : ∃ k, k < gN c ∧ x = nI k := by
  have := ok_g O
  rw [this.1] at q
  exact (in_ix (by omega)).mp q
theorem wIx {c : Nat → Int32} (O : okC c) {x : Int32} (q : 0 ≤ x ∧ x ≤ c 2 - 1) : ∃ k, k < wN c ∧ x = nI k := by
  have := ok_w O
  rw [this.1] at q
  exact (in_ix (by omega)).mp q
section Md
variable {M : Mm} {c : Nat → Int32}
theorem q_risk (D : md M c) (O : okC c) {h : Nat} (hh : h < hN c) : f_X12_riskOf M (some 207) (nI h) = some (rsk c h, M) := by
  have w6 := (ok_w O).2
  have h8 := (ok_h O).2
  refine lup0 (fun f k => f_X12_riskOf_4 f M (some 207) (nI h) (sm (fun w => if falls c (c (161 + w)) h then c (167 + w) else 0) k) (nI k)) (wN c) _ (by omega) (fun f k hk => ?_) (fun f => ?_)
  · rw [f_X12_riskOf_4, sm]
    simp (disch := omega) only [↓m_r4 D.1, ↓m_r5 D.1, ↓m_r6 D.1, ↓m_r7 D.1, ↓m_r20 D.1, ↓m_r21 D.1, ↓m_r22 D.1, ↓m_r27 D.1, ↓m_r28 D.1, ↓m_r29 D.1, ↓m_r31 D.1, ↓m_r32 D.1, ↓m_r35 D.1, ↓m_ck D.1, ↓m_c0 D, ↓m_c1 D, ↓m_c2 D, ↓m_c3 D, ↓m_c4 D, ↓m_c D, i2, i3, i4, i5, i13, i21, i29, i37, i45, i53, i61, i69, i133, i137, i141, i145, i149, i153, i157, i161, i167, i4m, i6m, i8m, i9m, i18m, i60m, i256m, i450m, nI_add, ↓nmI_s, ↓bd_s, ↓bv_s, nI_1, ↓reduceIte, wc_in O hk, if_false, q_fallSet D O, q_has]
    have e : hasB (st (falls c (c (161 + k))) (hN c)) h ↔ falls c (c (161 + k)) h := (hasB_st _ (by omega) (by omega)).trans ⟨fun z => z.2, fun z => ⟨hh, z⟩⟩
    by_cases q : falls c (c (161 + k)) h
    · rw [if_pos (e.mpr q), if_neg (by decide), if_pos q]
      simp (disch := omega) only [↓m_r4 D.1, ↓m_r5 D.1, ↓m_r6 D.1, ↓m_r7 D.1, ↓m_r20 D.1, ↓m_r21 D.1, ↓m_r22 D.1, ↓m_r27 D.1, ↓m_r28 D.1, ↓m_r29 D.1, ↓m_r31 D.1, ↓m_r32 D.1, ↓m_r35 D.1, ↓m_ck D.1, ↓m_c0 D, ↓m_c1 D, ↓m_c2 D, ↓m_c3 D, ↓m_c4 D, ↓m_c D, i2, i3, i4, i5, i13, i21, i29, i37, i45, i53, i61, i69, i133, i137, i141, i145, i149, i153, i157, i161, i167, i4m, i6m, i8m, i9m, i18m, i60m, i256m, i450m, nI_add, ↓nmI_s, ↓bd_s, ↓bv_s, nI_1, ↓reduceIte, f_X12_riskOf_50]
    · rw [if_neg (fun z => q (e.mp z)), if_pos rfl, if_neg q, f_X12_riskOf_50, nmI_s, nI_1]
  · simp (disch := omega) only [f_X12_riskOf_4, ↓m_r4 D.1, ↓m_r5 D.1, ↓m_r6 D.1, ↓m_r7 D.1, ↓m_r20 D.1, ↓m_r21 D.1, ↓m_r22 D.1, ↓m_r27 D.1, ↓m_r28 D.1, ↓m_r29 D.1, ↓m_r31 D.1, ↓m_r32 D.1, ↓m_r35 D.1, ↓m_ck D.1, ↓m_c0 D, ↓m_c1 D, ↓m_c2 D, ↓m_c3 D, ↓m_c4 D, ↓m_c D, i2, i3, i4, i5, i13, i21, i29, i37, i45, i53, i61, i69, i133, i137, i141, i145, i149, i153, i157, i161, i167, i4m, i6m, i8m, i9m, i18m, i60m, i256m, i450m, nI_add, ↓nmI_s, ↓bd_s, ↓bv_s, nI_1, ↓reduceIte, wc_out O, if_true, rsk]
theorem q_loss (D : md M c) (O : okC c) : f_X12_lossOf M (some 207) = some (lss c, M) := by
  have h8 := (ok_h O).2
  refine lup0 (fun f k => f_X12_lossOf_4 f M (some 207) (sm (fun h => c (13 + h) * rsk c h) k) (nI k)) (hN c) _ (by omega) (fun f k hk => ?_) (fun f => ?_)
  · rw [f_X12_lossOf_4]
    simp (disch := omega) only [↓m_r4 D.1, ↓m_r5 D.1, ↓m_r6 D.1, ↓m_r7 D.1, ↓m_r20 D.1, ↓m_r21 D.1, ↓m_r22 D.1, ↓m_r27 D.1, ↓m_r28 D.1, ↓m_r29 D.1, ↓m_r31 D.1, ↓m_r32 D.1, ↓m_r35 D.1, ↓m_ck D.1, ↓m_c0 D, ↓m_c1 D, ↓m_c2 D, ↓m_c3 D, ↓m_c4 D, ↓m_c D, i2, i3, i4, i5, i13, i21, i29, i37, i45, i53, i61, i69, i133, i137, i141, i145, i149, i153, i157, i161, i167, i4m, i6m, i8m, i9m, i18m, i60m, i256m, i450m, nI_add, ↓nmI_s, ↓bd_s, ↓bv_s, nI_1, ↓reduceIte, hc_in O hk, if_false, q_risk D O, sm]
  · simp (disch := omega) only [f_X12_lossOf_4, ↓m_r4 D.1, ↓m_r5 D.1, ↓m_r6 D.1, ↓m_r7 D.1, ↓m_r20 D.1, ↓m_r21 D.1, ↓m_r22 D.1, ↓m_r27 D.1, ↓m_r28 D.1, ↓m_r29 D.1, ↓m_r31 D.1, ↓m_r32 D.1, ↓m_r35 D.1, ↓m_ck D.1, ↓m_c0 D, ↓m_c1 D, ↓m_c2 D, ↓m_c3 D, ↓m_c4 D, ↓m_c D, i2, i3, i4, i5, i13, i21, i29, i37, i45, i53, i61, i69, i133, i137, i141, i145, i149, i153, i157, i161, i167, i4m, i6m, i8m, i9m, i18m, i60m, i256m, i450m, nI_add, ↓nmI_s, ↓bd_s, ↓bv_s, nI_1, ↓reduceIte, hc_out O, if_true, lss]
end Md
