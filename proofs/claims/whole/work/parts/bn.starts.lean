/-! TEXTS: the class begins a text -/
section C
variable {M : Mm} {cd : Nat → Nat} {n : Nat}
theorem c_open (h1 : mK M 1 = (6, 14)) (h2 : mR M 1 0 = some 2) (h3 : mR M 1 2 = some 3) (h4 : mK M 2 = (20, 900)) (h5 : mK M 3 = (22, 30)) (h6 : n ≤ 900) (h8 : ∀ k, k < n → mI M 2 k = bV (cd k) ∧ cd k < 256) (h9 : ∀ w, w < 30 → mL M 3 w = wrd w) : ∃ N, f_X6_open M (some 1) (nI n) = some N ∧ mK N = mK M ∧ mR N = mR M ∧ mT N = mT M ∧ (∀ y, y ≠ 1 → mI N y = mI M y ∧ mL N y = mL M y) ∧ mI N 1 1 = mI M 1 1 ∧ mI N 1 12 = 0 ∧ mI N 1 13 = -1 ∧ CT N cd n (tkS cd n 0) := by
  have o : ∀ y, y ≠ 1 → mI (sI (sI (sI (sI M 1 3 (nI n)) 1 4 0) 1 12 0) 1 13 (-1)) y = mI M y := fun y hy => by rw [mI_o hy, mI_o hy, mI_o hy, mI_o hy]
  have H : tpC (sI (sI (sI (sI M 1 3 (nI n)) 1 4 0) 1 12 0) 1 13 (-1)) cd n := ⟨h1, h2, h3, h4, h5, h6, by rw [mI_f (by decide), mI_f (by decide), mI_f (by decide), mI_sI_s], fun k hk => by rw [o 2 (by decide)]; exact h8 k hk, h9⟩
  obtain ⟨N, f1, F, T⟩ := p_tstep H (p := 0) (by omega) (by rw [mI_f (by decide), mI_f (by decide), mI_sI_s]; rfl)
  refine ⟨N, ?_, F.1, F.2.1, F.2.2.1, fun y hy => ⟨(F.2.2.2.1 y hy).1.trans (o y hy), (F.2.2.2.1 y hy).2⟩, ?_, ?_, ?_, F.tp H, T⟩
  · have k : ∀ N' : Mm, mK N' = mK M → (mK N' 1).1 = 6 := fun N' e => by rw [e, h1]
    unfold f_X6_open
    rw [pfI_s (k M rfl), pfI_s (k (sI M 1 3 (nI n)) rfl), pfI_s (k (sI (sI M 1 3 (nI n)) 1 4 0) rfl), pfI_s (k (sI (sI (sI M 1 3 (nI n)) 1 4 0) 1 12 0) rfl), tp_ck H, f1, bv_s]
  · rw [F.2.2.2.2 1 (by omega), mI_f (by decide), mI_f (by decide), mI_f (by decide), mI_f (by decide)]
  · rw [F.2.2.2.2 12 (by omega), mI_f (by decide), mI_sI_s]
  · rw [F.2.2.2.2 13 (by omega), mI_sI_s]
theorem q_begin (D : mdL M) (h6 : n ≤ 900) (h8 : ∀ k, k < n → mI M 211 k = bV (cd k) ∧ cd k < 256) : ∃ N, f_X12_next (sI (sI (sI (sI M 207 9 (nI n)) 207 8 0) 207 16 0) 207 12 0) (some 207) = some N ∧ FTm (sI (sI (sI (sI M 207 9 (nI n)) 207 8 0) 207 16 0) 207 12 0) N ∧ QT N cd n (tkS cd n 0) := by
  have H : tpM (sI (sI (sI (sI M 207 9 (nI n)) 207 8 0) 207 16 0) 207 12 0) cd n := ⟨D, h6, by rw [mI_f (by decide), mI_f (by decide), mI_f (by decide), mI_sI_s], fun k hk => by rw [mI_o (by decide), mI_o (by decide), mI_o (by decide), mI_o (by decide)]; exact h8 k hk⟩
  obtain ⟨N, f1, F, T⟩ := q_next H (p := 0) (by omega) (by rw [mI_f (by decide), mI_sI_s]; rfl)
  exact ⟨N, f1, F, F.tp H, T, by rw [F.2.2.2.2.1 12 (by omega), mI_sI_s]⟩
end C
