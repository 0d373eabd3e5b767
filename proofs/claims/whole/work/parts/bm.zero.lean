/-! TEXTS: the reference empties its block -/
section Q
variable {M : Mm} {cd : Nat → Nat} {n s : Nat}
theorem q_zero (C : QT M cd n s) (nm : Nat → List Nat) : ∃ N, f_X12_shore_25 fu M (some 207) 0 = f_X12_shore_63 fu N (some 207) ∧ qFq M N ∧ QT N cd n s ∧ dM N shZ nm ∧ mI N 207 24 = 0 := by
  obtain ⟨N, f1, F, C1, z⟩ := lupE0 (fun f N k => f_X12_shore_25 f N (some 207) (nI k)) (fun k N => qFr M N ∧ QT N cd n s ∧ ∀ j, j < k → mI N 212 (1800 + j) = 0) 450 (fun N => f_X12_shore_63 fu (sI (sI N 212 1803 3) 207 24 0) (some 207)) (by omega) (fun f k N hk hI => by
    obtain ⟨F, C1, z⟩ := hI
    refine ⟨sI N 212 (1800 + k) 0, ?_, F.pI (by omega) 0, C1.o (by decide) (by decide) _ _, fun j hj => ?_⟩
    · show f_X12_shore_25 (f + 1) N (some 207) (nI k) = _
      rw [f_X12_shore_25, if_neg (by rw [show (450 : Int32) = nI 450 from rfl, nI_leI' (by omega) (by omega)]; omega), m_r20 C1.1.1, show (1800 : Int32) = nI 1800 from rfl, nI_add, m_as C1.1.1 (by omega), nI_1]
    · by_cases e : j = k
      · rw [e, mI_sI_s]
      · rw [mI_f (by omega)]
        exact z j (by omega)) (fun f N hI => by
    obtain ⟨F, C1, z⟩ := hI
    show f_X12_shore_25 (f + 1) N (some 207) (nI 450) = _
    rw [f_X12_shore_25, if_pos (by decide), m_r20 C1.1.1, show (1803 : Int32) = nI 1803 from rfl, m_as C1.1.1 (by omega), pfZ_s (by rw [(C1.o (r := 212) (by decide) (by decide) 1803 3).1.1.1]) (Or.inl rfl)]) M ⟨qFr.rf, C, fun _ h => by omega⟩
  have F2 : qFr M (sI N 212 1803 3) := F.pI (by omega) 3
  have C2 := (C1.o (r := 212) (by decide) (by decide) 1803 3).cell (k := 24) (by omega) 0
  have zz : ∀ k, k < 450 → mI (sI (sI N 212 1803 3) 207 24 0) 212 (1800 + k) = shZ k := fun k hk => by
    rw [mI_o (by decide)]
    show _ = if k = 3 then (3 : Int32) else 0
    by_cases e : k = 3
    · rw [if_pos e, e, mI_sI_s]
    · rw [if_neg e, mI_f (by omega)]
      exact z k hk
  have h0 : hN shZ = 0 := na_of (n := 0) (k := 0) rfl (by omega)
  have g0 : gN shZ = 0 := na_of (n := 0) (k := 1) rfl (by omega)
  have w0 : wN shZ = 0 := na_of (n := 0) (k := 2) rfl (by omega)
  refine ⟨_, f1, F2.toQ.tr (qFq.told 0), C2, ⟨zz, ?_⟩, mI_sI_s _ _ _ _⟩
  rw [h0, g0, w0]
  exact ⟨by omega, ⟨zz 0 (by omega), by omega⟩, ⟨zz 1 (by omega), by omega⟩, ⟨zz 2 (by omega), by omega⟩, fun k hk => by omega, fun k hk => by omega, fun k hk => by omega⟩
end Q
