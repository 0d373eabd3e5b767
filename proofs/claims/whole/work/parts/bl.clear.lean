/-! TEXTS: the class empties the draft -/
section C
variable {M : Mm} {b : Nat}
def clI (M : Mm) (b i : Nat) (N : Mm) : Prop := FrI M N b 31 ∧ (mI N b 3 = 0 ∧ mI N b 4 = 0 ∧ mI N b 5 = 0 ∧ mI N b 7 = 3 ∧ mI N b 8 = 0) ∧ ∀ i' j, i' < i → j < 8 → mI N (b + 5 + i') j = 0
theorem c_clear (S : shL M b) (nm : Nat → List Nat) : ∃ N, f_X4_clear M (some b) = some N ∧ FrI M N b 31 ∧ dC N b shZ nm := by
  obtain ⟨N, f1, f2⟩ := lupE0 (fun f N i => f_X4_clear_27 f N (some b) (nI i)) (fun i N => clI M b i N) 8 (fun N => some N) (by omega) (fun f i N hi hI => by
    obtain ⟨N', g1, g2, g3⟩ := lupE0 (fun f' N j => f_X4_clear_35 (f_X4_clear_27 f) f' N (some b) (nI i) (nI j)) (fun j N => clI M b i N ∧ ∀ j', j' < j → mI N (b + 5 + i) j' = 0) 8 (fun N => f_X4_clear_27 f N (some b) (nI (i + 1))) (by omega) (fun f' j N hj hJ => by
      obtain ⟨⟨F, t, z⟩, zj⟩ := hJ
      have S' : shL N b := shL_same S F.1 F.2.2.1
      refine ⟨sI N (b + 5 + i) j 0, ?_, ⟨F.sI (by omega) (by omega), by rw [mI_o (by omega)]; exact t, fun i' j' hi' hj' => ?_⟩, fun j' hj' => ?_⟩
      · rw [f_X4_clear_35, if_neg (by rw [show (8 : Int32) = nI 8 from rfl, nI_leI' (by omega) (by omega)]; omega), l_ds S', l_d S' hi, lp_d S' hi hj, nI_1]
      · rw [mI_o (by omega)]
        exact z i' j' hi' hj'
      · by_cases e : j' = j
        · rw [e, mI_sI_s]
        · rw [mI_f e]
          exact zj j' (by omega)) (fun f' N hJ => by
      show f_X4_clear_35 (f_X4_clear_27 f) (f' + 1) N (some b) (nI i) (nI 8) = _
      rw [f_X4_clear_35, if_pos (by decide), nI_1]) N ⟨hI, fun _ h => by omega⟩
    refine ⟨N', ?_, g2.1, g2.2.1, fun i' j hi' hj => ?_⟩
    · show f_X4_clear_27 (f + 1) N (some b) (nI i) = _
      rw [f_X4_clear_27, if_neg (by rw [show (8 : Int32) = nI 8 from rfl, nI_leI' (by omega) (by omega)]; omega)]
      exact g1
    · by_cases e : i' = i
      · rw [e]
        exact g3 j hj
      · exact g2.2.2 i' j (by omega) hj) (fun f N hI => by
    show f_X4_clear_27 (f + 1) N (some b) (nI 8) = _
    rw [f_X4_clear_27, if_pos (by decide)]) (sI (sI (sI (sI (sI M b 3 0) b 4 0) b 5 0) b 7 3) b 8 0) ⟨((((FrI.rf.sI (by omega) (by omega)).sI (by omega) (by omega)).sI (by omega) (by omega)).sI (by omega) (by omega)).sI (by omega) (by omega), ⟨by rw [mI_f (by decide), mI_f (by decide), mI_f (by decide), mI_f (by decide), mI_sI_s], by rw [mI_f (by decide), mI_f (by decide), mI_f (by decide), mI_sI_s], by rw [mI_f (by decide), mI_f (by decide), mI_sI_s], by rw [mI_f (by decide), mI_sI_s], mI_sI_s _ _ _ _⟩, fun _ _ h => by omega⟩
  obtain ⟨F, ⟨t0, t1, t2, t3, t4⟩, z⟩ := f2
  have S' : shL N b := shL_same S F.1 F.2.2.1
  have h0 : hN shZ = 0 := na_of (n := 0) (k := 0) rfl (by omega)
  have g0 : gN shZ = 0 := na_of (n := 0) (k := 1) rfl (by omega)
  have w0 : wN shZ = 0 := na_of (n := 0) (k := 2) rfl (by omega)
  refine ⟨N, ?_, F, S', ⟨⟨t0, t1, t2, t3, t4⟩, fun i hi => by rw [h0] at hi; omega, fun i j hi => by rw [h0] at hi; omega, fun g hg => by rw [g0] at hg; omega, fun w hw => by rw [w0] at hw; omega⟩, fun i j hi hj => ?_, ?_⟩
  · unfold f_X4_clear
    rw [lp_s S, lp_s (M := sI M b 3 0) S, lp_s (M := sI (sI M b 3 0) b 4 0) S, lp_s (M := sI (sI (sI M b 3 0) b 4 0) b 5 0) S, lp_s (M := sI (sI (sI (sI M b 3 0) b 4 0) b 5 0) b 7 3) S]
    exact f1
  · rw [z i j hi hj]
    show (0 : Int32) = if 69 + 8 * i + j = 3 then 3 else 0
    rw [if_neg (by omega)]
  · rw [h0, g0, w0]
    exact ⟨S', ⟨t0, by omega⟩, ⟨t1, by omega⟩, ⟨t2, by omega⟩, fun k hk => by omega, fun k hk => by omega, fun k hk => by omega⟩
end C
