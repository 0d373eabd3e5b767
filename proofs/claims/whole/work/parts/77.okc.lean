/-! what stays well under writes of cells -/
theorem bdd_same {c c' : Nat → Int32} {k lo hi : Nat} (e : c' k = c k) (b : bdd c k lo hi) : bdd c' k lo hi := by
  unfold bdd na at *
  rw [e]
  exact b
theorem bdd_of {c : Nat → Int32} {k lo hi n : Nat} (e : c k = nI n) (h1 : lo ≤ n) (h2 : n ≤ hi) (hh : hi < 2147483648) : bdd c k lo hi := by
  have h : na c k = n := by unfold na; rw [e, nI_cl (by omega)]
  unfold bdd
  rw [h]
  exact ⟨e, h1, h2⟩
theorem na_of {c : Nat → Int32} {k n : Nat} (e : c k = nI n) (h : n < 2147483648) : na c k = n := by unfold na; rw [e, nI_cl h]
theorem na_same {c c' : Nat → Int32} {k : Nat} (e : c' k = c k) : na c' k = na c k := by unfold na; rw [e]
theorem okH_same {c c' : Nat → Int32} {i : Nat} (e : ∀ k, 5 ≤ k → k < 69 → c' k = c k) (hi : i < 8) (h : okH c i) : okH c' i := by
  unfold okH bdd na at *
  rw [e (5 + i) (by omega) (by omega), e (13 + i) (by omega) (by omega), e (21 + i) (by omega) (by omega), e (29 + i) (by omega) (by omega), e (37 + i) (by omega) (by omega), e (45 + i) (by omega) (by omega), e (53 + i) (by omega) (by omega), e (61 + i) (by omega) (by omega)]
  exact h
theorem okG_same {c c' : Nat → Int32} {g : Nat} (h0 : hN c' = hN c) (h8 : hN c ≤ 8) (eH : ∀ i, i < hN c → c (149 + g) = nI i → (isOn c i → isOn c' i)) (e1 : c' (133 + g) = c (133 + g)) (e2 : c' (137 + g) = c (137 + g)) (e3 : c' (141 + g) = c (141 + g)) (e4 : c' (145 + g) = c (145 + g)) (e5 : c' (149 + g) = c (149 + g)) (e6 : c' (153 + g) = c (153 + g)) (e7 : c' (157 + g) = c (157 + g)) (h : okG c g) : okG c' g := by
  obtain ⟨⟨h1, h2⟩, h3, h4, h5, h6, h7, h8'⟩ := h
  refine ⟨⟨bdd_same e1 h1, by rw [na_same e1, h0]; exact h2⟩, bdd_same e2 h3, bdd_same e3 h4, bdd_same e4 h5, bdd_same e6 h6, bdd_same e7 h7, ?_⟩
  rcases h8' with ⟨a1, a2, a3⟩ | ⟨a1, a2, a3⟩
  · exact Or.inl ⟨by rw [e5]; exact a1, by rw [na_same e6]; exact a2, by rw [na_same e7]; exact a3⟩
  · exact Or.inr ⟨bdd_same e5 a1, by rw [na_same e5, h0]; exact a2, by rw [na_same e5]; exact eH _ a2 a1.1 a3⟩
/-- a gang's own cells are written -/
theorem okC_gang {c c' : Nat → Int32} {g : Nat} (O : okC c) (hg : g < gN c) (e : ∀ k, k ≠ 145 + g → k ≠ 149 + g → k ≠ 153 + g → k ≠ 157 + g → c' k = c k) (hG : okG c' g) (hd : c' (149 + g) = -1 ∨ ∀ g', g' < gN c → g' ≠ g → ¬ c (149 + g') = c' (149 + g)) : okC c' := by
  have h8 := (ok_h O).2
  have g4 := (ok_g O).2
  have e0 : ∀ k, k < 145 ∨ 161 ≤ k → c' k = c k := fun k hk => e k (by omega) (by omega) (by omega) (by omega)
  have hH : hN c' = hN c := na_same (e0 0 (by omega))
  have hG' : gN c' = gN c := na_same (e0 1 (by omega))
  have hW : wN c' = wN c := na_same (e0 2 (by omega))
  obtain ⟨o0, o1, o2, o3, o4, o5, o6, o7, o8, o9⟩ := O
  refine ⟨bdd_same (e0 0 (by omega)) o0, bdd_same (e0 1 (by omega)) o1, bdd_same (e0 2 (by omega)) o2, bdd_same (e0 3 (by omega)) o3, bdd_same (e0 4 (by omega)) o4, fun i hi => ?_, fun i j hi hj => ?_, fun g' hg' => ?_, fun w hw => ?_, fun g1 g2 h1 h2 hne heq => ?_⟩
  · rw [hH] at hi
    exact okH_same (fun k h1 h2 => e0 k (by omega)) (by omega) (o5 i hi)
  · rw [hH] at hi hj
    exact bdd_same (e0 _ (by omega)) (o6 i j hi hj)
  · rw [hG'] at hg'
    by_cases q : g' = g
    · subst q
      exact hG
    · refine okG_same hH h8 (fun i hi _ z => ?_) (e _ (by omega) (by omega) (by omega) (by omega)) (e _ (by omega) (by omega) (by omega) (by omega)) (e _ (by omega) (by omega) (by omega) (by omega)) (e _ (by omega) (by omega) (by omega) (by omega)) (e _ (by omega) (by omega) (by omega) (by omega)) (e _ (by omega) (by omega) (by omega) (by omega)) (e _ (by omega) (by omega) (by omega) (by omega)) (o7 g' hg')
      exact ⟨by rw [e0 _ (by omega)]; exact z.1, by rw [e0 _ (by omega)]; exact z.2⟩
  · rw [hW] at hw
    have := (show wN c ≤ 6 from o2.2.2)
    exact ⟨bdd_same (e0 _ (by omega)) (o8 w hw).1, bdd_same (e0 _ (by omega)) (o8 w hw).2⟩
  · rw [hG'] at h1 h2
    by_cases q1 : g1 = g
    · subst q1
      rcases hd with hd | hd
      · exact hd
      · exact absurd (heq.symm.trans rfl) (fun z => hd g2 h2 (fun y => hne y.symm) (by rw [← e _ (by omega) (by omega) (by omega) (by omega)]; exact z))
    · by_cases q2 : g2 = g
      · subst q2
        rcases hd with hd | hd
        · rw [heq]; exact hd
        · exact absurd heq (fun z => hd g1 h1 q1 (by rw [← e _ (by omega) (by omega) (by omega) (by omega)]; exact z))
      · rw [e _ (by omega) (by omega) (by omega) (by omega), e (149 + g2) (by omega) (by omega) (by omega) (by omega)] at heq
        rw [e _ (by omega) (by omega) (by omega) (by omega)]
        exact o9 g1 g2 h1 h2 hne heq
/-- a house's cells on, stands are written -/
theorem okC_house {c c' : Nat → Int32} {h : Nat} (O : okC c) (hh : h < hN c) (e : ∀ k, k ≠ 53 + h → k ≠ 61 + h → c' k = c k) (hb : bdd c' (53 + h) 0 9 ∧ bdd c' (61 + h) 0 1 ∧ na c' (53 + h) ≤ na c (21 + h) ∧ (na c' (61 + h) = 0 → 1 ≤ na c' (53 + h))) (hd : isOn c' h ∨ ∀ g', g' < gN c → ¬ c (149 + g') = nI h) : okC c' := by
  have h8 := (ok_h O).2
  have g4 := (ok_g O).2
  have e0 : ∀ k, k < 53 ∨ 69 ≤ k → c' k = c k := fun k hk => e k (by omega) (by omega)
  have hH : hN c' = hN c := na_same (e0 0 (by omega))
  have hG' : gN c' = gN c := na_same (e0 1 (by omega))
  have hW : wN c' = wN c := na_same (e0 2 (by omega))
  obtain ⟨o0, o1, o2, o3, o4, o5, o6, o7, o8, o9⟩ := O
  refine ⟨bdd_same (e0 0 (by omega)) o0, bdd_same (e0 1 (by omega)) o1, bdd_same (e0 2 (by omega)) o2, bdd_same (e0 3 (by omega)) o3, bdd_same (e0 4 (by omega)) o4, fun i hi => ?_, fun i j hi hj => ?_, fun g' hg' => ?_, fun w hw => ?_, fun g1 g2 h1 h2 hne heq => ?_⟩
  · rw [hH] at hi
    obtain ⟨p1, p2, p3, p4, p5, p6, p7, p8, p9, p10⟩ := o5 i hi
    by_cases q : i = h
    · subst q
      refine ⟨bdd_same (e0 _ (by omega)) p1, bdd_same (e0 _ (by omega)) p2, bdd_same (e0 _ (by omega)) p3, bdd_same (e0 _ (by omega)) p4, bdd_same (e0 _ (by omega)) p5, bdd_same (e0 _ (by omega)) p6, hb.1, hb.2.1, ?_, hb.2.2.2⟩
      rw [na_same (e0 (21 + i) (by omega))]
      exact hb.2.2.1
    · have e7 := e (53 + i) (by omega) (by omega)
      have e8 := e (61 + i) (by omega) (by omega)
      refine ⟨bdd_same (e0 _ (by omega)) p1, bdd_same (e0 _ (by omega)) p2, bdd_same (e0 _ (by omega)) p3, bdd_same (e0 _ (by omega)) p4, bdd_same (e0 _ (by omega)) p5, bdd_same (e0 _ (by omega)) p6, bdd_same e7 p7, bdd_same e8 p8, ?_, ?_⟩
      · rw [na_same (e0 (21 + i) (by omega)), na_same e7]
        exact p9
      · rw [na_same e7, na_same e8]
        exact p10
  · rw [hH] at hi hj
    exact bdd_same (e0 _ (by omega)) (o6 i j hi hj)
  · rw [hG'] at hg'
    refine okG_same hH h8 (fun i hi hi2 z => ?_) (e0 _ (by omega)) (e0 _ (by omega)) (e0 _ (by omega)) (e0 _ (by omega)) (e0 _ (by omega)) (e0 _ (by omega)) (e0 _ (by omega)) (o7 g' hg')
    by_cases q : i = h
    · subst q
      rcases hd with hd | hd
      · exact hd
      · exact absurd hi2 (hd g' hg')
    · exact ⟨by rw [e _ (by omega) (by omega)]; exact z.1, by rw [e _ (by omega) (by omega)]; exact z.2⟩
  · rw [hW] at hw
    have := (show wN c ≤ 6 from o2.2.2)
    exact ⟨bdd_same (e0 _ (by omega)) (o8 w hw).1, bdd_same (e0 _ (by omega)) (o8 w hw).2⟩
  · rw [hG'] at h1 h2
    rw [e0 _ (by omega), e0 (149 + g2) (by omega)] at heq
    rw [e0 _ (by omega)]
    exact o9 g1 g2 h1 h2 hne heq
/-- a debt is written, or the minute -/
theorem okC_debt {c : Nat → Int32} {i j n : Nat} (O : okC c) (hi : i < hN c) (hj : j < hN c) (hn : n ≤ 9999) : okC (upd c (69 + 8 * i + j) (nI n)) := by
  have h8 := (ok_h O).2
  have g4 := (ok_g O).2
  have e0 : ∀ k, k < 69 ∨ 133 ≤ k → upd c (69 + 8 * i + j) (nI n) k = c k := fun k hk => pk_un (by omega)
  have hH : hN (upd c (69 + 8 * i + j) (nI n)) = hN c := na_same (e0 0 (by omega))
  have hG' : gN (upd c (69 + 8 * i + j) (nI n)) = gN c := na_same (e0 1 (by omega))
  have hW : wN (upd c (69 + 8 * i + j) (nI n)) = wN c := na_same (e0 2 (by omega))
  obtain ⟨o0, o1, o2, o3, o4, o5, o6, o7, o8, o9⟩ := O
  refine ⟨bdd_same (e0 0 (by omega)) o0, bdd_same (e0 1 (by omega)) o1, bdd_same (e0 2 (by omega)) o2, bdd_same (e0 3 (by omega)) o3, bdd_same (e0 4 (by omega)) o4, fun i hi => ?_, fun i' j' hi' hj' => ?_, fun g' hg' => ?_, fun w hw => ?_, fun g1 g2 h1 h2 hne heq => ?_⟩
  · rw [hH] at hi
    exact okH_same (fun k h1 h2 => e0 k (by omega)) (by omega) (o5 i hi)
  · rw [hH] at hi' hj'
    by_cases q : 69 + 8 * i' + j' = 69 + 8 * i + j
    · rw [q]
      exact bdd_of pk_us (by omega) hn (by decide)
    · exact bdd_same (pk_un q) (o6 i' j' hi' hj')
  · rw [hG'] at hg'
    refine okG_same hH h8 (fun i hi hi2 z => ?_) (e0 _ (by omega)) (e0 _ (by omega)) (e0 _ (by omega)) (e0 _ (by omega)) (e0 _ (by omega)) (e0 _ (by omega)) (e0 _ (by omega)) (o7 g' hg')
    exact ⟨by rw [e0 _ (by omega)]; exact z.1, by rw [e0 _ (by omega)]; exact z.2⟩
  · rw [hW] at hw
    have := (show wN c ≤ 6 from o2.2.2)
    exact ⟨bdd_same (e0 _ (by omega)) (o8 w hw).1, bdd_same (e0 _ (by omega)) (o8 w hw).2⟩
  · rw [hG'] at h1 h2
    rw [e0 _ (by omega), e0 (149 + g2) (by omega)] at heq
    rw [e0 _ (by omega)]
    exact o9 g1 g2 h1 h2 hne heq
theorem okC_min {c : Nat → Int32} {n : Nat} (O : okC c) (hn : n ≤ 10239) : okC (upd c 4 (nI n)) := by
  have h8 := (ok_h O).2
  have g4 := (ok_g O).2
  have e0 : ∀ k, k ≠ 4 → upd c 4 (nI n) k = c k := fun k hk => pk_un hk
  have hH : hN (upd c 4 (nI n)) = hN c := na_same (e0 0 (by omega))
  have hG' : gN (upd c 4 (nI n)) = gN c := na_same (e0 1 (by omega))
  have hW : wN (upd c 4 (nI n)) = wN c := na_same (e0 2 (by omega))
  obtain ⟨o0, o1, o2, o3, o4, o5, o6, o7, o8, o9⟩ := O
  refine ⟨bdd_same (e0 0 (by omega)) o0, bdd_same (e0 1 (by omega)) o1, bdd_same (e0 2 (by omega)) o2, bdd_same (e0 3 (by omega)) o3, bdd_of pk_us (by omega) hn (by decide), fun i hi => ?_, fun i' j' hi' hj' => ?_, fun g' hg' => ?_, fun w hw => ?_, fun g1 g2 h1 h2 hne heq => ?_⟩
  · rw [hH] at hi
    exact okH_same (fun k h1 h2 => e0 k (by omega)) (by omega) (o5 i hi)
  · rw [hH] at hi' hj'
    exact bdd_same (e0 _ (by omega)) (o6 i' j' hi' hj')
  · rw [hG'] at hg'
    refine okG_same hH h8 (fun i hi hi2 z => ?_) (e0 _ (by omega)) (e0 _ (by omega)) (e0 _ (by omega)) (e0 _ (by omega)) (e0 _ (by omega)) (e0 _ (by omega)) (e0 _ (by omega)) (o7 g' hg')
    exact ⟨by rw [e0 _ (by omega)]; exact z.1, by rw [e0 _ (by omega)]; exact z.2⟩
  · rw [hW] at hw
    exact ⟨bdd_same (e0 _ (by omega)) (o8 w hw).1, bdd_same (e0 _ (by omega)) (o8 w hw).2⟩
  · rw [hG'] at h1 h2
    rw [e0 _ (by omega), e0 (149 + g2) (by omega)] at heq
    rw [e0 _ (by omega)]
    exact o9 g1 g2 h1 h2 hne heq
