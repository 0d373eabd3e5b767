/-! THE CLASS'S HOUR is the reference's -/
theorem wkA_step {c : Nat → Int32} {n j : Nat} (hj : j < 4) : wkA c n (j + 1) = fun k => if k = 153 + j ∧ 0 ≤ c (149 + j) then wayA c j n else if k = 157 + j ∧ 0 ≤ c (149 + j) then pieA c j n else wkA c n j k := by
  funext k
  by_cases z : k < 153 ∨ 161 ≤ k
  · rw [wkA_o (by omega) z, wkA_o (by omega) z, if_neg (by omega), if_neg (by omega)]
  · by_cases z2 : k < 157
    · obtain ⟨i, rfl⟩ : ∃ i, k = 153 + i := ⟨k - 153, by omega⟩
      rw [wkA_w (by omega) (by omega), wkA_w (by omega) (by omega)]
      by_cases y : i = j
      · subst y
        by_cases q : 0 ≤ c (149 + i)
        · rw [if_pos ⟨by omega, q⟩, if_pos ⟨rfl, q⟩]
        · rw [if_neg (fun z => q z.2), if_neg (fun z => q z.2), if_neg (by omega), if_neg (fun z => q z.2)]
      · rw [if_neg (show ¬ (153 + i = 153 + j ∧ 0 ≤ c (149 + j)) by omega), if_neg (show ¬ (153 + i = 157 + j ∧ 0 ≤ c (149 + j)) by omega)]
        have : i < j + 1 ↔ i < j := by omega
        simp only [this]
    · obtain ⟨i, rfl⟩ : ∃ i, k = 157 + i := ⟨k - 157, by omega⟩
      rw [wkA_p (by omega) (by omega), wkA_p (by omega) (by omega), if_neg (show ¬ (157 + i = 153 + j ∧ 0 ≤ c (149 + j)) by omega)]
      by_cases y : i = j
      · subst y
        by_cases q : 0 ≤ c (149 + i)
        · rw [if_pos ⟨by omega, q⟩, if_pos ⟨rfl, q⟩]
        · rw [if_neg (fun z => q z.2), if_neg (fun z => q z.2), if_neg (fun z => q z.2)]
      · rw [if_neg (show ¬ (157 + i = 157 + j ∧ 0 ≤ c (149 + j)) by omega)]
        have : i < j + 1 ↔ i < j := by omega
        simp only [this]
theorem wkA_own {c : Nat → Int32} (O : okC c) {n j : Nat} (hj : j < gN c) : wkA c n j (153 + j) = c (153 + j) ∧ wkA c n j (157 + j) = c (157 + j) ∧ wkA c n j (149 + j) = c (149 + j) ∧ pN (wkA c n j) j = pN c j ∧ pcs (wkA c n j) j = pcs c j := by
  have g4 := (ok_g O).2
  have e1 : wkA c n j (157 + j) = c (157 + j) := by rw [wkA_p (by omega) (by omega), if_neg (by omega)]
  have e2 : wkA c n j (149 + j) = c (149 + j) := wkA_o (by omega) (by omega)
  have e3 := pcs_same O (wkA_d (c := c) (n := n) (j := j) (by omega)).s hj e2 e1
  refine ⟨by rw [wkA_w (by omega) (by omega), if_neg (by omega)], e1, e2, ?_, e3⟩
  unfold pN
  rw [e3]
theorem gmin_q {c : Nat → Int32} (O : okC c) (Q : qui c 1) : ∀ {j : Nat}, j ≤ gN c → gmin c j = (wkA c 1 j, 0)
  | 0, _ => by rw [wkA_0]; rfl
  | j + 1, hj => by
    have h8 := (ok_h O).2
    have g4 := (ok_g O).2
    have ih := gmin_q O Q (j := j) (by omega)
    have hW := wkA_d (c := c) (n := 1) (j := j) (by omega)
    obtain ⟨x1, x2, x3, x4, x5⟩ := wkA_own O (n := 1) (j := j) (by omega)
    have Oj := wkA_ok O Q (j := j) (by omega)
    unfold gmin
    rw [ih]
    show ((minu (wkA c 1 j) j).1, 0 + (minu (wkA c 1 j) j).2) = _
    rw [minu_q Oj (by rw [hW.s.g]; omega) (by rw [x3, na_same x1, x4]; exact (Q j (by omega)).1) (by rw [x3, hW.s.h, fb_same hW h8 g4 (by omega) _ (by omega)]; exact fun z => (Q j (by omega)).2 z (by omega)), wkA_step (by omega)]
    refine Prod.ext (funext fun k => ?_) (show (0 : Int32) + 0 = 0 by decide)
    show (if k = 153 + j ∧ 0 ≤ wkA c 1 j (149 + j) then wayA (wkA c 1 j) j 1 else if k = 157 + j ∧ 0 ≤ wkA c 1 j (149 + j) then pieA (wkA c 1 j) j 1 else wkA c 1 j k) = _
    have y1 : wayA (wkA c 1 j) j 1 = wayA c j 1 := by unfold wayA; rw [na_same x1]
    have y2 : pieA (wkA c 1 j) j 1 = pieA c j 1 := by unfold pieA; rw [na_same x1, x2, x5]
    rw [x3, y1, y2]
/-- the cells of a gang behind n minutes of work of all -/
theorem wkA_all {c : Nat → Int32} (O : okC c) {n g : Nat} (Q : qui c n) (hg : g < gN c) (q : 0 ≤ c (149 + g)) : na (wkA c n (gN c)) (153 + g) = na c (153 + g) - n ∧ pN (wkA c n (gN c)) g = (if na c (153 + g) < n then pN c g - (n - na c (153 + g)) else pN c g) ∧ wkA c n (gN c) (157 + g) = pieA c g n := by
  have h8 := (ok_h O).2
  have g4 := (ok_g O).2
  obtain ⟨-, -, -, -, h6, h7, -⟩ := O.2.2.2.2.2.2.2.1 g hg
  have hW := wkA_d (c := c) (n := n) (j := gN c) (by omega)
  rcases hand_cases O hg with ⟨z, -⟩ | ⟨h, hh, e, on, en⟩
  · rw [z] at q
    exact absurd q (by decide)
  · obtain ⟨p1, p2, p3⟩ := pN_hand O hg hh e on
    have e1 : wkA c n (gN c) (153 + g) = nI (na c (153 + g) - n) := by rw [wkA_w (by omega) (by omega), if_pos ⟨hg, q⟩]; rfl
    have e2 : wkA c n (gN c) (157 + g) = pieA c g n := by rw [wkA_p (by omega) (by omega), if_pos ⟨hg, q⟩]
    have e3 : wkA c n (gN c) (149 + g) = c (149 + g) := wkA_o (by omega) (by omega)
    refine ⟨na_of e1 (by have := h6.2.2; omega), ?_, e2⟩
    have Qg := (Q g hg).1 q
    by_cases z : na c (153 + g) < n
    · have e4 : wkA c n (gN c) (157 + g) = nI (pN c g - (n - na c (153 + g))) := by
        rw [e2]
        unfold pieA
        rw [if_pos z]
        rfl
      rw [if_pos z]
      unfold pN
      refine na_of ?_ (by have : na (fun _ => pcs c g) 0 = pN c g := rfl; omega)
      rw [pcs_hand (e3.trans e) (by omega), e4, if_neg (nI_pos0 (by omega) (by omega))]
      rfl
    · have e4 : wkA c n (gN c) (157 + g) = c (157 + g) := by
        rw [e2]
        unfold pieA
        rw [if_neg z]
      rw [if_neg z]
      unfold pN
      rw [pcs_same O hW.s hg e3 e4]
theorem wkA_add {c : Nat → Int32} (O : okC c) {n : Nat} (Q : qui c (n + 1)) : qui c n ∧ qui (wkA c n (gN c)) 1 ∧ wkA (wkA c n (gN c)) 1 (gN c) = wkA c (n + 1) (gN c) := by
  have h8 := (ok_h O).2
  have g4 := (ok_g O).2
  have Qn : qui c n := fun g hg => ⟨fun q => by have := (Q g hg).1 q; omega, fun q _ => (Q g hg).2 q (by omega)⟩
  have hW := wkA_d (c := c) (n := n) (j := gN c) (by omega)
  refine ⟨Qn, fun g hg => ?_, funext fun k => ?_⟩
  · rw [hW.s.g] at hg
    have e3 : wkA c n (gN c) (149 + g) = c (149 + g) := wkA_o (by omega) (by omega)
    rw [e3, hW.s.h, fb_same hW h8 g4 (by omega) _ (by omega)]
    refine ⟨fun q => ?_, fun q _ => (Q g hg).2 q (by omega)⟩
    obtain ⟨a1, a2, a3⟩ := wkA_all O Qn hg q
    have := (Q g hg).1 q
    rw [a1, a2]
    by_cases z : na c (153 + g) < n
    · rw [if_pos z]; omega
    · rw [if_neg z]
      rcases hand_cases O hg with ⟨z2, -⟩ | ⟨h, hh, e, on, en⟩
      · rw [z2] at q
        exact absurd q (by decide)
      · obtain ⟨p1, p2, p3⟩ := pN_hand O hg hh e on
        omega
  · by_cases z : k < 153 ∨ 161 ≤ k
    · rw [wkA_o (by omega) z, wkA_o (by omega) z, wkA_o (by omega) z]
    · by_cases z2 : k < 157
      · obtain ⟨g, rfl⟩ : ∃ i, k = 153 + i := ⟨k - 153, by omega⟩
        rw [wkA_w (by omega) (by omega), wkA_w (c := c) (n := n + 1) (by omega) (by omega), wkA_o (c := c) (by omega) (show 149 + g < 153 ∨ 161 ≤ 149 + g by omega)]
        by_cases q : g < gN c ∧ 0 ≤ c (149 + g)
        · rw [if_pos q, if_pos q]
          unfold wayA
          rw [(wkA_all O Qn q.1 q.2).1, Nat.sub_sub]
        · rw [if_neg q, if_neg q, wkA_w (by omega) (by omega), if_neg q]
      · obtain ⟨g, rfl⟩ : ∃ i, k = 157 + i := ⟨k - 157, by omega⟩
        rw [wkA_p (by omega) (by omega), wkA_p (c := c) (n := n + 1) (by omega) (by omega), wkA_o (c := c) (by omega) (show 149 + g < 153 ∨ 161 ≤ 149 + g by omega)]
        by_cases q : g < gN c ∧ 0 ≤ c (149 + g)
        · rw [if_pos q, if_pos q]
          obtain ⟨a1, a2, a3⟩ := wkA_all O Qn q.1 q.2
          have Qg := (Q g q.1).1 q.2
          unfold pieA
          show (if na (wkA c n (gN c)) (153 + g) < 1 then nI (pN (wkA c n (gN c)) g - (1 - na (wkA c n (gN c)) (153 + g))) else wkA c n (gN c) (157 + g)) = if na c (153 + g) < n + 1 then nI (pN c g - (n + 1 - na c (153 + g))) else c (157 + g)
          rw [a1, a2, a3]
          unfold pieA
          by_cases y : na c (153 + g) < n
          · rw [if_pos (by omega), if_pos y, if_pos (by omega)]
            exact congrArg nI (by omega)
          · by_cases y2 : na c (153 + g) < n + 1
            · rw [if_pos (by omega), if_neg y, if_pos y2]
              exact congrArg nI (by omega)
            · rw [if_neg (by omega), if_neg y, if_neg y2]
        · rw [if_neg q, if_neg q, wkA_p (by omega) (by omega), if_neg q]
theorem hmin_q {c : Nat → Int32} (O : okC c) : ∀ {n : Nat}, qui c n → hmin c n = (wkA c n (gN c), 0)
  | 0, _ => by
    refine Prod.ext (funext fun k => ?_) rfl
    show c k = wkA c 0 (gN c) k
    have g4 := (ok_g O).2
    by_cases z : k < 153 ∨ 161 ≤ k
    · rw [wkA_o (by omega) z]
    · by_cases z2 : k < 157
      · obtain ⟨g, rfl⟩ : ∃ i, k = 153 + i := ⟨k - 153, by omega⟩
        rw [wkA_w (by omega) (by omega)]
        by_cases q : g < gN c ∧ 0 ≤ c (149 + g)
        · rw [if_pos q]
          exact (O.2.2.2.2.2.2.2.1 g q.1).2.2.2.2.1.1
        · rw [if_neg q]
      · obtain ⟨g, rfl⟩ : ∃ i, k = 157 + i := ⟨k - 157, by omega⟩
        rw [wkA_p (by omega) (by omega)]
        by_cases q : g < gN c ∧ 0 ≤ c (149 + g)
        · rw [if_pos q]
          unfold pieA
          rw [if_neg (by omega)]
        · rw [if_neg q]
  | n + 1, Q => by
    have g4 := (ok_g O).2
    obtain ⟨Q1, Q2, Q3⟩ := wkA_add O Q
    have ih := hmin_q O (n := n) Q1
    have hW := wkA_d (c := c) (n := n) (j := gN c) (by omega)
    have Ok := wkA_ok O Q1 (j := gN c) (Nat.le_refl _)
    unfold hmin
    rw [ih]
    show ((gmin (wkA c n (gN c)) (gN c)).1, 0 + (gmin (wkA c n (gN c)) (gN c)).2) = _
    rw [gmin_q Ok Q2 (j := gN c) (by rw [hW.s.g]; exact Nat.le_refl _), Q3]
    rfl
theorem hmin_add {c : Nat → Int32} (O : okC c) (n : Nat) : ∀ m, hmin c (n + m) = ((hmin (hmin c n).1 m).1, (hmin c n).2 + (hmin (hmin c n).1 m).2)
  | 0 => by
    refine Prod.ext rfl ?_
    show (hmin c n).2 = (hmin c n).2 + 0
    rw [Int32.add_zero]
  | m + 1 => by
    have ih := hmin_add O n m
    have hs := (hmin_ok O n).2
    show ((gmin (hmin c (n + m)).1 (gN c)).1, (hmin c (n + m)).2 + (gmin (hmin c (n + m)).1 (gN c)).2) = _
    rw [ih]
    show _ = ((gmin (hmin (hmin c n).1 m).1 (gN (hmin c n).1)).1, (hmin c n).2 + ((hmin (hmin c n).1 m).2 + (gmin (hmin (hmin c n).1 m).1 (gN (hmin c n).1)).2))
    rw [hs.g, Int32.add_assoc]
