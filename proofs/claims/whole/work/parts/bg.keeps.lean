/-! TEXTS: what a draft keeps -/
theorem tN_b {cd : Nat → Nat} {n lo hi s v t : Nat} (h : tN cd n lo hi s = .inr (v, t)) : lo ≤ v ∧ v ≤ hi := by
  unfold tN at h
  by_cases q : tkK cd n s = 3
  · rw [if_pos q] at h
    by_cases q2 : lo ≤ tkV cd n s ∧ tkV cd n s ≤ hi
    · rw [if_pos q2] at h
      injection h with h
      have := (Prod.mk.inj h).1
      omega
    · rw [if_neg q2] at h
      cases h
  · rw [if_neg q] at h
    cases h
theorem tWN_b {cd : Nat → Nat} {n w lo hi s v t : Nat} (h : tWN cd n w lo hi s = .inr (v, t)) : lo ≤ v ∧ v ≤ hi := by
  unfold tWN at h
  rcases q : tW cd n w s with e | s'
  · rw [q] at h
    cases h
  · rw [q] at h
    exact tN_b h
theorem tOp_b {cd : Nat → Nat} {n w lo hi d s v t : Nat} (h : tOp cd n w lo hi d s = .inr (v, t)) (h1 : lo ≤ d) (h2 : d ≤ hi) : lo ≤ v ∧ v ≤ hi := by
  unfold tOp at h
  by_cases q : tkW cd n s = nI w
  · rw [if_pos q] at h
    exact tWN_b h
  · rw [if_neg q] at h
    injection h with h
    have := (Prod.mk.inj h).1
    omega
section D
variable {c : Nat → Int32} {k v1 v2 v3 v4 v5 v6 : Nat}
theorem dOK_house (ok : dOK c) (hk : hN c = k) (k7 : k < 8) (b1 : v1 ≤ 60) (b2 : v2 ≤ 999) (b3 : 1 ≤ v3 ∧ v3 ≤ 9) (b4 : 1 ≤ v4 ∧ v4 ≤ 20) (b5 : 1 ≤ v5 ∧ v5 ≤ 20) (b6 : v6 ≤ 9) : dOK (hsC c k v1 v2 v3 v4 v5 v6) := by
  obtain ⟨⟨o0, o1, o2, o3, o4, oH, oD, oG, oW, oX⟩, ⟨c4, dd⟩, z, hd⟩ := ok
  have co : ∀ j, (1 ≤ j ∧ j < 5) ∨ 69 ≤ j → hsC c k v1 v2 v3 v4 v5 v6 j = c j := fun j hj => hsC_o (by omega) (by omega) (by omega) (by omega) (by omega) (by omega) (by omega) (by omega) (by omega)
  have ci : ∀ m i, m < 8 → i < 8 → i ≠ k → hsC c k v1 v2 v3 v4 v5 v6 (5 + 8 * m + i) = c (5 + 8 * m + i) := fun m i hm hi hik => hsC_o (by omega) (by omega) (by omega) (by omega) (by omega) (by omega) (by omega) (by omega) (by omega)
  have hN' : hN (hsC c k v1 v2 v3 v4 v5 v6) = k + 1 := na_of (k := 0) (if_pos rfl) (by omega)
  have gN' : gN (hsC c k v1 v2 v3 v4 v5 v6) = gN c := na_same (k := 1) (co 1 (by omega))
  have wN' : wN (hsC c k v1 v2 v3 v4 v5 v6) = wN c := na_same (k := 2) (co 2 (by omega))
  have dd' : ∀ i j, i < 8 → j < 8 → bdd (hsC c k v1 v2 v3 v4 v5 v6) (69 + 8 * i + j) 0 9999 := fun i j hi hj => bdd_same (co _ (by omega)) (dd i j hi hj)
  have hd' : ∀ g, g < gN c → hsC c k v1 v2 v3 v4 v5 v6 (149 + g) = -1 := fun g hg => (co _ (by omega)).trans (hd g hg)
  have g4 : gN c ≤ 4 := o1.2.2
  refine ⟨⟨bdd_of (n := k + 1) (if_pos rfl) (by omega) (by omega) (by omega), bdd_same (co 1 (by omega)) o1, bdd_same (co 2 (by omega)) o2, bdd_same (co 3 (by omega)) o3, bdd_same (co 4 (by omega)) o4, fun i hi => ?_, fun i j hi hj => ?_, fun g hg => ?_, fun w hw => ?_, fun g g' hg hg' _ _ => ?_⟩, ⟨(co 4 (by omega)).trans c4, dd'⟩, fun g hg => ⟨(co _ (by omega)).trans (z g hg).1, (co _ (by omega)).trans (z g hg).2⟩, fun g hg => ?_⟩
  · rw [hN'] at hi
    by_cases ik : i = k
    · subst ik
      have e1 : hsC c i v1 v2 v3 v4 v5 v6 (5 + i) = nI v1 := by
        unfold hsC
        rw [if_neg (by omega), if_pos rfl]
      have e2 : hsC c i v1 v2 v3 v4 v5 v6 (13 + i) = nI v2 := by
        unfold hsC
        rw [if_neg (by omega), if_neg (by omega), if_pos rfl]
      have e3 : hsC c i v1 v2 v3 v4 v5 v6 (21 + i) = nI v3 := by
        unfold hsC
        rw [if_neg (by omega), if_neg (by omega), if_neg (by omega), if_pos rfl]
      have e4 : hsC c i v1 v2 v3 v4 v5 v6 (29 + i) = nI v4 := by
        unfold hsC
        rw [if_neg (by omega), if_neg (by omega), if_neg (by omega), if_neg (by omega), if_pos rfl]
      have e5 : hsC c i v1 v2 v3 v4 v5 v6 (37 + i) = nI v5 := by
        unfold hsC
        rw [if_neg (by omega), if_neg (by omega), if_neg (by omega), if_neg (by omega), if_neg (by omega), if_pos rfl]
      have e6 : hsC c i v1 v2 v3 v4 v5 v6 (45 + i) = nI v6 := by
        unfold hsC
        rw [if_neg (by omega), if_neg (by omega), if_neg (by omega), if_neg (by omega), if_neg (by omega), if_neg (by omega), if_pos rfl]
      have e7 : hsC c i v1 v2 v3 v4 v5 v6 (53 + i) = nI v3 := by
        unfold hsC
        rw [if_neg (by omega), if_neg (by omega), if_neg (by omega), if_neg (by omega), if_neg (by omega), if_neg (by omega), if_neg (by omega), if_pos rfl]
      have e8 : hsC c i v1 v2 v3 v4 v5 v6 (61 + i) = nI 1 := by
        unfold hsC
        rw [if_neg (by omega), if_neg (by omega), if_neg (by omega), if_neg (by omega), if_neg (by omega), if_neg (by omega), if_neg (by omega), if_neg (by omega), if_pos rfl]
        rfl
      have n7 := na_of e7 (by omega)
      have n3 := na_of e3 (by omega)
      have n8 := na_of e8 (by omega)
      exact ⟨bdd_of e1 (by omega) b1 (by omega), bdd_of e2 (by omega) b2 (by omega), bdd_of e3 b3.1 b3.2 (by omega), bdd_of e4 b4.1 b4.2 (by omega), bdd_of e5 b5.1 b5.2 (by omega), bdd_of e6 (by omega) b6 (by omega), bdd_of e7 (by omega) b3.2 (by omega), bdd_of e8 (by omega) (by omega) (by omega), by rw [n7, n3]; exact Nat.le_refl _, fun y => by rw [n8] at y; omega⟩
    · have hi8 : i < 8 := by omega
      have y := oH i (by omega)
      have d0 := ci 0 i (by omega) hi8 ik
      have d1 := ci 1 i (by omega) hi8 ik
      have d2 := ci 2 i (by omega) hi8 ik
      have d3 := ci 3 i (by omega) hi8 ik
      have d4 := ci 4 i (by omega) hi8 ik
      have d5 := ci 5 i (by omega) hi8 ik
      have d6 := ci 6 i (by omega) hi8 ik
      have d7 := ci 7 i (by omega) hi8 ik
      have n2 : na (hsC c k v1 v2 v3 v4 v5 v6) (21 + i) = na c (21 + i) := na_same d2
      have n6 : na (hsC c k v1 v2 v3 v4 v5 v6) (53 + i) = na c (53 + i) := na_same d6
      have n7 : na (hsC c k v1 v2 v3 v4 v5 v6) (61 + i) = na c (61 + i) := na_same d7
      obtain ⟨y1, y2, y3, y4, y5, y6, y7, y8, y9, y10⟩ := y
      exact ⟨bdd_same d0 y1, bdd_same d1 y2, bdd_same d2 y3, bdd_same d3 y4, bdd_same d4 y5, bdd_same d5 y6, bdd_same d6 y7, bdd_same d7 y8, by rw [n6, n2]; exact y9, by rw [n7, n6]; exact y10⟩
  · rw [hN'] at hi hj
    exact dd' i j (by omega) (by omega)
  · rw [gN'] at hg
    obtain ⟨⟨y1, y1'⟩, y2, y3, y4, y5, y6, y7⟩ := oG g hg
    have e153 := (co (153 + g) (by omega)).trans (z g (by omega)).1
    have e157 := (co (157 + g) (by omega)).trans (z g (by omega)).2
    refine ⟨⟨bdd_same (co _ (by omega)) y1, ?_⟩, bdd_same (co _ (by omega)) y2, bdd_same (co _ (by omega)) y3, bdd_same (co _ (by omega)) y4, bdd_same (co _ (by omega)) y5, bdd_same (co _ (by omega)) y6, Or.inl ⟨hd' g hg, na_of (n := 0) e153 (by omega), na_of (n := 0) e157 (by omega)⟩⟩
    rw [hN', na_same (co (133 + g) (by omega))]
    omega
  · rw [wN'] at hw
    exact ⟨bdd_same (co _ (by omega)) (oW w hw).1, bdd_same (co _ (by omega)) (oW w hw).2⟩
  · rw [gN'] at hg
    exact hd' g hg
  · rw [gN'] at hg
    exact hd' g hg
theorem dOK_gang (ok : dOK c) (hk : gN c = k) (k3 : k < 4) (b1 : v1 < hN c) (b2 : 1 ≤ v2 ∧ v2 ≤ 40) (b3 : v3 ≤ 9) : dOK (gsC c k v1 v2 v3) := by
  obtain ⟨⟨o0, o1, o2, o3, o4, oH, oD, oG, oW, oX⟩, ⟨c4, dd⟩, z, hd⟩ := ok
  have h8 : hN c ≤ 8 := o0.2.2
  have co : ∀ j, j ≠ 1 → (j < 133 ∨ 153 ≤ j) → gsC c k v1 v2 v3 j = c j := fun j h1 hj => gsC_o (by omega) (by omega) (by omega) (by omega) (by omega) (by omega)
  have ci : ∀ m i, m < 5 → i < 4 → i ≠ k → gsC c k v1 v2 v3 (133 + 4 * m + i) = c (133 + 4 * m + i) := fun m i hm hi hik => gsC_o (by omega) (by omega) (by omega) (by omega) (by omega) (by omega)
  have gN' : gN (gsC c k v1 v2 v3) = k + 1 := na_of (k := 1) (if_pos rfl) (by omega)
  have hN' : hN (gsC c k v1 v2 v3) = hN c := na_same (k := 0) (co 0 (by omega) (by omega))
  have wN' : wN (gsC c k v1 v2 v3) = wN c := na_same (k := 2) (co 2 (by omega) (by omega))
  have hd' : ∀ g, g < k + 1 → gsC c k v1 v2 v3 (149 + g) = -1 := fun g hg => by
    by_cases ik : g = k
    · subst ik
      unfold gsC
      rw [if_neg (by omega), if_neg (by omega), if_neg (by omega), if_neg (by omega), if_neg (by omega), if_pos rfl]
    · exact (ci 4 g (by omega) (by omega) ik).trans (hd g (by omega))
  refine ⟨⟨bdd_same (co 0 (by omega) (by omega)) o0, bdd_of (n := k + 1) (if_pos rfl) (by omega) (by omega) (by omega), bdd_same (co 2 (by omega) (by omega)) o2, bdd_same (co 3 (by omega) (by omega)) o3, bdd_same (co 4 (by omega) (by omega)) o4, fun i hi => ?_, fun i j hi hj => ?_, fun g hg => ?_, fun w hw => ?_, fun g g' hg hg' _ _ => ?_⟩, ⟨(co 4 (by omega) (by omega)).trans c4, fun i j hi hj => bdd_same (co _ (by omega) (by omega)) (dd i j hi hj)⟩, fun g hg => ⟨(co _ (by omega) (by omega)).trans (z g hg).1, (co _ (by omega) (by omega)).trans (z g hg).2⟩, fun g hg => ?_⟩
  · rw [hN'] at hi
    obtain ⟨y1, y2, y3, y4, y5, y6, y7, y8, y9, y10⟩ := oH i hi
    have n2 := na_same (co (21 + i) (by omega) (by omega))
    have n6 := na_same (co (53 + i) (by omega) (by omega))
    have n7 := na_same (co (61 + i) (by omega) (by omega))
    exact ⟨bdd_same (co _ (by omega) (by omega)) y1, bdd_same (co _ (by omega) (by omega)) y2, bdd_same (co _ (by omega) (by omega)) y3, bdd_same (co _ (by omega) (by omega)) y4, bdd_same (co _ (by omega) (by omega)) y5, bdd_same (co _ (by omega) (by omega)) y6, bdd_same (co _ (by omega) (by omega)) y7, bdd_same (co _ (by omega) (by omega)) y8, by rw [n6, n2]; exact y9, by rw [n7, n6]; exact y10⟩
  · rw [hN'] at hi hj
    exact bdd_same (co _ (by omega) (by omega)) (dd i j (by omega) (by omega))
  · rw [gN'] at hg
    have e153 := (co (153 + g) (by omega) (by omega)).trans (z g (by omega)).1
    have e157 := (co (157 + g) (by omega) (by omega)).trans (z g (by omega)).2
    have hh := hd' g hg
    have n153 := na_of (n := 0) e153 (by omega)
    have n157 := na_of (n := 0) e157 (by omega)
    by_cases ik : g = k
    · subst ik
      have e1 : gsC c g v1 v2 v3 (133 + g) = nI v1 := by
        unfold gsC
        rw [if_neg (by omega), if_pos rfl]
      have e2 : gsC c g v1 v2 v3 (137 + g) = nI v2 := by
        unfold gsC
        rw [if_neg (by omega), if_neg (by omega), if_pos rfl]
      have e3 : gsC c g v1 v2 v3 (141 + g) = nI v3 := by
        unfold gsC
        rw [if_neg (by omega), if_neg (by omega), if_neg (by omega), if_pos rfl]
      have e4 : gsC c g v1 v2 v3 (145 + g) = c (5 + v1) := by
        unfold gsC
        rw [if_neg (by omega), if_neg (by omega), if_neg (by omega), if_neg (by omega), if_pos rfl]
      have a1 := (oH v1 b1).1
      refine ⟨⟨bdd_of e1 (by omega) (by omega) (by omega), by rw [na_of e1 (by omega), hN']; exact b1⟩, bdd_of e2 b2.1 b2.2 (by omega), bdd_of e3 (by omega) b3 (by omega), bdd_of (e4.trans a1.1) a1.2.1 a1.2.2 (by omega), bdd_of (n := 0) e153 (by omega) (by omega) (by omega), bdd_of (n := 0) e157 (by omega) (by omega) (by omega), Or.inl ⟨hh, n153, n157⟩⟩
    · obtain ⟨⟨y1, y1'⟩, y2, y3, y4, y5, y6, y7⟩ := oG g (by omega)
      have d0 := ci 0 g (by omega) (by omega) ik
      refine ⟨⟨bdd_same d0 y1, ?_⟩, bdd_same (ci 1 g (by omega) (by omega) ik) y2, bdd_same (ci 2 g (by omega) (by omega) ik) y3, bdd_same (ci 3 g (by omega) (by omega) ik) y4, bdd_same (co _ (by omega) (by omega)) y5, bdd_same (co _ (by omega) (by omega)) y6, Or.inl ⟨hh, n153, n157⟩⟩
      have d0' : gsC c k v1 v2 v3 (133 + g) = c (133 + g) := d0
      rw [hN', na_same d0']
      exact y1'
  · rw [wN'] at hw
    exact ⟨bdd_same (co _ (by omega) (by omega)) (oW w hw).1, bdd_same (co _ (by omega) (by omega)) (oW w hw).2⟩
  · rw [gN'] at hg
    exact hd' g hg
  · rw [gN'] at hg
    exact hd' g hg
theorem okG_d {c c' : Nat → Int32} (hh : hN c' = hN c) (co : ∀ j, 133 ≤ j → j < 161 → c' j = c j) {g : Nat} (hg : g < 4) (hd : c (149 + g) = -1) (o : okG c g) : okG c' g := by
  obtain ⟨⟨y1, y1'⟩, y2, y3, y4, y5, y6, y7⟩ := o
  have hz : na c (153 + g) = 0 ∧ na c (157 + g) = 0 := by
    rcases y7 with y7 | y7
    · exact y7.2
    · have := y7.1.1
      rw [hd] at this
      exact absurd this.symm (neg1_ne (by have := y7.1.2.2; omega))
  refine ⟨⟨bdd_same (co _ (by omega) (by omega)) y1, by rw [hh, na_same (co _ (by omega) (by omega))]; exact y1'⟩, bdd_same (co _ (by omega) (by omega)) y2, bdd_same (co _ (by omega) (by omega)) y3, bdd_same (co _ (by omega) (by omega)) y4, bdd_same (co _ (by omega) (by omega)) y5, bdd_same (co _ (by omega) (by omega)) y6, Or.inl ⟨(co _ (by omega) (by omega)).trans hd, by rw [na_same (co _ (by omega) (by omega))]; exact hz.1, by rw [na_same (co _ (by omega) (by omega))]; exact hz.2⟩⟩
theorem dOK_wind (ok : dOK c) (hk : wN c = k) (k5 : k < 6) (b1 : v1 ≤ 99) (b2 : 1 ≤ v2 ∧ v2 ≤ 99) : dOK (wsC c k v1 v2) := by
  obtain ⟨⟨o0, o1, o2, o3, o4, oH, oD, oG, oW, oX⟩, ⟨c4, dd⟩, z, hd⟩ := ok
  have h8 : hN c ≤ 8 := o0.2.2
  have g4 : gN c ≤ 4 := o1.2.2
  have co : ∀ j, j ≠ 2 → j < 161 → wsC c k v1 v2 j = c j := fun j h1 hj => wsC_o (by omega) (by omega) (by omega)
  have wN' : wN (wsC c k v1 v2) = k + 1 := na_of (k := 2) (if_pos rfl) (by omega)
  have hN' : hN (wsC c k v1 v2) = hN c := na_same (k := 0) (co 0 (by omega) (by omega))
  have gN' : gN (wsC c k v1 v2) = gN c := na_same (k := 1) (co 1 (by omega) (by omega))
  refine ⟨⟨bdd_same (co 0 (by omega) (by omega)) o0, bdd_same (co 1 (by omega) (by omega)) o1, bdd_of (n := k + 1) (if_pos rfl) (by omega) (by omega) (by omega), bdd_same (co 3 (by omega) (by omega)) o3, bdd_same (co 4 (by omega) (by omega)) o4, fun i hi => ?_, fun i j hi hj => ?_, fun g hg => ?_, fun w hw => ?_, fun g g' hg hg' _ _ => ?_⟩, ⟨(co 4 (by omega) (by omega)).trans c4, fun i j hi hj => bdd_same (co _ (by omega) (by omega)) (dd i j hi hj)⟩, fun g hg => ⟨(co _ (by omega) (by omega)).trans (z g hg).1, (co _ (by omega) (by omega)).trans (z g hg).2⟩, fun g hg => ?_⟩
  · rw [hN'] at hi
    obtain ⟨y1, y2, y3, y4, y5, y6, y7, y8, y9, y10⟩ := oH i hi
    have n2 := na_same (co (21 + i) (by omega) (by omega))
    have n6 := na_same (co (53 + i) (by omega) (by omega))
    have n7 := na_same (co (61 + i) (by omega) (by omega))
    exact ⟨bdd_same (co _ (by omega) (by omega)) y1, bdd_same (co _ (by omega) (by omega)) y2, bdd_same (co _ (by omega) (by omega)) y3, bdd_same (co _ (by omega) (by omega)) y4, bdd_same (co _ (by omega) (by omega)) y5, bdd_same (co _ (by omega) (by omega)) y6, bdd_same (co _ (by omega) (by omega)) y7, bdd_same (co _ (by omega) (by omega)) y8, by rw [n6, n2]; exact y9, by rw [n7, n6]; exact y10⟩
  · rw [hN'] at hi hj
    exact bdd_same (co _ (by omega) (by omega)) (dd i j (by omega) (by omega))
  · rw [gN'] at hg
    exact okG_d hN' (fun j h1 h2 => co j (by omega) h2) (by omega) (hd g hg) (oG g hg)
  · rw [wN'] at hw
    by_cases ik : w = k
    · subst ik
      have e1 : wsC c w v1 v2 (161 + w) = nI v1 := by
        unfold wsC
        rw [if_neg (by omega), if_pos rfl]
      have e2 : wsC c w v1 v2 (167 + w) = nI v2 := by
        unfold wsC
        rw [if_neg (by omega), if_neg (by omega), if_pos rfl]
      exact ⟨bdd_of e1 (by omega) b1 (by omega), bdd_of e2 b2.1 b2.2 (by omega)⟩
    · have y := oW w (by omega)
      exact ⟨bdd_same (wsC_o (by omega) (by omega) (by omega)) y.1, bdd_same (wsC_o (by omega) (by omega) (by omega)) y.2⟩
  · rw [gN'] at hg
    exact (co _ (by omega) (by omega)).trans (hd g hg)
  · rw [gN'] at hg
    exact (co _ (by omega) (by omega)).trans (hd g hg)
/-- one cell, of a debt or the law -/
theorem dOK_sx (ok : dOK c) {p v : Nat} (hp : (p = 3 ∧ v ≤ 3) ∨ (69 ≤ p ∧ p < 133 ∧ v ≤ 9999)) : dOK (sx c p (nI v)) := by
  obtain ⟨⟨o0, o1, o2, o3, o4, oH, oD, oG, oW, oX⟩, ⟨c4, dd⟩, z, hd⟩ := ok
  have h8 : hN c ≤ 8 := o0.2.2
  have g4 : gN c ≤ 4 := o1.2.2
  have w6 : wN c ≤ 6 := o2.2.2
  have co : ∀ j, j ≠ 3 → (j < 69 ∨ 133 ≤ j) → sx c p (nI v) j = c j := fun j h1 hj => sx_o (by omega)
  have wN' : wN (sx c p (nI v)) = wN c := na_same (k := 2) (co 2 (by omega) (by omega))
  have hN' : hN (sx c p (nI v)) = hN c := na_same (k := 0) (co 0 (by omega) (by omega))
  have gN' : gN (sx c p (nI v)) = gN c := na_same (k := 1) (co 1 (by omega) (by omega))
  have b3 : bdd (sx c p (nI v)) 3 0 3 := by
    by_cases e : p = 3
    · subst e
      exact bdd_of (sx_s _ _ _) (by omega) (by omega) (by omega)
    · exact bdd_same (sx_o (by omega)) o3
  have dd' : ∀ i j, i < 8 → j < 8 → bdd (sx c p (nI v)) (69 + 8 * i + j) 0 9999 := fun i j hi hj => by
    by_cases e : 69 + 8 * i + j = p
    · rw [e]
      exact bdd_of (sx_s _ _ _) (by omega) (by omega) (by omega)
    · exact bdd_same (sx_o e) (dd i j hi hj)
  refine ⟨⟨bdd_same (co 0 (by omega) (by omega)) o0, bdd_same (co 1 (by omega) (by omega)) o1, bdd_same (co 2 (by omega) (by omega)) o2, b3, bdd_same (co 4 (by omega) (by omega)) o4, fun i hi => ?_, fun i j hi hj => ?_, fun g hg => ?_, fun w hw => ?_, fun g g' hg hg' _ _ => ?_⟩, ⟨(co 4 (by omega) (by omega)).trans c4, dd'⟩, fun g hg => ⟨(co _ (by omega) (by omega)).trans (z g hg).1, (co _ (by omega) (by omega)).trans (z g hg).2⟩, fun g hg => ?_⟩
  · rw [hN'] at hi
    obtain ⟨y1, y2, y3, y4, y5, y6, y7, y8, y9, y10⟩ := oH i hi
    have n2 := na_same (co (21 + i) (by omega) (by omega))
    have n6 := na_same (co (53 + i) (by omega) (by omega))
    have n7 := na_same (co (61 + i) (by omega) (by omega))
    exact ⟨bdd_same (co _ (by omega) (by omega)) y1, bdd_same (co _ (by omega) (by omega)) y2, bdd_same (co _ (by omega) (by omega)) y3, bdd_same (co _ (by omega) (by omega)) y4, bdd_same (co _ (by omega) (by omega)) y5, bdd_same (co _ (by omega) (by omega)) y6, bdd_same (co _ (by omega) (by omega)) y7, bdd_same (co _ (by omega) (by omega)) y8, by rw [n6, n2]; exact y9, by rw [n7, n6]; exact y10⟩
  · rw [hN'] at hi hj
    exact dd' i j (by omega) (by omega)
  · rw [gN'] at hg
    exact okG_d hN' (fun j h1 h2 => co j (by omega) (by omega)) (by omega) (hd g hg) (oG g hg)
  · rw [wN'] at hw
    exact ⟨bdd_same (co _ (by omega) (by omega)) (oW w hw).1, bdd_same (co _ (by omega) (by omega)) (oW w hw).2⟩
  · rw [gN'] at hg
    exact (co _ (by omega) (by omega)).trans (hd g hg)
  · rw [gN'] at hg
    exact (co _ (by omega) (by omega)).trans (hd g hg)
end D
