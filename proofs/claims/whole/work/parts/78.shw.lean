/-! THE CLASS'S SHORE, cell by cell: where the cell K of the row lies -/
def off (K : Nat) : Nat × Nat := if K < 3 then (0, 3 + K) else if K < 5 then (0, 4 + K) else if K < 69 then (13 + (K - 5) % 8, 1 + (K - 5) / 8) else if K < 133 then (5 + (K - 69) / 8, (K - 69) % 8) else if K < 161 then (21 + (K - 133) % 4, 1 + (K - 133) / 4) else (25 + (K - 161) % 6, 1 + (K - 161) / 6)
theorem off_inj : ∀ K, K < 173 → ∀ K', K' < 173 → off K = off K' → K = K' := by decide +kernel
theorem off_H : ∀ j, j < 8 → ∀ i, i < 8 → off (5 + 8 * j + i) = (13 + i, 1 + j) := by decide +kernel
theorem off_D : ∀ i, i < 8 → ∀ j, j < 8 → off (69 + 8 * i + j) = (5 + i, j) := by decide +kernel
theorem off_G : ∀ j, j < 7 → ∀ g, g < 4 → off (133 + 4 * j + g) = (21 + g, 1 + j) := by decide +kernel
theorem off_W : ∀ j, j < 2 → ∀ w, w < 6 → off (161 + 6 * j + w) = (25 + w, 1 + j) := by decide +kernel
theorem off_31 : ∀ K, K < 173 → (off K).1 < 31 := by decide +kernel
/-- the cells that tell of what there is -/
def vld (n g w K : Nat) : Prop := K < 5 ∨ (5 ≤ K ∧ K < 69 ∧ (K - 5) % 8 < n) ∨ (69 ≤ K ∧ K < 133 ∧ (K - 69) / 8 < n ∧ (K - 69) % 8 < n) ∨ (133 ≤ K ∧ K < 161 ∧ (K - 133) % 4 < g) ∨ (161 ≤ K ∧ K < 173 ∧ (K - 161) % 6 < w)
theorem vld_lt {n g w K : Nat} (h : vld n g w K) : K < 173 := by unfold vld at h; omega
theorem vld_H {n g w : Nat} {j i : Nat} (hj : j < 8) (hi : i < 8) (h : i < n) : vld n g w (5 + 8 * j + i) := by unfold vld; omega
theorem vld_D {n g w : Nat} {j i : Nat} (hj : j < 8) (hi : i < 8) (h : i < n) (h2 : j < n) : vld n g w (69 + 8 * i + j) := by unfold vld; omega
theorem vld_G {n g w : Nat} {j i : Nat} (hj : j < 7) (hi : i < 4) (h : i < g) : vld n g w (133 + 4 * j + i) := by unfold vld; omega
theorem vld_W {n g w : Nat} {j i : Nat} (hj : j < 2) (hi : i < 6) (h : i < w) : vld n g w (161 + 6 * j + i) := by unfold vld; omega
theorem vld_cases {n g w K : Nat} (h : vld n g w K) : K < 5 ∨ (∃ j i, j < 8 ∧ i < 8 ∧ i < n ∧ K = 5 + 8 * j + i) ∨ (∃ i j, i < 8 ∧ j < 8 ∧ i < n ∧ j < n ∧ K = 69 + 8 * i + j) ∨ (∃ j i, j < 7 ∧ i < 4 ∧ i < g ∧ K = 133 + 4 * j + i) ∨ (∃ j i, j < 2 ∧ i < 6 ∧ i < w ∧ K = 161 + 6 * j + i) := by
  unfold vld at h
  rcases h with h | h | h | h | h
  · exact Or.inl h
  · exact Or.inr (Or.inl ⟨(K - 5) / 8, (K - 5) % 8, by omega, by omega, by omega, by omega⟩)
  · exact Or.inr (Or.inr (Or.inl ⟨(K - 69) / 8, (K - 69) % 8, by omega, by omega, by omega, by omega, by omega⟩))
  · exact Or.inr (Or.inr (Or.inr (Or.inl ⟨(K - 133) / 4, (K - 133) % 4, by omega, by omega, by omega, by omega⟩)))
  · exact Or.inr (Or.inr (Or.inr (Or.inr ⟨(K - 161) / 6, (K - 161) % 6, by omega, by omega, by omega, by omega⟩)))
def shW (M : Mm) (a : Nat) (e : Nat → Int32) : Prop := shL M a ∧ ∀ K, vld (hN e) (gN e) (wN e) K → mI M (a + (off K).1) (off K).2 = e K
/-- the class's own cells: a piece at hand has its minutes from the beginning on -/
def ecl (c : Nat → Int32) : Nat → Int32 := fun k => if 157 ≤ k ∧ k < 161 then pcs c (k - 157) else c k
theorem ecl_o {c : Nat → Int32} {k : Nat} (h : k < 157 ∨ 161 ≤ k) : ecl c k = c k := if_neg (by omega)
theorem ecl_p {c : Nat → Int32} {g : Nat} (h : g < 4) : ecl c (157 + g) = pcs c g := by
  unfold ecl
  rw [if_pos (by omega), show 157 + g - 157 = g by omega]
theorem ecl_h (c : Nat → Int32) : hN (ecl c) = hN c := na_same (ecl_o (by omega))
theorem ecl_g (c : Nat → Int32) : gN (ecl c) = gN c := na_same (ecl_o (by omega))
theorem ecl_w (c : Nat → Int32) : wN (ecl c) = wN c := na_same (ecl_o (by omega))
/-- only ints of the shore's 31 cells changed -/
def FrI (M M' : Mm) (a n : Nat) : Prop := mK M' = mK M ∧ mL M' = mL M ∧ mR M' = mR M ∧ mT M' = mT M ∧ ∀ x, x < a ∨ a + n ≤ x → mI M' x = mI M x
theorem FrI.rf {M : Mm} {a n : Nat} : FrI M M a n := ⟨rfl, rfl, rfl, rfl, fun _ _ => rfl⟩
theorem FrI.tr {M M' M'' : Mm} {a n : Nat} (h : FrI M M' a n) (h2 : FrI M' M'' a n) : FrI M M'' a n := ⟨h2.1.trans h.1, h2.2.1.trans h.2.1, h2.2.2.1.trans h.2.2.1, h2.2.2.2.1.trans h.2.2.2.1, fun x hx => (h2.2.2.2.2 x hx).trans (h.2.2.2.2 x hx)⟩
theorem FrI.sI {M M' : Mm} {a n b k : Nat} {v : Int32} (h : FrI M M' a n) (h1 : a ≤ b) (h2 : b < a + n) : FrI M (sI M' b k v) a n := ⟨h.1, h.2.1, h.2.2.1, h.2.2.2.1, fun x hx => (funext fun j => if_neg (fun z => by omega)).trans (h.2.2.2.2 x hx)⟩
theorem shL_same {M M' : Mm} {a : Nat} (h : shL M a) (hK : mK M' = mK M) (hR : mR M' = mR M) : shL M' a := by
  unfold shL at *
  rw [hK, hR]
  exact h
section W
variable {ρ : Type} {M : Mm} {a : Nat} {c e : Nat → Int32}
theorem shW_of (S : shO M a c) : shW M a (ecl c) := by
  obtain ⟨L, ⟨⟨t0, t1, t2, t3, t4⟩, rH, rD, rG, rW⟩, O⟩ := S
  refine ⟨L, fun K hK => ?_⟩
  rw [ecl_h, ecl_g, ecl_w] at hK
  rcases vld_cases hK with h | ⟨j, i, hj, hi, h, rfl⟩ | ⟨i, j, hi, hj, h, h2, rfl⟩ | ⟨j, i, hj, hi, h, rfl⟩ | ⟨j, i, hj, hi, h, rfl⟩
  · rw [ecl_o (by omega)]
    rcases (show K = 0 ∨ K = 1 ∨ K = 2 ∨ K = 3 ∨ K = 4 by omega) with h | h | h | h | h <;> subst h
    · exact t0
    · exact t1
    · exact t2
    · exact t3
    · exact t4
  · rw [off_H j hj i hi, ecl_o (by omega)]
    obtain ⟨p0, p1, p2, p3, p4, p5, p6, p7⟩ := rH i h
    rcases (show j = 0 ∨ j = 1 ∨ j = 2 ∨ j = 3 ∨ j = 4 ∨ j = 5 ∨ j = 6 ∨ j = 7 by omega) with h | h | h | h | h | h | h | h <;> subst h <;> (rw [← Nat.add_assoc]; assumption)
  · rw [off_D i hi j hj, ecl_o (by omega), ← Nat.add_assoc]
    exact rD i j h h2
  · rw [off_G j hj i hi]
    obtain ⟨p0, p1, p2, p3, p4, p5, p6⟩ := rG i h
    rcases (show j = 0 ∨ j = 1 ∨ j = 2 ∨ j = 3 ∨ j = 4 ∨ j = 5 ∨ j = 6 by omega) with h | h | h | h | h | h | h <;> subst h
    · rw [ecl_o (by omega), ← Nat.add_assoc]; exact p0
    · rw [ecl_o (by omega), ← Nat.add_assoc]; exact p1
    · rw [ecl_o (by omega), ← Nat.add_assoc]; exact p2
    · rw [ecl_o (by omega), ← Nat.add_assoc]; exact p3
    · rw [ecl_o (by omega), ← Nat.add_assoc]; exact p4
    · rw [ecl_o (by omega), ← Nat.add_assoc]; exact p5
    · rw [show 133 + 4 * 6 + i = 157 + i by omega, ecl_p hi, ← Nat.add_assoc]; exact p6
  · rw [off_W j hj i hi, ecl_o (by omega)]
    obtain ⟨p0, p1⟩ := rW i h
    rcases (show j = 0 ∨ j = 1 by omega) with h | h <;> subst h <;> (rw [← Nat.add_assoc]; assumption)
theorem shO_of (W : shW M a e) (he : ∀ k, vld (hN c) (gN c) (wN c) k → e k = ecl c k) (O : okC c) : shO M a c := by
  have h0 : hN e = hN c := (na_same (he 0 (Or.inl (by omega)))).trans (ecl_h c)
  have h1 : gN e = gN c := (na_same (he 1 (Or.inl (by omega)))).trans (ecl_g c)
  have h2 : wN e = wN c := (na_same (he 2 (Or.inl (by omega)))).trans (ecl_w c)
  have g4 := (ok_g O).2
  have h8 := (ok_h O).2
  have w6 := (ok_w O).2
  have key : ∀ K, vld (hN c) (gN c) (wN c) K → mI M (a + (off K).1) (off K).2 = ecl c K := fun K hK => by
    rw [← he K hK]
    refine W.2 K ?_
    rw [h0, h1, h2]
    exact hK
  refine ⟨W.1, ⟨⟨?_, ?_, ?_, ?_, ?_⟩, fun i hi => ?_, fun i j hi hj => ?_, fun g hg => ?_, fun w hw => ?_⟩, O⟩
  · exact (key 0 (Or.inl (by omega))).trans (ecl_o (by omega))
  · exact (key 1 (Or.inl (by omega))).trans (ecl_o (by omega))
  · exact (key 2 (Or.inl (by omega))).trans (ecl_o (by omega))
  · exact (key 3 (Or.inl (by omega))).trans (ecl_o (by omega))
  · exact (key 4 (Or.inl (by omega))).trans (ecl_o (by omega))
  · have kk : ∀ j, j < 8 → mI M (a + 13 + i) (1 + j) = c (5 + 8 * j + i) := fun j hj => by
      have := key (5 + 8 * j + i) (vld_H hj (by omega) hi)
      rw [off_H j hj i (by omega), ecl_o (by omega), ← Nat.add_assoc] at this
      exact this
    exact ⟨kk 0 (by omega), kk 1 (by omega), kk 2 (by omega), kk 3 (by omega), kk 4 (by omega), kk 5 (by omega), kk 6 (by omega), kk 7 (by omega)⟩
  · have := key (69 + 8 * i + j) (vld_D (by omega) (by omega) hi hj)
    rw [off_D i (by omega) j (by omega), ecl_o (by omega), ← Nat.add_assoc] at this
    exact this
  · have kk : ∀ j, j < 7 → mI M (a + 21 + g) (1 + j) = ecl c (133 + 4 * j + g) := fun j hj => by
      have := key (133 + 4 * j + g) (vld_G hj (by omega) hg)
      rw [off_G j hj g (by omega), ← Nat.add_assoc] at this
      exact this
    refine ⟨(kk 0 (by omega)).trans (ecl_o (by omega)), (kk 1 (by omega)).trans (ecl_o (by omega)), (kk 2 (by omega)).trans (ecl_o (by omega)), (kk 3 (by omega)).trans (ecl_o (by omega)), (kk 4 (by omega)).trans (ecl_o (by omega)), (kk 5 (by omega)).trans (ecl_o (by omega)), ?_⟩
    have := kk 6 (by omega)
    rw [show 133 + 4 * 6 + g = 157 + g by omega, ecl_p (by omega)] at this
    exact this
  · have kk : ∀ j, j < 2 → mI M (a + 25 + w) (1 + j) = c (161 + 6 * j + w) := fun j hj => by
      have := key (161 + 6 * j + w) (vld_W hj (by omega) hw)
      rw [off_W j hj w (by omega), ecl_o (by omega), ← Nat.add_assoc] at this
      exact this
    exact ⟨kk 0 (by omega), kk 1 (by omega)⟩
/-- a cell is written -/
theorem shW_put (W : shW M a e) {K : Nat} (hK : K < 173) (h2 : 3 ≤ K) (v : Int32) : shW (sI M (a + (off K).1) (off K).2 v) a (upd e K v) := by
  refine ⟨shL_same W.1 rfl rfl, fun K' hK' => ?_⟩
  rw [show hN (upd e K v) = hN e from na_same (pk_un (by omega)), show gN (upd e K v) = gN e from na_same (pk_un (by omega)), show wN (upd e K v) = wN e from na_same (pk_un (by omega))] at hK'
  rw [mI_sI]
  by_cases q : K' = K
  · subst q
    rw [if_pos ⟨rfl, rfl⟩, pk_us]
  · rw [if_neg (fun z => q (off_inj K' (vld_lt hK') K hK (Prod.ext (by omega) z.2))), pk_un q]
    exact W.2 K' hK'
theorem w_h (W : shW M a e) {i j : Nat} (hi : i < 8) (hj : j < 8) (v : Int32) : shW (sI M (a + 13 + i) (1 + j) v) a (upd e (5 + 8 * j + i) v) := by
  have := shW_put W (K := 5 + 8 * j + i) (by omega) (by omega) v
  rw [off_H j hj i hi, ← Nat.add_assoc] at this
  exact this
theorem w_d (W : shW M a e) {i j : Nat} (hi : i < 8) (hj : j < 8) (v : Int32) : shW (sI M (a + 5 + i) j v) a (upd e (69 + 8 * i + j) v) := by
  have := shW_put W (K := 69 + 8 * i + j) (by omega) (by omega) v
  rw [off_D i hi j hj, ← Nat.add_assoc] at this
  exact this
theorem w_g (W : shW M a e) {g j : Nat} (hg : g < 4) (hj : j < 7) (v : Int32) : shW (sI M (a + 21 + g) (1 + j) v) a (upd e (133 + 4 * j + g) v) := by
  have := shW_put W (K := 133 + 4 * j + g) (by omega) (by omega) v
  rw [off_G j hj g hg, ← Nat.add_assoc] at this
  exact this
theorem w_m (W : shW M a e) (v : Int32) : shW (sI M a 8 v) a (upd e 4 v) := shW_put W (K := 4) (by omega) (by omega) v
theorem g_h (W : shW M a e) {i j : Nat} (hi : i < hN e) (hi8 : i < 8) (hj : j < 8) {k : Int32 → Option ρ} : gfI M (some (a + 13 + i)) 1 (1 + j) k = k (e (5 + 8 * j + i)) := by
  have := W.2 (5 + 8 * j + i) (vld_H hj hi8 hi)
  rw [off_H j hj i hi8, ← Nat.add_assoc] at this
  rw [gfI_s (by rw [(W.1.2.2.2.2.2.2.2.2.2.1 i hi8).2.1]), this]
theorem g_g (W : shW M a e) {i j : Nat} (hi : i < gN e) (hi4 : i < 4) (hj : j < 7) {k : Int32 → Option ρ} : gfI M (some (a + 21 + i)) 0 (1 + j) k = k (e (133 + 4 * j + i)) := by
  have := W.2 (133 + 4 * j + i) (vld_G hj hi4 hi)
  rw [off_G j hj i hi4, ← Nat.add_assoc] at this
  rw [gfI_s (by rw [(W.1.2.2.2.2.2.2.2.2.2.2.1 i hi4).2]), this]
theorem g_d (W : shW M a e) {i j : Nat} (hi : i < hN e) (hj : j < hN e) (hi8 : i < 8) (hj8 : j < 8) {k : Int32 → Option ρ} : alI M (some (a + 5 + i)) 21 (nI j) k = k (e (69 + 8 * i + j)) := by
  have := W.2 (69 + 8 * i + j) (vld_D hj8 hi8 hi hj)
  rw [off_D i hi8 j hj8, ← Nat.add_assoc] at this
  rw [alI_s (W.1.2.2.2.2.2.2.2.2.2.1 i hi8).2.2.2 hj8 (by decide), this]
end W
