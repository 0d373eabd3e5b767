/-! YEARS: steps one behind another -/
theorem stp_cong {M M' : Mm} {y y' : Nat} {c c' : Nat → Int32} {s r : Nat} (hI : ∀ j, 1 ≤ j → j ≤ 4 → mI M' (y' + j) r = mI M (y + j) r) (h0 : hN c' = hN c) (h1 : gN c' = gN c) (hc : ∀ k, 175 + 9 * s ≤ k → k < 183 + 9 * s → c' k = c k) (h : stp M y c s r) : stp M' y' c' s r := by
  unfold stp bdd na at *
  rw [hI 1 (by omega) (by omega), hI 2 (by omega) (by omega), hI 3 (by omega) (by omega), hI 4 (by omega) (by omega), h0, h1, hc (175 + 9 * s) (by omega) (by omega), hc (176 + 9 * s) (by omega) (by omega), hc (177 + 9 * s) (by omega) (by omega), hc (181 + 9 * s) (by omega) (by omega), hc (182 + 9 * s) (by omega) (by omega)]
  exact h
section S
variable {M M' : Mm} {y y' : Nat} {c c' : Nat → Int32}
theorem sgl_le : ∀ (f m s t r r' : Nat), seg M y c f m s t r r' → s ≤ t ∧ r ≤ r'
  | 0, _, _, _, _, _, h => absurd h id
  | f + 1, m, s, t, r, r', h => by
    rcases h with h | ⟨p1, p2, p3, h⟩
    · omega
    · rcases h with ⟨q1, q2, q3⟩ | ⟨q1, e, q, q2, q3, q4, q5, ⟨m', q0, q6⟩, q7, q8, q9, q10⟩
      · have := sgl_le f _ _ _ _ _ q3
        omega
      · have a1 := sgl_le f _ _ _ _ _ q6
        have a2 := sgl_le f _ _ _ _ _ q10
        omega
theorem seg_mono : ∀ (f g m s t r r' : Nat), f ≤ g → seg M y c f m s t r r' → seg M y c g m s t r r'
  | 0, _, _, _, _, _, _, _, h => absurd h id
  | f + 1, g, m, s, t, r, r', hg, h => by
    obtain ⟨g', rfl⟩ : ∃ g', g = g' + 1 := ⟨g - 1, by omega⟩
    rcases h with h | ⟨p1, p2, p3, h⟩
    · exact Or.inl h
    · refine Or.inr ⟨p1, p2, p3, ?_⟩
      rcases h with ⟨q1, q2, q3⟩ | ⟨q1, e, q, q2, q3, q4, q5, ⟨m', q0, q6⟩, q7, q8, q9, q10⟩
      · exact Or.inl ⟨q1, q2, seg_mono f g' _ _ _ _ _ (by omega) q3⟩
      · exact Or.inr ⟨q1, e, q, q2, q3, q4, q5, ⟨m', q0, seg_mono f g' _ _ _ _ _ (by omega) q6⟩, q7, q8, q9, seg_mono f g' _ _ _ _ _ (by omega) q10⟩
theorem seg_cong (h0 : hN c' = hN c) (h1 : gN c' = gN c) : ∀ (f m s t r r' : Nat), (∀ j, 1 ≤ j → j ≤ 5 → ∀ x, r ≤ x → x < r' → mI M' (y' + j) x = mI M (y + j) x) → (∀ k, 175 + 9 * s ≤ k → k < 175 + 9 * t → c' k = c k) → seg M y c f m s t r r' → seg M' y' c' f m s t r r'
  | 0, _, _, _, _, _, _, _, h => h
  | f + 1, m, s, t, r, r', hI, hc, h => by
    rcases h with h | ⟨p1, p2, p3, h⟩
    · exact Or.inl h
    · have rr : r < r' := by
        rcases h with ⟨q1, q2, q3⟩ | ⟨q1, e, q, q2, q3, q4, q5, ⟨m', q0, q6⟩, q7, q8, q9, q10⟩
        · have := sgl_le f _ _ _ _ _ q3
          omega
        · have a1 := sgl_le f _ _ _ _ _ q6
          have a2 := sgl_le f _ _ _ _ _ q10
          omega
      refine Or.inr ⟨p1, p2, stp_cong (fun j j1 j2 => hI j j1 (by omega) r (by omega) rr) h0 h1 (fun k k1 k2 => hc k k1 (by omega)) p3, ?_⟩
      rw [hc (175 + 9 * s) (by omega) (by omega), hc (183 + 9 * s) (by omega) (by omega)]
      rcases h with ⟨q1, q2, q3⟩ | ⟨q1, e, q, q2, q3, q4, q5, ⟨m', q0, q6⟩, q7, q8, q9, q10⟩
      · exact Or.inl ⟨q1, q2, seg_cong h0 h1 f _ _ _ _ _ (fun j j1 j2 x x1 x2 => hI j j1 j2 x (by omega) x2) (fun k k1 k2 => hc k (by omega) k2) q3⟩
      · have a1 := sgl_le f _ _ _ _ _ q6
        have a2 := sgl_le f _ _ _ _ _ q10
        exact Or.inr ⟨q1, e, q, q2, q3, q4, q5, ⟨m', q0, seg_cong h0 h1 f _ _ _ _ _ (fun j j1 j2 x x1 x2 => hI j j1 j2 x (by omega) (by omega)) (fun k k1 k2 => hc k (by omega) (by omega)) q6⟩, by rw [hI 1 (by omega) (by omega) q (by omega) (by omega)]; exact q7, by rw [hI 5 (by omega) (by omega) q (by omega) (by omega)]; exact q8, by rw [hI 5 (by omega) (by omega) r (by omega) (by omega)]; exact q9, seg_cong h0 h1 f _ _ _ _ _ (fun j j1 j2 x x1 x2 => hI j j1 j2 x (by omega) x2) (fun k k1 k2 => hc k (by omega) k2) q10⟩
theorem seg_app0 {m t u r' r'' d : Nat} (H : ∀ g, d < g → seg M y c g m t u r' r'') (htu : t ≤ u) : ∀ (f s r : Nat), seg M y c f m s t r r' → seg M y c (f + d) m s u r r''
  | 0, _, _, h => absurd h id
  | f + 1, s, r, h => by
    rcases h with h | ⟨p1, p2, p3, h⟩
    · rw [h.1, h.2]
      exact H _ (by omega)
    · rw [show f + 1 + d = (f + d) + 1 by omega]
      refine Or.inr ⟨by omega, p2, p3, ?_⟩
      rcases h with ⟨q1, q2, q3⟩ | ⟨q1, e, q, q2, q3, q4, q5, ⟨m', q0, q6⟩, q7, q8, q9, q10⟩
      · exact Or.inl ⟨q1, q2, seg_app0 H htu f _ _ q3⟩
      · exact Or.inr ⟨q1, e, q, q2, q3, by omega, q5, ⟨m', q0, seg_mono f (f + d) _ _ _ _ _ (by omega) q6⟩, q7, q8, q9, seg_app0 H htu f _ _ q10⟩
theorem seg_app {m s t u r r' r'' : Nat} (h1 : seg M y c (r' - r + 1) m s t r r') (h2 : seg M y c (r'' - r' + 1) m t u r' r'') : seg M y c (r'' - r + 1) m s u r r'' := by
  have a1 := sgl_le _ _ _ _ _ _ h1
  have a2 := sgl_le _ _ _ _ _ _ h2
  have h := seg_app0 (d := r'' - r') (fun g hg => seg_mono _ g _ _ _ _ _ (by omega) h2) a2.1 _ _ _ h1
  exact seg_mono _ _ _ _ _ _ _ (by omega) h
theorem seg_nil {m s r : Nat} : seg M y c (r - r + 1) m s s r r := Or.inl ⟨rfl, rfl⟩
end S
/-- the same text goes on -/
def yGo (cd : Nat → Nat) (n : Nat) (nm : Nat → List Nat) (hc gc k r dp : Nat) (op : Nat → Nat) (R : Nat → Nat → Int32) (s k' r' dp' : Nat) (op' : Nat → Nat) (R' : Nat → Nat → Int32) (s' : Nat) : Prop := ∀ f, n - s < f → ∃ f', n - s' < f' ∧ rdY cd n nm hc gc f k r dp op R s = rdY cd n nm hc gc f' k' r' dp' op' R' s'
def yBd (cd : Nat → Nat) (n : Nat) (nm : Nat → List Nat) (hc gc k r dp : Nat) (op : Nat → Nat) (R : Nat → Nat → Int32) (s : Nat) (e : Nat × Nat) : Prop := ∀ f, n - s < f → rdY cd n nm hc gc f k r dp op R s = .inl e
theorem sw_kd {cd : Nat → Nat} {n s : Nat} (h : 0 ≤ swV (tkW cd n s)) : ∃ kd, kd < 8 ∧ swV (tkW cd n s) = nI kd ∧ tkW cd n s = kW kd ∧ (opB (tkW cd n s) = true ↔ kd = 5 ∨ kd = 6) := by
  have g : ∀ w, w < 30 → 0 ≤ swV (nI w) → ∃ kd, kd < 8 ∧ swV (nI w) = nI kd ∧ nI w = kW kd ∧ (opB (nI w) = true ↔ kd = 5 ∨ kd = 6) := by decide +kernel
  rcases tkW_al cd n s with q | ⟨w, hw, q⟩
  · rw [q] at h
    exact absurd h (by decide)
  · rw [q] at h ⊢
    exact g w hw h
theorem sw_56 (cd : Nat → Nat) (n s : Nat) : (swV (tkW cd n s) = 5 ∨ swV (tkW cd n s) = 6) ↔ opB (tkW cd n s) = true := by
  have g : ∀ w, w < 30 → ((swV (nI w) = 5 ∨ swV (nI w) = 6) ↔ opB (nI w) = true) := by decide +kernel
  rcases tkW_al cd n s with q | ⟨w, hw, q⟩
  · rw [q]
    decide
  · rw [q]
    exact g w hw
section P
variable {cd : Nat → Nat} {n hc gc k r dp s k' r' dp' s' k'' r'' dp'' s'' : Nat} {nm : Nat → List Nat} {op op' op'' : Nat → Nat} {R R' R'' : Nat → Nat → Int32} {e : Nat × Nat}
theorem yGo.tr (h : yGo cd n nm hc gc k r dp op R s k' r' dp' op' R' s') (h2 : yGo cd n nm hc gc k' r' dp' op' R' s' k'' r'' dp'' op'' R'' s'') : yGo cd n nm hc gc k r dp op R s k'' r'' dp'' op'' R'' s'' := fun f hf => by
  obtain ⟨f1, a1, a2⟩ := h f hf
  obtain ⟨f2, b1, b2⟩ := h2 f1 a1
  exact ⟨f2, b1, a2.trans b2⟩
theorem yGo.bd (h : yGo cd n nm hc gc k r dp op R s k' r' dp' op' R' s') (h2 : yBd cd n nm hc gc k' r' dp' op' R' s' e) : yBd cd n nm hc gc k r dp op R s e := fun f hf => by
  obtain ⟨f1, a1, a2⟩ := h f hf
  rw [a2]
  exact h2 f1 a1
theorem yGo.rf : yGo cd n nm hc gc k r dp op R s k r dp op R s := fun f hf => ⟨f, hf, rfl⟩
theorem yGo_1 {t u : Nat} (hK : tkK cd n s ≠ 0) (h : yHead cd n nm hc gc k r dp op R s = .inr (k', dp', op', R', t)) (h2 : tSm cd n t = .inr u) (hst : s < u) : yGo cd n nm hc gc k r dp op R s k' (r + 1) dp' op' R' u := fun f hf => by
  have hs := tkK_s hK
  obtain ⟨f', rfl⟩ : ∃ f', f = f' + 1 := ⟨f - 1, by omega⟩
  refine ⟨f', by omega, ?_⟩
  rw [rdY, if_neg hK, h]
  dsimp only
  rw [h2]
theorem yBd_1 (hK : tkK cd n s ≠ 0) (h : yHead cd n nm hc gc k r dp op R s = .inl e) : yBd cd n nm hc gc k r dp op R s e := fun f hf => by
  obtain ⟨f', rfl⟩ : ∃ f', f = f' + 1 := ⟨f - 1, by omega⟩
  rw [rdY, if_neg hK, h]
theorem yBd_2 {t : Nat} (hK : tkK cd n s ≠ 0) (h : yHead cd n nm hc gc k r dp op R s = .inr (k', dp', op', R', t)) (h2 : tSm cd n t = .inl e) : yBd cd n nm hc gc k r dp op R s e := fun f hf => by
  obtain ⟨f', rfl⟩ : ∃ f', f = f' + 1 := ⟨f - 1, by omega⟩
  rw [rdY, if_neg hK, h]
  dsimp only
  rw [h2]
/-- no step stands there -/
theorem yBd_0 (h1 : dp = 0 → tkK cd n s ≠ 0) (h2 : dp ≠ 0 → tkW cd n s ≠ nI 28) (h3 : ¬ 0 ≤ swV (tkW cd n s)) : yBd cd n nm hc gc k r dp op R s (fK cd n s 2) := fun f hf => by
  obtain ⟨f', rfl⟩ : ∃ f', f = f' + 1 := ⟨f - 1, by omega⟩
  by_cases hK : tkK cd n s = 0
  · have fk : fK cd n s 2 = (2, s) := by
      unfold fK
      rw [if_neg (by omega)]
    rw [rdY, if_pos hK, if_neg (fun z => h1 z hK), fk]
  · rw [rdY, if_neg hK]
    unfold yHead
    by_cases w : tkW cd n s = nI 28
    · have d : dp = 0 := Decidable.byContradiction fun z => h2 z w
      have k2 := ((tkW_iff (w := 28) (by omega)).mp w).1
      have fk : fK cd n s 2 = (2, s) := by
        unfold fK
        rw [if_neg (by omega)]
      rw [if_pos w, if_pos d, fk]
    · rw [if_neg w, if_neg h3]
end P
