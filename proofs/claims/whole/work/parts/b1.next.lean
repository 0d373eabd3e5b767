/-! TEXTS: the reference goes on to the next token -/
def tpM (N : Mm) (cd : Nat → Nat) (n : Nat) : Prop := mdL N ∧ n ≤ 900 ∧ mI N 207 9 = nI n ∧ ∀ k, k < n → mI N 211 k = bV (cd k) ∧ cd k < 256
def FTm (N N' : Mm) : Prop := mK N' = mK N ∧ mR N' = mR N ∧ mT N' = mT N ∧ (∀ x, x ≠ 207 → mI N' x = mI N x ∧ mL N' x = mL N x) ∧ (∀ k, ¬ (14 ≤ k ∧ k ≤ 18) → mI N' 207 k = mI N 207 k) ∧ ∀ k, k ≠ 19 → mL N' 207 k = mL N 207 k
theorem FTm.rf {N : Mm} : FTm N N := ⟨rfl, rfl, rfl, fun _ _ => ⟨rfl, rfl⟩, fun _ _ => rfl, fun _ _ => rfl⟩
theorem FTm.tr {M M' M'' : Mm} (h : FTm M M') (h2 : FTm M' M'') : FTm M M'' := ⟨h2.1.trans h.1, h2.2.1.trans h.2.1, h2.2.2.1.trans h.2.2.1, fun x hx => ⟨(h2.2.2.2.1 x hx).1.trans (h.2.2.2.1 x hx).1, (h2.2.2.2.1 x hx).2.trans (h.2.2.2.1 x hx).2⟩, fun k hk => (h2.2.2.2.2.1 k hk).trans (h.2.2.2.2.1 k hk), fun k hk => (h2.2.2.2.2.2 k hk).trans (h.2.2.2.2.2 k hk)⟩
theorem FTm.sI {M M' : Mm} (h : FTm M M') {k : Nat} (hk : 14 ≤ k ∧ k ≤ 18) (v : Int32) : FTm M (sI M' 207 k v) := ⟨h.1, h.2.1, h.2.2.1, fun x hx => ⟨by rw [mI_o hx]; exact (h.2.2.2.1 x hx).1, (h.2.2.2.1 x hx).2⟩, fun j hj => by rw [mI_f (fun e => hj (by rw [e]; exact hk))]; exact h.2.2.2.2.1 j hj, h.2.2.2.2.2⟩
theorem FTm.sL {M M' : Mm} (h : FTm M M') (v : Int64) : FTm M (sL M' 207 19 v) := ⟨h.1, h.2.1, h.2.2.1, fun x hx => ⟨(h.2.2.2.1 x hx).1, by rw [mL_o hx]; exact (h.2.2.2.1 x hx).2⟩, h.2.2.2.2.1, fun j hj => by rw [mL_f hj]; exact h.2.2.2.2.2 j hj⟩
/-- the reference's kinds -/
def mkK (k : Nat) : Nat := if k = 0 then 0 else if k = 1 then 4 else k - 1
def TkM (N : Mm) (cd : Nat → Nat) (n s : Nat) : Prop := s ≤ n ∧ mI N 207 15 = nI s ∧ mI N 207 16 = nI (tkE cd n s) ∧ mI N 207 14 = nI (mkK (tkK cd n s)) ∧ (tkK cd n s = 2 → mI N 207 18 = nI (tkE cd n s - s) ∧ mL N 207 19 = (if tkE cd n s - s ≤ 8 then lN (n32 (lw cd s (tkE cd n s - s))) else -1)) ∧ (tkK cd n s = 3 → mI N 207 17 = nI (nv cd s (tkE cd n s - s))) ∧ (tkK cd n s = 4 → mI N 207 17 = nI (cd s))
section Q
variable {ρ : Type} {M N : Mm} {cd : Nat → Nat} {n : Nat}
theorem FTm.tp (h : FTm M N) (H : tpM M cd n) : tpM N cd n := by
  refine ⟨?_, H.2.1, by rw [h.2.2.2.2.1 9 (by omega)]; exact H.2.2.1, fun k hk => by rw [(h.2.2.2.1 211 (by decide)).1]; exact H.2.2.2 k hk⟩
  have D := H.1
  unfold mdL at *
  rw [h.1, h.2.1]
  exact D
def lk (cd : Nat → Nat) (n p : Nat) : Nat := if p < n then cd p else 0
theorem lk_lt (H : tpM M cd n) (p : Nat) : lk cd n p < 256 := by
  unfold lk
  by_cases q : p < n
  · rw [if_pos q]; exact (H.2.2.2 p q).2
  · rw [if_neg q]; omega
theorem q_look (H : tpM M cd n) {p : Nat} (hp : p ≤ 900) : f_X12_look2 M (some 207) (nI p) = some (nI (lk cd n p), M) := by
  have n9 := H.2.1
  unfold f_X12_look2 lk
  rw [m_gI H.1, H.2.2.1]
  by_cases q : p < n
  · obtain ⟨h1, h2⟩ := H.2.2.2 p q
    rw [if_neg (by rw [nI_leI' (by omega) (by omega)]; omega), m_r7 H.1, alI_s H.1.2.2.2.2.1.2 (by omega) (by decide), h1, bV_and _ h2, if_pos q]
  · rw [if_pos (by rw [nI_leI' (by omega) (by omega)]; omega), if_neg q]
    rfl
theorem q_isLet (M : Mm) {i : Nat} (hi : i < 256) : f_X12_isLetter M (nI i) = some (if 97 ≤ i ∧ i ≤ 122 then 1 else 0, M) := by
  unfold f_X12_isLetter g_X12_isLetter
  rw [show (97 : Int32) = nI 97 from rfl, show (122 : Int32) = nI 122 from rfl]
  by_cases q : 97 ≤ i
  · rw [if_neg (by rw [nI_ltI' (by omega) (by omega)]; omega)]
    by_cases q2 : i ≤ 122
    · rw [if_neg (by rw [nI_ltI' (by omega) (by omega)]; omega), zc1, if_pos ⟨q, q2⟩]
    · rw [if_pos (by rw [nI_ltI' (by omega) (by omega)]; omega), zc0, if_neg (fun z => q2 z.2)]
  · rw [if_pos (by rw [nI_ltI' (by omega) (by omega)]; omega), zc0, if_neg (fun z => q z.1)]
theorem q_isDig (M : Mm) {i : Nat} (hi : i < 256) : f_X12_isDigit M (nI i) = some (if 48 ≤ i ∧ i ≤ 57 then 1 else 0, M) := by
  unfold f_X12_isDigit g_X12_isDigit
  rw [show (48 : Int32) = nI 48 from rfl, show (57 : Int32) = nI 57 from rfl]
  by_cases q : 48 ≤ i
  · rw [if_neg (by rw [nI_ltI' (by omega) (by omega)]; omega)]
    by_cases q2 : i ≤ 57
    · rw [if_neg (by rw [nI_ltI' (by omega) (by omega)]; omega), zc1, if_pos ⟨q, q2⟩]
    · rw [if_pos (by rw [nI_ltI' (by omega) (by omega)]; omega), zc0, if_neg (fun z => q2 z.2)]
  · rw [if_pos (by rw [nI_ltI' (by omega) (by omega)]; omega), zc0, if_neg (fun z => q z.1)]
theorem q_isSgB (M : Mm) {i : Nat} (hi : i < 256) : f_X12_isSignByte M (some 207) (nI i) = some (if i = 59 ∨ i = 60 ∨ i = 62 ∨ i = 61 then 1 else 0, M) := by
  have ch : ∀ j, j < 256 → (nI i = nI j ↔ i = j) := fun j hj => nI_eq' (by omega) (by omega)
  have c59 : nI i = 59 ↔ i = 59 := ch 59 (by omega)
  have c60 : nI i = 60 ↔ i = 60 := ch 60 (by omega)
  have c62 : nI i = 62 ↔ i = 62 := ch 62 (by omega)
  have c61 : nI i = 61 ↔ i = 61 := ch 61 (by omega)
  have c10 : nI i = 10 ↔ i = 10 := ch 10 (by omega)
  have c32 : nI i = 32 ↔ i = 32 := ch 32 (by omega)
  unfold f_X12_isSignByte g_X12_isSignByte
  by_cases q1 : i = 59
  · rw [if_pos (c59.mpr q1), f_X12_isSignByte_24, zc1, if_pos (Or.inl q1)]
  · rw [if_neg (fun z => q1 (c59.mp z))]
    by_cases q2 : i = 60
    · rw [if_pos (c60.mpr q2), f_X12_isSignByte_24, zc1, if_pos (Or.inr (Or.inl q2))]
    · rw [if_neg (fun z => q2 (c60.mp z))]
      by_cases q3 : i = 62
      · rw [if_pos (c62.mpr q3), f_X12_isSignByte_24, zc1, if_pos (Or.inr (Or.inr (Or.inl q3)))]
      · rw [if_neg (fun z => q3 (c62.mp z))]
        by_cases q4 : i = 61
        · rw [if_pos (c61.mpr q4), f_X12_isSignByte_24, zc1, if_pos (Or.inr (Or.inr (Or.inr q4)))]
        · rw [if_neg (fun z => q4 (c61.mp z)), zc0, if_neg (by rintro (z | z | z | z); exact q1 z; exact q2 z; exact q3 z; exact q4 z)]
theorem q_word109 (H : tpM M cd n) {s : Nat} (hs : s < n) (h15 : mI M 207 15 = nI s) (h16 : mI M 207 16 = nI s) (h19 : mL M 207 19 = 0) : ∃ N, f_X12_next_109 fu M (some 207) = some N ∧ FTm M N ∧ mI N 207 15 = nI s ∧ mI N 207 14 = mI M 207 14 ∧ mI N 207 16 = nI (rnE (qL cd) n fu s) ∧ mI N 207 18 = nI (rnE (qL cd) n fu s - s) ∧ mL N 207 19 = (if rnE (qL cd) n fu s - s ≤ 8 then lN (n32 (lw cd s (rnE (qL cd) n fu s - s))) else -1) := by
  have n9 := H.2.1
  obtain ⟨e, he⟩ : ∃ e, rnE (qL cd) n fu s = e := ⟨_, rfl⟩
  have e1 := rnE_ge (q := qL cd) (n := n) fu s
  have e2 := rnE_le (q := qL cd) (n := n) fu s (by omega)
  have e3 := rnE_in (q := qL cd) (n := n) fu s
  have e4 := rnE_end (q := qL cd) (n := n) fu s (by omega) (by unfold fu; omega)
  rw [he] at e1 e2 e3 e4
  rw [he]
  obtain ⟨N, f1, -, g1, g2, g3, g4, g5⟩ := lupE (fun f N k => f_X12_next_109 f N (some 207)) (fun k N => s ≤ k ∧ FTm M N ∧ mI N 207 15 = nI s ∧ mI N 207 14 = mI M 207 14 ∧ mI N 207 16 = nI k ∧ mL N 207 19 = (if k - s ≤ 8 then lN (n32 (lw cd s (k - s))) else -1)) e (fun N => some (sI N 207 18 (nI (e - s)))) (fun f k N hk hI => by
    obtain ⟨hsk, h1, h2, h2', h3, h4⟩ := hI
    have HN := h1.tp H
    have hq := qL_t.mp (e3 k hsk hk)
    have elk : lk cd n k = cd k := if_pos (by omega)
    have c256 : cd k < 256 := (H.2.2.2 k (by omega)).2
    have go : ∀ v : Int64, (v = if k + 1 - s ≤ 8 then lN (n32 (lw cd s (k + 1 - s))) else -1) → ∃ y, f_X12_next_166 (fun M l0 => f_X12_next_109 f M l0) N (some 207) (some 207) v = f_X12_next_109 f y (some 207) ∧ (s ≤ k + 1 ∧ FTm M y ∧ mI y 207 15 = nI s ∧ mI y 207 14 = mI M 207 14 ∧ mI y 207 16 = nI (k + 1) ∧ mL y 207 19 = (if k + 1 - s ≤ 8 then lN (n32 (lw cd s (k + 1 - s))) else -1)) := fun v hv => by
      have D2 : mdL (sL N 207 19 v) := HN.1
      refine ⟨sI (sL N 207 19 v) 207 16 (nI (k + 1)), ?_, by omega, (h1.sL v).sI (by omega) _, ?_, ?_, mI_sI_s _ _ _ _, ?_⟩
      · unfold f_X12_next_166
        rw [m_pL HN.1, m_gI D2]
        show pfI (sL N 207 19 v) (some 207) 12 16 (mI N 207 16 + 1) _ = _
        rw [h3, nI_1, m_pI D2]
      · rw [mI_f (by decide)]; exact h2
      · rw [mI_f (by decide)]; exact h2'
      · show mL (sL N 207 19 v) 207 19 = _
        rw [mL_s]
        exact hv
    show ∃ y, f_X12_next_109 (f + 1) N (some 207) = _ ∧ _
    rw [f_X12_next_109, m_gI HN.1, h3, m_ck HN.1, q_look HN (by omega), bd_s, elk, q_isLet N c256, bd_s, if_pos hq, if_neg (by decide), m_gI HN.1, h3, m_gI HN.1, h2, nI_sub hsk]
    by_cases q8 : 8 ≤ k - s
    · rw [if_pos (by rw [show (8 : Int32) = nI 8 from rfl, nI_leI' (by omega) (by omega)]; exact q8)]
      exact go (-1) (by rw [if_neg (by omega)])
    · rw [if_neg (by rw [show (8 : Int32) = nI 8 from rfl, nI_leI' (by omega) (by omega)]; exact q8), m_gL HN.1, h4, m_gI HN.1, h3, m_ck HN.1, q_look HN (by omega), bd_s, elk, if_pos (by omega)]
      refine go _ ?_
      rw [if_pos (by omega), lI (by omega), show (32 : Int64) = lN 32 from rfl, show (96 : Int64) = lN 96 from rfl, lN_mul, lN_add, lN_sub (by omega), show k + 1 - s = (k - s) + 1 by omega, lw, n32_a, show s + (k - s) = k by omega]
      exact congrArg lN (by omega)) (fun f N hI => by
    obtain ⟨hsk, h1, h2, h2', h3, h4⟩ := hI
    have HN := h1.tp H
    have nq : ¬ (97 ≤ lk cd n e ∧ lk cd n e ≤ 122) := fun z => by
      unfold lk at z
      by_cases q : e < n
      · rw [if_pos q] at z
        exact e4 ⟨q, qL_t.mpr z⟩
      · rw [if_neg q] at z
        omega
    show f_X12_next_109 (f + 1) N (some 207) = _
    rw [f_X12_next_109, m_gI HN.1, h3, m_ck HN.1, q_look HN (by omega), bd_s, q_isLet N (lk_lt HN e), bd_s, if_neg nq, if_pos rfl, m_gI HN.1, h3, m_gI HN.1, h2, nI_sub e1, m_pI HN.1]) fu s M e1 (by unfold fu; omega) ⟨Nat.le_refl _, FTm.rf, h15, rfl, h16, by rw [h19, Nat.sub_self, if_pos (by omega)]; rfl⟩
  exact ⟨_, f1, g1.sI (by omega) _, by rw [mI_f (by decide)]; exact g2, by rw [mI_f (by decide)]; exact g3, by rw [mI_f (by decide)]; exact g4, mI_sI_s _ _ _ _, g5⟩
theorem q_num210 (H : tpM M cd n) {s : Nat} (hs : s < n) (h15 : mI M 207 15 = nI s) (h16 : mI M 207 16 = nI s) (h17 : mI M 207 17 = 0) : ∃ N, f_X12_next_210 fu M (some 207) = some N ∧ FTm M N ∧ mI N 207 15 = nI s ∧ mI N 207 16 = nI (rnE (qD cd) n fu s) ∧ mI N 207 14 = nI (if rnE (qD cd) n fu s - s ≤ 4 then 2 else 4) ∧ (rnE (qD cd) n fu s - s ≤ 4 → mI N 207 17 = nI (nv cd s (rnE (qD cd) n fu s - s))) := by
  have n9 := H.2.1
  obtain ⟨e, he⟩ : ∃ e, rnE (qD cd) n fu s = e := ⟨_, rfl⟩
  have e1 := rnE_ge (q := qD cd) (n := n) fu s
  have e2 := rnE_le (q := qD cd) (n := n) fu s (by omega)
  have e3 := rnE_in (q := qD cd) (n := n) fu s
  have e4 := rnE_end (q := qD cd) (n := n) fu s (by omega) (by unfold fu; omega)
  rw [he] at e1 e2 e3 e4
  rw [he]
  obtain ⟨N, f1, -, g1, g2, g3, g4⟩ := lupE (fun f N k => f_X12_next_210 f N (some 207)) (fun k N => s ≤ k ∧ FTm M N ∧ mI N 207 15 = nI s ∧ mI N 207 16 = nI k ∧ (k - s ≤ 4 → mI N 207 17 = nI (nv cd s (k - s)))) e (fun N => some (sI N 207 14 (nI (if e - s ≤ 4 then 2 else 4)))) (fun f k N hk hI => by
    obtain ⟨hsk, h1, h2, h3, h4⟩ := hI
    have HN := h1.tp H
    have hq := qD_t.mp (e3 k hsk hk)
    have elk : lk cd n k = cd k := if_pos (by omega)
    have c256 : cd k < 256 := (H.2.2.2 k (by omega)).2
    show ∃ y, f_X12_next_210 (f + 1) N (some 207) = f_X12_next_210 f y (some 207) ∧ _
    rw [f_X12_next_210, m_gI HN.1, h3, m_ck HN.1, q_look HN (by omega), bd_s, elk, q_isDig N c256, bd_s, if_pos hq, if_neg (by decide), m_gI HN.1, h3, m_gI HN.1, h2, nI_sub hsk]
    by_cases q4 : 4 ≤ k - s
    · refine ⟨sI N 207 16 (nI (k + 1)), ?_, by omega, h1.sI (by omega) _, by rw [mI_f (by decide)]; exact h2, mI_sI_s _ _ _ _, fun z => by omega⟩
      rw [if_pos (by rw [show (4 : Int32) = nI 4 from rfl, nI_leI' (by omega) (by omega)]; exact q4), f_X12_next_260, m_gI HN.1, h3, nI_1, m_pI HN.1]
    · have e17 : ((10 * mI N 207 17) + nI (cd k)) - 48 = nI (nv cd s (k + 1 - s)) := by
        rw [h4 (by omega), show (10 : Int32) = nI 10 from rfl, show (48 : Int32) = nI 48 from rfl, nI_mul, nI_add, nI_sub (by omega), show k + 1 - s = (k - s) + 1 by omega, nv, show s + (k - s) = k by omega]
        exact congrArg nI (by omega)
      have D2 : mdL (sI N 207 17 (nI (nv cd s (k + 1 - s)))) := HN.1
      refine ⟨sI (sI N 207 17 (nI (nv cd s (k + 1 - s)))) 207 16 (nI (k + 1)), ?_, by omega, (h1.sI (by omega) _).sI (by omega) _, by rw [mI_f (by decide), mI_f (by decide)]; exact h2, mI_sI_s _ _ _ _, fun _ => by rw [mI_f (by decide), mI_sI_s]⟩
      rw [if_neg (by rw [show (4 : Int32) = nI 4 from rfl, nI_leI' (by omega) (by omega)]; exact q4), m_gI HN.1, m_gI HN.1, h3, m_ck HN.1, q_look HN (by omega), bd_s, elk, e17, m_pI HN.1, f_X12_next_260, m_gI D2, mI_f (by decide), h3, nI_1, m_pI D2]) (fun f N hI => by
    obtain ⟨hsk, h1, h2, h3, h4⟩ := hI
    have HN := h1.tp H
    have nq : ¬ (48 ≤ lk cd n e ∧ lk cd n e ≤ 57) := fun z => by
      unfold lk at z
      by_cases q : e < n
      · rw [if_pos q] at z
        exact e4 ⟨q, qD_t.mpr z⟩
      · rw [if_neg q] at z
        omega
    show f_X12_next_210 (f + 1) N (some 207) = _
    rw [f_X12_next_210, m_gI HN.1, h3, m_ck HN.1, q_look HN (by omega), bd_s, q_isDig N (lk_lt HN e), bd_s, if_neg nq, if_pos rfl, m_gI HN.1, h3, m_gI HN.1, h2, nI_sub e1]
    by_cases q4 : e - s ≤ 4
    · rw [if_pos (by rw [show (4 : Int32) = nI 4 from rfl, nI_leI' (by omega) (by omega)]; exact q4), f_X12_next_292, m_pI HN.1, if_pos q4]
      rfl
    · rw [if_neg (by rw [show (4 : Int32) = nI 4 from rfl, nI_leI' (by omega) (by omega)]; exact q4), f_X12_next_292, m_pI HN.1, if_neg q4]
      rfl) fu s M e1 (by unfold fu; omega) ⟨Nat.le_refl _, FTm.rf, h15, h16, fun _ => by rw [h17, Nat.sub_self]; rfl⟩
  exact ⟨_, f1, g1.sI (by omega) _, by rw [mI_f (by decide)]; exact g2, by rw [mI_f (by decide)]; exact g3, mI_sI_s _ _ _ _, fun z => by rw [mI_f (by decide)]; exact g4 z⟩
/-- a step of the reference -/
theorem q_next (H : tpM M cd n) {p : Nat} (hp : p ≤ n) (h16 : mI M 207 16 = nI p) : ∃ N, f_X12_next M (some 207) = some N ∧ FTm M N ∧ TkM N cd n (tkS cd n p) := by
  have n9 := H.2.1
  obtain ⟨s, hs⟩ : ∃ s, tkS cd n p = s := ⟨_, rfl⟩
  have s1 := rnE_ge (q := qB cd) (n := n) fu p
  have s2 := rnE_le (q := qB cd) (n := n) fu p hp
  have s3 := rnE_in (q := qB cd) (n := n) fu p
  have s4 := rnE_end (q := qB cd) (n := n) fu p hp (by unfold fu; omega)
  have hs' : rnE (qB cd) n fu p = s := hs
  rw [hs'] at s1 s2 s3 s4
  rw [hs]
  obtain ⟨N0, f0, -, g0, g1⟩ := lupE (fun f N k => f_X12_next_8 f N (some 207)) (fun k N => p ≤ k ∧ FTm M N ∧ mI N 207 15 = nI k) s (fun N => f_X12_next_58 N (some 207)) (fun f k N hk hI => by
    obtain ⟨hpk, h1, h2⟩ := hI
    have HN := h1.tp H
    have hq := qB_t.mp (s3 k hpk hk)
    have elk : lk cd n k = cd k := if_pos (by omega)
    have c256 : cd k < 256 := (H.2.2.2 k (by omega)).2
    have ch : ∀ j, j < 256 → (nI (cd k) = nI j ↔ cd k = j) := fun j hj => nI_eq' (by omega) (by omega)
    have c59 : nI (cd k) = 59 ↔ cd k = 59 := ch 59 (by omega)
    have c60 : nI (cd k) = 60 ↔ cd k = 60 := ch 60 (by omega)
    have c62 : nI (cd k) = 62 ↔ cd k = 62 := ch 62 (by omega)
    have c61 : nI (cd k) = 61 ↔ cd k = 61 := ch 61 (by omega)
    have c10 : nI (cd k) = 10 ↔ cd k = 10 := ch 10 (by omega)
    have c32 : nI (cd k) = 32 ↔ cd k = 32 := ch 32 (by omega)
    refine ⟨sI N 207 15 (nI (k + 1)), ?_, by omega, h1.sI (by omega) _, mI_sI_s _ _ _ _⟩
    show f_X12_next_8 (f + 1) N (some 207) = _
    rw [f_X12_next_8, m_gI HN.1, h2, m_gI HN.1, HN.2.2.1, if_neg (by rw [nI_leI' (by omega) (by omega)]; omega), m_gI HN.1, h2, m_ck HN.1, q_look HN (by omega), bd_s, elk]
    by_cases z : cd k = 10
    · rw [if_pos (c10.mpr z), f_X12_next_45, m_gI HN.1, h2, nI_1, m_pI HN.1]
    · rw [if_neg (fun w => z (c10.mp w)), m_gI HN.1, h2, m_ck HN.1, q_look HN (by omega), bd_s, elk, if_pos (c32.mpr (by omega)), f_X12_next_45, m_gI HN.1, h2, nI_1, m_pI HN.1]) (fun f N hI => by
    obtain ⟨hpk, h1, h2⟩ := hI
    have HN := h1.tp H
    show f_X12_next_8 (f + 1) N (some 207) = _
    rw [f_X12_next_8, m_gI HN.1, h2, m_gI HN.1, HN.2.2.1]
    by_cases q : n ≤ s
    · rw [if_pos (by rw [nI_leI' (by omega) (by omega)]; exact q)]
    · have elk : lk cd n s = cd s := if_pos (by omega)
      have c256 : cd s < 256 := (H.2.2.2 s (by omega)).2
      have ch : ∀ j, j < 256 → (nI (cd s) = nI j ↔ cd s = j) := fun j hj => nI_eq' (by omega) (by omega)
      have c59 : nI (cd s) = 59 ↔ cd s = 59 := ch 59 (by omega)
      have c60 : nI (cd s) = 60 ↔ cd s = 60 := ch 60 (by omega)
      have c62 : nI (cd s) = 62 ↔ cd s = 62 := ch 62 (by omega)
      have c61 : nI (cd s) = 61 ↔ cd s = 61 := ch 61 (by omega)
      have c10 : nI (cd s) = 10 ↔ cd s = 10 := ch 10 (by omega)
      have c32 : nI (cd s) = 32 ↔ cd s = 32 := ch 32 (by omega)
      have nq : ¬ (cd s = 32 ∨ cd s = 10) := fun z => s4 ⟨by omega, qB_t.mpr z⟩
      rw [if_neg (by rw [nI_leI' (by omega) (by omega)]; exact q), m_gI HN.1, h2, m_ck HN.1, q_look HN (by omega), bd_s, elk, if_neg (fun w => nq (Or.inr (c10.mp w))), m_gI HN.1, h2, m_ck HN.1, q_look HN (by omega), bd_s, elk, if_neg (fun w => nq (Or.inl (c32.mp w)))]) fu p (sI M 207 15 (nI p)) s1 (by unfold fu; omega) ⟨Nat.le_refl _, FTm.rf.sI (by omega) _, mI_sI_s _ _ _ _⟩
  have H0 := g0.tp H
  have D0 := H0.1
  have F1 : FTm M (sI N0 207 16 (nI s)) := g0.sI (by omega) _
  have H1 := F1.tp H
  have a15 : mI (sI N0 207 16 (nI s)) 207 15 = nI s := by rw [mI_f (by decide)]; exact g1
  have a16 : mI (sI N0 207 16 (nI s)) 207 16 = nI s := mI_sI_s _ _ _ _
  unfold f_X12_next
  rw [m_gI H.1, h16, m_pI H.1]
  show ∃ N, f_X12_next_8 fu (sI M 207 15 (nI p)) (some 207) = some N ∧ _
  rw [show f_X12_next_8 fu (sI M 207 15 (nI p)) (some 207) = f_X12_next_58 N0 (some 207) from f0]
  unfold f_X12_next_58
  rw [m_gI D0, g1, m_pI D0, m_gI H1.1, a15, m_gI H1.1, H1.2.2.1]
  by_cases qn : s < n
  · have elk : lk cd n s = cd s := if_pos qn
    have c256 : cd s < 256 := (H.2.2.2 s qn).2
    rw [if_pos (by rw [nI_ltI' (by omega) (by omega)]; exact qn), m_gI H1.1, a15, m_ck H1.1, q_look H1 (by omega), bd_s, elk, q_isLet _ c256, bd_s]
    by_cases qL' : qL cd s = true
    · have A1 : mdL (sI (sI N0 207 16 (nI s)) 207 14 1) := H1.1
      have F2 : FTm M (sL (sI (sI N0 207 16 (nI s)) 207 14 1) 207 19 0) := (F1.sI (by omega) _).sL 0
      obtain ⟨N, k1, k2, k3, k4, k5, k6, k7⟩ := q_word109 (F2.tp H) qn (by show mI (sI (sI N0 207 16 (nI s)) 207 14 1) 207 15 = _; rw [mI_f (by decide)]; exact a15) (by show mI (sI (sI N0 207 16 (nI s)) 207 14 1) 207 16 = _; rw [mI_f (by decide)]; exact a16) (mL_s _ _ _ _)
      have eE : tkE cd n s = rnE (qL cd) n fu s := by
        unfold tkE
        rw [if_neg (by omega), if_pos qL']
      have eK : tkK cd n s = 2 := by
        unfold tkK
        rw [if_neg (by omega), if_pos qL']
      refine ⟨N, ?_, F2.tr k2, s2, k3, by rw [eE]; exact k5, ?_, fun _ => by rw [eE]; exact ⟨k6, k7⟩, fun z => by rw [eK] at z; omega, fun z => by rw [eK] at z; omega⟩
      · rw [if_pos (qL_t.mp qL'), if_neg (by decide), m_pI H1.1, m_pL A1]
        exact k1
      · rw [k4, eK]
        show mI (sI (sI N0 207 16 (nI s)) 207 14 1) 207 14 = 1
        exact mI_sI_s _ _ _ _
    · rw [if_neg (fun z => qL' (qL_t.mpr z)), if_pos rfl, q_isDig _ c256, bd_s]
      by_cases qD' : qD cd s = true
      · have F2 : FTm M (sI (sI N0 207 16 (nI s)) 207 17 0) := F1.sI (by omega) _
        obtain ⟨N, k1, k2, k3, k4, k5, k6⟩ := q_num210 (F2.tp H) qn (by rw [mI_f (by decide)]; exact a15) (by rw [mI_f (by decide)]; exact a16) (mI_sI_s _ _ _ _)
        have eE : tkE cd n s = rnE (qD cd) n fu s := by
          unfold tkE
          rw [if_neg (by omega), if_neg qL', if_pos qD']
        have eK : tkK cd n s = if rnE (qD cd) n fu s - s ≤ 4 then 3 else 1 := by
          unfold tkK
          rw [if_neg (by omega), if_neg qL', if_pos qD', eE]
        refine ⟨N, ?_, F2.tr k2, s2, k3, by rw [eE]; exact k4, ?_, fun z => ?_, fun z => ?_, fun z => ?_⟩
        · rw [if_pos (qD_t.mp qD'), if_neg (by decide), m_pI H1.1]
          exact k1
        · rw [k5, eK]
          by_cases w : rnE (qD cd) n fu s - s ≤ 4
          · rw [if_pos w, if_pos w]; rfl
          · rw [if_neg w, if_neg w]; rfl
        · rw [eK] at z
          by_cases w : rnE (qD cd) n fu s - s ≤ 4
          · rw [if_pos w] at z; omega
          · rw [if_neg w] at z; omega
        · rw [eE]
          refine k6 (Decidable.byContradiction fun w => ?_)
          rw [eK, if_neg w] at z
          omega
        · rw [eK] at z
          by_cases w : rnE (qD cd) n fu s - s ≤ 4
          · rw [if_pos w] at z; omega
          · rw [if_neg w] at z; omega
      · have F2 : FTm M (sI (sI (sI N0 207 16 (nI s)) 207 16 (nI (s + 1))) 207 17 (nI (cd s))) := (F1.sI (by omega) _).sI (by omega) _
        have D2 := (F2.tp H).1
        have D3 : mdL (sI (sI N0 207 16 (nI s)) 207 16 (nI (s + 1))) := H1.1
        have eE : tkE cd n s = s + 1 := by
          unfold tkE
          rw [if_neg (by omega), if_neg qL', if_neg qD']
        have eK : tkK cd n s = if cd s = 59 ∨ cd s = 60 ∨ cd s = 62 ∨ cd s = 61 then 4 else 1 := by
          unfold tkK
          rw [if_neg (by omega), if_neg qL', if_neg qD']
        have fin : ∀ v, v = nI (mkK (tkK cd n s)) → FTm M (sI (sI (sI (sI N0 207 16 (nI s)) 207 16 (nI (s + 1))) 207 17 (nI (cd s))) 207 14 v) ∧ TkM (sI (sI (sI (sI N0 207 16 (nI s)) 207 16 (nI (s + 1))) 207 17 (nI (cd s))) 207 14 v) cd n s := fun v hv => by
          have n2 : ¬ tkK cd n s = 2 := fun z => by
            rw [eK] at z
            by_cases w : cd s = 59 ∨ cd s = 60 ∨ cd s = 62 ∨ cd s = 61
            · rw [if_pos w] at z; omega
            · rw [if_neg w] at z; omega
          have n3 : ¬ tkK cd n s = 3 := fun z => by
            rw [eK] at z
            by_cases w : cd s = 59 ∨ cd s = 60 ∨ cd s = 62 ∨ cd s = 61
            · rw [if_pos w] at z; omega
            · rw [if_neg w] at z; omega
          exact ⟨F2.sI (by omega) _, s2, by rw [mI_f (by decide), mI_f (by decide), mI_f (by decide)]; exact a15, by rw [mI_f (by decide), mI_f (by decide), mI_sI_s, eE], by rw [mI_sI_s]; exact hv, fun z => absurd z n2, fun z => absurd z n3, fun _ => by rw [mI_f (by decide), mI_sI_s]⟩
        rw [if_neg (fun z => qD' (qD_t.mpr z)), if_pos rfl, m_gI H1.1, a15, nI_1, m_pI H1.1, m_pI D3, m_ck D2, q_isSgB _ c256, bd_s]
        by_cases w : cd s = 59 ∨ cd s = 60 ∨ cd s = 62 ∨ cd s = 61
        · obtain ⟨z1, z2⟩ := fin 3 (by rw [eK, if_pos w]; rfl)
          refine ⟨_, ?_, z1, z2⟩
          rw [if_pos w, if_neg (by decide), f_X12_next_327, m_pI D2]
        · obtain ⟨z1, z2⟩ := fin 4 (by rw [eK, if_neg w]; rfl)
          refine ⟨_, ?_, z1, z2⟩
          rw [if_neg w, if_pos rfl, f_X12_next_327, m_pI D2]
  · have eE : tkE cd n s = s := by
      unfold tkE
      rw [if_pos (by omega)]
    have eK : tkK cd n s = 0 := by
      unfold tkK
      rw [if_pos (by omega)]
    refine ⟨sI (sI N0 207 16 (nI s)) 207 14 0, ?_, F1.sI (by omega) _, s2, by rw [mI_f (by decide)]; exact a15, by rw [mI_f (by decide), eE]; exact a16, by rw [mI_sI_s, eK]; rfl, fun z => by rw [eK] at z; omega, fun z => by rw [eK] at z; omega, fun z => by rw [eK] at z; omega⟩
    rw [if_neg (by rw [nI_ltI' (by omega) (by omega)]; exact qn), m_pI H1.1]
end Q
