/-! TEXTS: the class goes on to the next token -/
theorem lupG {σ β : Type} (L : Nat → σ → Nat → β) (Inv : Nat → σ → Prop) (n : Nat) (K : σ → β) (hs : ∀ f k x, k < n → Inv k x → ∃ y, L (f + 1) x k = L f y (k + 1) ∧ Inv (k + 1) y) (he : ∀ f x, Inv n x → L (f + 1) x n = K x) : ∀ f k x, k ≤ n → n - k < f → Inv k x → ∃ y, L f x k = K y ∧ Inv n y := by
  intro f
  induction f with
  | zero => intro k x _ h; omega
  | succ f ih =>
    intro k x hk h hi
    rcases Nat.lt_or_ge k n with q | q
    · obtain ⟨y, h1, h2⟩ := hs f k x q hi
      obtain ⟨z, h3, h4⟩ := ih (k + 1) y q (by omega) h2
      exact ⟨z, h1.trans h3, h4⟩
    · have e : k = n := by omega
      subst e
      exact ⟨x, he f x hi, hi⟩
def tpC (M : Mm) (cd : Nat → Nat) (n : Nat) : Prop := mK M 1 = (6, 14) ∧ mR M 1 0 = some 2 ∧ mR M 1 2 = some 3 ∧ mK M 2 = (20, 900) ∧ mK M 3 = (22, 30) ∧ n ≤ 900 ∧ mI M 1 3 = nI n ∧ (∀ k, k < n → mI M 2 k = bV (cd k) ∧ cd k < 256) ∧ ∀ w, w < 30 → mL M 3 w = wrd w
/-- only what a step writes changed -/
def FTs (M M' : Mm) : Prop := mK M' = mK M ∧ mR M' = mR M ∧ mT M' = mT M ∧ (∀ x, x ≠ 1 → mI M' x = mI M x ∧ mL M' x = mL M x) ∧ ∀ k, k = 1 ∨ k = 3 ∨ 11 ≤ k → mI M' 1 k = mI M 1 k
theorem FTs.rf {M : Mm} : FTs M M := ⟨rfl, rfl, rfl, fun _ _ => ⟨rfl, rfl⟩, fun _ _ => rfl⟩
theorem FTs.tr {M M' M'' : Mm} (h : FTs M M') (h2 : FTs M' M'') : FTs M M'' := ⟨h2.1.trans h.1, h2.2.1.trans h.2.1, h2.2.2.1.trans h.2.2.1, fun x hx => ⟨(h2.2.2.2.1 x hx).1.trans (h.2.2.2.1 x hx).1, (h2.2.2.2.1 x hx).2.trans (h.2.2.2.1 x hx).2⟩, fun k hk => (h2.2.2.2.2 k hk).trans (h.2.2.2.2 k hk)⟩
theorem FTs.sI {M M' : Mm} (h : FTs M M') {k : Nat} (hk : ¬ (k = 1 ∨ k = 3 ∨ 11 ≤ k)) (v : Int32) : FTs M (sI M' 1 k v) := ⟨h.1, h.2.1, h.2.2.1, fun x hx => ⟨by rw [mI_o hx]; exact (h.2.2.2.1 x hx).1, (h.2.2.2.1 x hx).2⟩, fun j hj => by rw [mI_f (fun e => hk (by rw [← e]; exact hj))]; exact h.2.2.2.2 j hj⟩
theorem FTs.sL {M M' : Mm} (h : FTs M M') (k : Nat) (v : Int64) : FTs M (sL M' 1 k v) := ⟨h.1, h.2.1, h.2.2.1, fun x hx => ⟨(h.2.2.2.1 x hx).1, by rw [mL_o hx]; exact (h.2.2.2.1 x hx).2⟩, h.2.2.2.2⟩
section C
variable {ρ : Type} {M M' : Mm} {cd : Nat → Nat} {n : Nat}
theorem FTs.tp (h : FTs M M') (H : tpC M cd n) : tpC M' cd n := by
  obtain ⟨h1, h2, h3, h4, h5, h6, h7, h8, h9⟩ := H
  refine ⟨by rw [h.1]; exact h1, by rw [h.2.1]; exact h2, by rw [h.2.1]; exact h3, by rw [h.1]; exact h4, by rw [h.1]; exact h5, h6, by rw [h.2.2.2.2 3 (by omega)]; exact h7, fun k hk => ?_, fun w hw => ?_⟩
  · rw [(h.2.2.2.1 2 (by decide)).1]
    exact h8 k hk
  · rw [(h.2.2.2.1 3 (by decide)).2]
    exact h9 w hw
theorem tp_gI (H : tpC M cd n) {k : Nat} {K : Int32 → Option ρ} : gfI M (some 1) 6 k K = K (mI M 1 k) := gfI_s (by rw [H.1])
theorem tp_gL (H : tpC M cd n) {k : Nat} {K : Int64 → Option ρ} : gfL M (some 1) 6 k K = K (mL M 1 k) := gfL_s (by rw [H.1])
theorem tp_pI (H : tpC M cd n) {k : Nat} {v : Int32} {K : Mm → Option ρ} : pfI M (some 1) 6 k v K = K (sI M 1 k v) := pfI_s (by rw [H.1])
theorem tp_pL (H : tpC M cd n) {k : Nat} {v : Int64} {K : Mm → Option ρ} : pfL M (some 1) 6 k v K = K (sL M 1 k v) := pfL_s (by rw [H.1])
theorem tp_ck (H : tpC M cd n) {x : Option ρ} : ck M (some 1) 6 x = x := ck_s (by rw [H.1])
theorem tp_r0 (H : tpC M cd n) {K : Option Nat → Option ρ} : gfR M (some 1) 6 0 K = K (some 2) := by rw [gfR_s (by rw [H.1]), H.2.1]
theorem tp_r2 (H : tpC M cd n) {K : Option Nat → Option ρ} : gfR M (some 1) 6 2 K = K (some 3) := by rw [gfR_s (by rw [H.1]), H.2.2.1]
theorem tp_b (H : tpC M cd n) {k : Nat} (hk : k < n) {K : Int32 → Option ρ} : alI M (some 2) 20 (nI k) K = K (bV (cd k)) := by
  have := H.2.2.2.2.2.1
  rw [alI_s H.2.2.2.1 (by omega) (by decide), (H.2.2.2.2.2.2.2.1 k hk).1]
theorem tp_w (H : tpC M cd n) {k : Nat} (hk : k < 30) {K : Int64 → Option ρ} : alL M (some 3) 22 (nI k) K = K (wrd k) := by
  rw [alL_s H.2.2.2.2.1 hk (by decide), H.2.2.2.2.2.2.2.2 k hk]
/-- which word of the language -/
def wix (x : Int64) : Nat → Int32
  | 0 => -1
  | k + 1 => if wrd k = x then nI k else wix x k
/-- what a step leaves but for the words -/
def lft (M N : Mm) (p : Nat) : Prop := FTs M N ∧ mI N 1 4 = nI p ∧ (∀ k, k = 5 ∨ k = 6 ∨ k = 7 ∨ k = 9 ∨ k = 10 → mI N 1 k = mI M 1 k) ∧ mL N 1 8 = mL M 1 8
theorem p_word126 (H : tpC M cd n) (x : Int64) (h7 : mI M 1 7 = -1) : ∃ N, f_X6_readWord_126 fu M (some 1) x 0 = some N ∧ FTs M N ∧ mI N 1 7 = wix x 30 ∧ (∀ k, k ≠ 7 → mI N 1 k = mI M 1 k) ∧ mL N 1 8 = mL M 1 8 := by
  refine lupE0 (fun f N k => f_X6_readWord_126 f N (some 1) x (nI k)) (fun k N => FTs M N ∧ mI N 1 7 = wix x k ∧ (∀ j, j ≠ 7 → mI N 1 j = mI M 1 j) ∧ mL N 1 8 = mL M 1 8) 30 (fun N => some N) (by omega) (fun f k N hk hI => ?_) (fun f N hI => ?_) M ⟨FTs.rf, h7, fun _ _ => rfl, rfl⟩
  · obtain ⟨h1, h2, h3, h4⟩ := hI
    have HN := h1.tp H
    by_cases q : wrd k = x
    · refine ⟨sI N 1 7 (nI k), ?_, h1.sI (by omega) _, by rw [mI_sI_s, wix, if_pos q], fun j hj => by rw [mI_f hj]; exact h3 j hj, h4⟩
      rw [f_X6_readWord_126, if_neg (by rw [show (30 : Int32) = nI 30 from rfl, nI_leI' (by omega) (by omega)]; omega), tp_r2 HN, tp_w HN hk, if_pos ((lg_cmp_eq _ _).mpr q), tp_pI HN, f_X6_readWord_148, nI_1]
    · refine ⟨N, ?_, h1, by rw [wix, if_neg q]; exact h2, h3, h4⟩
      rw [f_X6_readWord_126, if_neg (by rw [show (30 : Int32) = nI 30 from rfl, nI_leI' (by omega) (by omega)]; omega), tp_r2 HN, tp_w HN hk, if_neg (fun z => q ((lg_cmp_eq _ _).mp z)), f_X6_readWord_148, nI_1]
  · show f_X6_readWord_126 (f + 1) N (some 1) x (nI 30) = _
    rw [f_X6_readWord_126, if_pos (by decide)]
theorem qL_t {k : Nat} : qL cd k = true ↔ 97 ≤ cd k ∧ cd k ≤ 122 := by
  unfold qL
  rw [decide_eq_true_eq]
theorem qD_t {k : Nat} : qD cd k = true ↔ 48 ≤ cd k ∧ cd k ≤ 57 := by
  unfold qD
  rw [decide_eq_true_eq]
theorem qB_t {k : Nat} : qB cd k = true ↔ cd k = 32 ∨ cd k = 10 := by
  unfold qB
  rw [decide_eq_true_eq]
theorem p_word (H : tpC M cd n) {s : Nat} (hs : s ≤ n) (h4 : mI M 1 4 = nI s) (h6 : mI M 1 6 = nI s) (h5 : mI M 1 5 = 0) (h7 : mI M 1 7 = -1) (h8 : mL M 1 8 = -1) : ∃ N, f_X6_readWord M (some 1) = some N ∧ FTs M N ∧ mI N 1 4 = nI (rnE (qL cd) n fu s) ∧ mI N 1 6 = nI s ∧ (∀ k, k = 9 ∨ k = 10 → mI N 1 k = mI M 1 k) ∧ (¬ (s < n ∧ qL cd s = true) → N = M) ∧ ((s < n ∧ qL cd s = true) → mI N 1 5 = 2 ∧ mL N 1 8 = (if rnE (qL cd) n fu s - s ≤ 8 then lN (n27 (lw cd s (rnE (qL cd) n fu s - s))) else -1) ∧ mI N 1 7 = (if rnE (qL cd) n fu s - s ≤ 8 then wix (lN (n27 (lw cd s (rnE (qL cd) n fu s - s)))) 30 else -1)) := by
  have n9 := H.2.2.2.2.2.1
  obtain ⟨e, he⟩ : ∃ e, rnE (qL cd) n fu s = e := ⟨_, rfl⟩
  have e1 := rnE_ge (q := qL cd) (n := n) fu s
  have e2 := rnE_le (q := qL cd) (n := n) fu s hs
  have e3 := rnE_in (q := qL cd) (n := n) fu s
  have e4 := rnE_end (q := qL cd) (n := n) fu s hs (by unfold fu; omega)
  rw [he] at e1 e2 e3 e4
  rw [he]
  obtain ⟨⟨N, l⟩, f1, ⟨g1, g2, g3, g4⟩, g5⟩ : ∃ y : Mm × Int64, f_X6_readWord_2 fu M (some 1) 0 = f_X6_readWord_77 y.1 (some 1) y.2 ∧ (lft M y.1 e ∧ (e - s ≤ 8 → y.2 = lN (n27 (lw cd s (e - s))))) := by
    refine lupG (fun f (y : Mm × Int64) (k : Nat) => f_X6_readWord_2 f y.1 (some 1) y.2) (fun k y => lft M y.1 k ∧ (k - s ≤ 8 → y.2 = lN (n27 (lw cd s (k - s)))) ∧ s ≤ k) e (fun y => f_X6_readWord_77 y.1 (some 1) y.2) (fun f k y hk hI => ?_) (fun f y hI => ?_) fu s (M, 0) e1 (by unfold fu; omega) ⟨⟨FTs.rf, h4, fun _ _ => rfl, rfl⟩, fun _ => by rw [Nat.sub_self]; rfl, Nat.le_refl _⟩ |>.imp fun y h => ⟨h.1, h.2.1, h.2.2.1⟩
    · obtain ⟨⟨h1, h2, h3, h3'⟩, hl, hsk⟩ := hI
      have HN := h1.tp H
      have hq := qL_t.mp (e3 k hsk hk)
      have c256 := (H.2.2.2.2.2.2.2.1 k (by omega)).2
      obtain ⟨b1, b2, b3⟩ := bV_le1 (cd k) c256 hq
      refine ⟨(sI y.1 1 4 (nI (k + 1)), (((y.2 * 27) + Int32.toInt64 (bV (cd k))) - 97) + 1), ?_, ⟨h1.sI (by omega) _, mI_sI_s _ _ _ _, fun j hj => by rw [mI_f (by omega)]; exact h3 j hj, h3'⟩, fun h8 => ?_, by omega⟩
      · dsimp only
        rw [f_X6_readWord_2, tp_gI HN, h2, tp_gI HN, HN.2.2.2.2.2.2.1, if_neg (by rw [nI_leI' (by omega) (by omega)]; omega), tp_r0 HN, tp_gI HN, h2, tp_b HN (by omega), if_neg b1, tp_r0 HN, tp_gI HN, h2, tp_b HN (by omega), if_neg b2, tp_r0 HN, tp_gI HN, h2, tp_b HN (by omega), nmL_s, tp_gI HN, h2, nI_1, tp_pI HN]
      · dsimp only
        rw [hl (by omega), b3, lI (by omega), show (27 : Int64) = lN 27 from rfl, show (97 : Int64) = lN 97 from rfl, lN_mul, lN_add, lN_sub (by omega), lN_1, show k + 1 - s = (k - s) + 1 by omega, lw, n27_a, show s + (k - s) = k by omega]
        exact congrArg lN (by omega)
    · obtain ⟨⟨h1, h2, h3, h3'⟩, hl, hsk⟩ := hI
      have HN := h1.tp H
      rw [f_X6_readWord_2, tp_gI HN, h2, tp_gI HN, HN.2.2.2.2.2.2.1]
      by_cases q : n ≤ e
      · rw [if_pos (by rw [nI_leI' (by omega) (by omega)]; exact q)]
      · have c256 := (H.2.2.2.2.2.2.2.1 e (by omega)).2
        have nq : ¬ (97 ≤ cd e ∧ cd e ≤ 122) := fun z => e4 ⟨by omega, qL_t.mpr z⟩
        rw [if_neg (by rw [nI_leI' (by omega) (by omega)]; exact q), tp_r0 HN, tp_gI HN, h2, tp_b HN (by omega)]
        by_cases z : bV (cd e) < 97
        · rw [if_pos z]
        · rw [if_neg z, tp_r0 HN, tp_gI HN, h2, tp_b HN (by omega)]
          rcases bV_le0 (cd e) c256 nq with w | w
          · exact absurd w z
          · rw [if_pos w]
  dsimp only at f1 g1 g2 g3 g4 g5
  have HN := g1.tp H
  have n6 : mI N 1 6 = nI s := by rw [g3 6 (by omega)]; exact h6
  unfold f_X6_readWord
  rw [f1]
  unfold f_X6_readWord_77
  rw [tp_gI HN, g2, tp_gI HN, n6]
  by_cases q : s < n ∧ qL cd s = true
  · have es : s < e := by
      have := rnE_s (q := qL cd) q 65535
      rw [← he]
      exact this
    have H1 : tpC (sI N 1 5 2) cd n := (FTs.rf.sI (M := N) (k := 5) (by omega) 2).tp HN
    rw [if_neg (by rw [nI_leI' (by omega) (by omega)]; omega), tp_pI HN]
    unfold f_X6_readWord_93
    rw [tp_gI H1, tp_gI H1, mI_f (by decide), mI_f (by decide), g2, n6, if_neg (by rw [nI_eq' (by omega) (by omega)]; omega), tp_gI H1, tp_gI H1, mI_f (by decide), mI_f (by decide), g2, n6, nI_sub (by omega)]
    by_cases q8 : e - s ≤ 8
    · have H2 : tpC (sL (sI N 1 5 2) 1 8 l) cd n := (FTs.rf.sL (M := sI N 1 5 2) 8 l).tp H1
      obtain ⟨N2, k1, k2, k3, k4, k5⟩ := p_word126 H2 l (by
        show mI (sI N 1 5 2) 1 7 = -1
        rw [mI_f (by decide), g3 7 (by omega)]
        exact h7)
      have c5 : ∀ k, k ≠ 5 → mI (sL (sI N 1 5 2) 1 8 l) 1 k = mI N 1 k := fun k hk => by
        show mI (sI N 1 5 2) 1 k = _
        rw [mI_f hk]
      refine ⟨N2, ?_, ((g1.sI (by omega) _).sL _ _).tr k2, ?_, ?_, fun k hk => ?_, fun z => absurd q z, fun _ => ⟨?_, ?_, ?_⟩⟩
      · rw [if_pos (by rw [show (8 : Int32) = nI 8 from rfl, nI_leI' (by omega) (by omega)]; exact q8), tp_pL H1]
        exact k1
      · rw [k4 4 (by decide), c5 4 (by decide)]; exact g2
      · rw [k4 6 (by decide), c5 6 (by decide)]; exact n6
      · rw [k4 k (by omega), c5 k (by omega)]; exact g3 k (by omega)
      · rw [k4 5 (by decide)]
        show mI (sI N 1 5 2) 1 5 = 2
        exact mI_sI_s _ _ _ _
      · rw [k5, mL_s, if_pos q8]
        exact g5 q8
      · rw [k3, if_pos q8, g5 q8]
    · refine ⟨sI N 1 5 2, ?_, g1.sI (by omega) _, by rw [mI_f (by decide)]; exact g2, by rw [mI_f (by decide)]; exact n6, fun k hk => by rw [mI_f (by omega)]; exact g3 k (by omega), fun z => absurd q z, fun _ => ⟨mI_sI_s _ _ _ _, ?_, ?_⟩⟩
      · rw [if_neg (by rw [show (8 : Int32) = nI 8 from rfl, nI_leI' (by omega) (by omega)]; exact q8)]
      · rw [if_neg q8]
        exact g4.trans h8
      · rw [if_neg q8, mI_f (by decide), g3 7 (by omega)]
        exact h7
  · have e0 : e = s := by rw [← he]; exact rnE_0 q fu
    have eM : f_X6_readWord_2 fu M (some 1) 0 = f_X6_readWord_77 M (some 1) 0 := by
      show f_X6_readWord_2 (65535 + 1) M (some 1) 0 = _
      rw [f_X6_readWord_2, tp_gI H, h4, tp_gI H, H.2.2.2.2.2.2.1]
      by_cases z : n ≤ s
      · rw [if_pos (by rw [nI_leI' (by omega) (by omega)]; exact z)]
      · have c256 := (H.2.2.2.2.2.2.2.1 s (by omega)).2
        rw [if_neg (by rw [nI_leI' (by omega) (by omega)]; exact z), tp_r0 H, tp_gI H, h4, tp_b H (by omega)]
        by_cases z2 : bV (cd s) < 97
        · rw [if_pos z2]
        · rw [if_neg z2, tp_r0 H, tp_gI H, h4, tp_b H (by omega)]
          rcases bV_le0 (cd s) c256 (fun w => q ⟨by omega, qL_t.mpr w⟩) with w | w
          · exact absurd w z2
          · rw [if_pos w]
    refine ⟨M, ?_, FTs.rf, by rw [e0]; exact h4, h6, fun _ _ => rfl, fun _ => rfl, fun z => absurd z q⟩
    have e77 : f_X6_readWord_77 N (some 1) l = some M := by
      rw [← f1, eM]
      unfold f_X6_readWord_77 f_X6_readWord_93
      rw [tp_gI H, h4, tp_gI H, h6, if_pos (Int32.le_refl _), tp_gI H, h4, tp_gI H, h6, if_pos rfl]
    rw [← e77]
    unfold f_X6_readWord_77
    rw [tp_gI HN, g2, tp_gI HN, n6]
end C
