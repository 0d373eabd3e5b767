/-! YEARS ARE LIVED: the class -/
def CfP (L a z : Nat) : Prop := (a ≤ z ∧ z < a + 31) ∨ z = L ∨ z = L + 1
def lfL (M : Mm) (L : Nat) : Prop := mK M L = (2, 8) ∧ mR M L 7 = some (L + 1) ∧ mK M (L + 1) = (21, 60)
/-- the class's state -/
def CfS (M0 : Mm) (L a : Nat) (x : LvT) (d lo : Nat) (N : Mm) : Prop := FS (CfP L a) M0 N ∧ shO N a x.1 ∧ mI N L 0 = nI d ∧ mI N L 1 = x.2.2.1 ∧ mI N L 2 = x.2.2.2.1 ∧ mI N L 3 = x.2.2.2.2.1 ∧ mI N L 4 = x.2.2.2.2.2 ∧ mI N L 5 = nI lo ∧ mI N L 6 = nI x.2.1
theorem FS_lf {P : Nat → Prop} {M M' : Mm} {L : Nat} (h : FS P M M') (D : lfL M L) : lfL M' L := by
  unfold lfL at *
  rw [h.1, h.2.2.1]
  exact D
theorem FS_yr {P : Nat → Prop} {M M' : Mm} {y : Nat} (h : FS P M M') (D : yrL M y) : yrL M' y := by
  unfold yrL at *
  rw [h.1, h.2.2.1]
  exact D
section C
variable {ρ : Type} {M0 N : Mm} {L a y : Nat} {c : Nat → Int32} {x : LvT} {s d lo : Nat}
theorem CfS.to (C : CfS M0 L a x d lo N) {z : LvT} (h : z = x) : CfS M0 L a z d lo N := by
  rw [h]
  exact C
theorem CfS.sh (C : CfS M0 L a x d lo N) (ha : a + 31 ≤ L) {f : Nat → Int32} {N' : Mm} (F : FrI N N' a 31) (S : shO N' a f) : CfS M0 L a (lvF x f) d lo N' := by
  obtain ⟨h1, h2, h3, h4, h5, h6, h7, h8, h9⟩ := C
  have e : mI N' L = mI N L := F.2.2.2.2 L (by omega)
  refine ⟨h1.tr ⟨F.1, F.2.1, F.2.2.1, F.2.2.2.1, fun z hz => F.2.2.2.2 z (by unfold CfP at hz; omega)⟩, S, ?_, ?_, ?_, ?_, ?_, ?_, ?_⟩ <;> rw [e]
  · exact h3
  · exact h4
  · exact h5
  · exact h6
  · exact h7
  · exact h8
  · exact h9
theorem CfS.rd (C : CfS M0 L a x d lo N) (ha : a + 31 ≤ L) (k : Nat) (v : Int32) : CfS M0 L a x d lo (sI N (L + 1) k v) := by
  obtain ⟨h1, h2, h3, h4, h5, h6, h7, h8, h9⟩ := C
  refine ⟨h1.sI (Or.inr (Or.inr rfl)) _ _, shO_same h2 rfl rfl (fun z z1 z2 => by rw [mI_o (by omega)]), ?_, ?_, ?_, ?_, ?_, ?_, ?_⟩ <;> rw [mI_o (by omega)]
  · exact h3
  · exact h4
  · exact h5
  · exact h6
  · exact h7
  · exact h8
  · exact h9
theorem CfS.w0 (C : CfS M0 L a x d lo N) (ha : a + 31 ≤ L) (v : Nat) : CfS M0 L a x v lo (sI N L 0 (nI v)) := by
  obtain ⟨h1, h2, h3, h4, h5, h6, h7, h8, h9⟩ := C
  refine ⟨h1.sI (Or.inr (Or.inl rfl)) _ _, shO_same h2 rfl rfl (fun z z1 z2 => by rw [mI_o (by omega)]), mI_sI_s _ _ _ _, ?_, ?_, ?_, ?_, ?_, ?_⟩ <;> rw [mI_f (by decide)]
  · exact h4
  · exact h5
  · exact h6
  · exact h7
  · exact h8
  · exact h9
theorem CfS.w1 (C : CfS M0 L a x d lo N) (ha : a + 31 ≤ L) (v : Int32) : CfS M0 L a (x.1, x.2.1, v, x.2.2.2) d lo (sI N L 1 v) := by
  obtain ⟨h1, h2, h3, h4, h5, h6, h7, h8, h9⟩ := C
  refine ⟨h1.sI (Or.inr (Or.inl rfl)) _ _, shO_same h2 rfl rfl (fun z z1 z2 => by rw [mI_o (by omega)]), ?_, mI_sI_s _ _ _ _, ?_, ?_, ?_, ?_, ?_⟩ <;> rw [mI_f (by decide)]
  · exact h3
  · exact h5
  · exact h6
  · exact h7
  · exact h8
  · exact h9
theorem CfS.w2 (C : CfS M0 L a x d lo N) (ha : a + 31 ≤ L) (v : Int32) : CfS M0 L a (x.1, x.2.1, x.2.2.1, v, x.2.2.2.2) d lo (sI N L 2 v) := by
  obtain ⟨h1, h2, h3, h4, h5, h6, h7, h8, h9⟩ := C
  refine ⟨h1.sI (Or.inr (Or.inl rfl)) _ _, shO_same h2 rfl rfl (fun z z1 z2 => by rw [mI_o (by omega)]), ?_, ?_, mI_sI_s _ _ _ _, ?_, ?_, ?_, ?_⟩ <;> rw [mI_f (by decide)]
  · exact h3
  · exact h4
  · exact h6
  · exact h7
  · exact h8
  · exact h9
theorem CfS.w3 (C : CfS M0 L a x d lo N) (ha : a + 31 ≤ L) (v : Int32) : CfS M0 L a (x.1, x.2.1, x.2.2.1, x.2.2.2.1, v, x.2.2.2.2.2) d lo (sI N L 3 v) := by
  obtain ⟨h1, h2, h3, h4, h5, h6, h7, h8, h9⟩ := C
  refine ⟨h1.sI (Or.inr (Or.inl rfl)) _ _, shO_same h2 rfl rfl (fun z z1 z2 => by rw [mI_o (by omega)]), ?_, ?_, ?_, mI_sI_s _ _ _ _, ?_, ?_, ?_⟩ <;> rw [mI_f (by decide)]
  · exact h3
  · exact h4
  · exact h5
  · exact h7
  · exact h8
  · exact h9
theorem CfS.w4 (C : CfS M0 L a x d lo N) (ha : a + 31 ≤ L) (v : Int32) : CfS M0 L a (x.1, x.2.1, x.2.2.1, x.2.2.2.1, x.2.2.2.2.1, v) d lo (sI N L 4 v) := by
  obtain ⟨h1, h2, h3, h4, h5, h6, h7, h8, h9⟩ := C
  refine ⟨h1.sI (Or.inr (Or.inl rfl)) _ _, shO_same h2 rfl rfl (fun z z1 z2 => by rw [mI_o (by omega)]), ?_, ?_, ?_, ?_, mI_sI_s _ _ _ _, ?_, ?_⟩ <;> rw [mI_f (by decide)]
  · exact h3
  · exact h4
  · exact h5
  · exact h6
  · exact h8
  · exact h9
theorem CfS.w5 (C : CfS M0 L a x d lo N) (ha : a + 31 ≤ L) (v : Nat) : CfS M0 L a x d v (sI N L 5 (nI v)) := by
  obtain ⟨h1, h2, h3, h4, h5, h6, h7, h8, h9⟩ := C
  refine ⟨h1.sI (Or.inr (Or.inl rfl)) _ _, shO_same h2 rfl rfl (fun z z1 z2 => by rw [mI_o (by omega)]), ?_, ?_, ?_, ?_, ?_, mI_sI_s _ _ _ _, ?_⟩ <;> rw [mI_f (by decide)]
  · exact h3
  · exact h4
  · exact h5
  · exact h6
  · exact h7
  · exact h9
theorem CfS.w6 (C : CfS M0 L a x d lo N) (ha : a + 31 ≤ L) (v : Nat) : CfS M0 L a (x.1, v, x.2.2) d lo (sI N L 6 (nI v)) := by
  obtain ⟨h1, h2, h3, h4, h5, h6, h7, h8, h9⟩ := C
  refine ⟨h1.sI (Or.inr (Or.inl rfl)) _ _, shO_same h2 rfl rfl (fun z z1 z2 => by rw [mI_o (by omega)]), ?_, ?_, ?_, ?_, ?_, ?_, mI_sI_s _ _ _ _⟩ <;> rw [mI_f (by decide)]
  · exact h3
  · exact h4
  · exact h5
  · exact h6
  · exact h7
  · exact h8
theorem lf_gI (H : lfL N L) {k : Nat} {K : Int32 → Option ρ} : gfI N (some L) 2 k K = K (mI N L k) := gfI_s (by rw [H.1])
theorem lf_pI (H : lfL N L) {k : Nat} {v : Int32} {K : Mm → Option ρ} : pfI N (some L) 2 k v K = K (sI N L k v) := pfI_s (by rw [H.1])
theorem lf_ck (H : lfL N L) {z : Option ρ} : ck N (some L) 2 z = z := ck_s (by rw [H.1])
theorem lf_r7 (H : lfL N L) {K : Option Nat → Option ρ} : gfR N (some L) 2 7 K = K (some (L + 1)) := by rw [gfR_s (by rw [H.1]), H.2.1]
theorem lf_al (H : lfL N L) {k : Nat} (hk : k < 60) {K : Int32 → Option ρ} : alI N (some (L + 1)) 21 (nI k) K = K (mI N (L + 1) k) := alI_s H.2.2 hk (by decide)
theorem lf_as (H : lfL N L) {k : Nat} (hk : k < 60) {v : Int32} {K : Mm → Option ρ} : asI N (some (L + 1)) 21 (nI k) v K = K (sI N (L + 1) k v) := asI_s H.2.2 hk (by decide)
theorem yr_r (Y : yrL N y) {j : Nat} (hj : j < 5) {K : Option Nat → Option ρ} : gfR N (some y) 9 (3 + j) K = K (some (y + 1 + j)) := by rw [gfR_s (by rw [Y.1]), (Y.2 j hj).1]
theorem yr_3 (Y : yrL N y) {K : Option Nat → Option ρ} : gfR N (some y) 9 3 K = K (some (y + 1)) := yr_r Y (j := 0) (by omega)
theorem yr_4 (Y : yrL N y) {K : Option Nat → Option ρ} : gfR N (some y) 9 4 K = K (some (y + 2)) := yr_r Y (j := 1) (by omega)
theorem yr_5 (Y : yrL N y) {K : Option Nat → Option ρ} : gfR N (some y) 9 5 K = K (some (y + 3)) := yr_r Y (j := 2) (by omega)
theorem yr_6 (Y : yrL N y) {K : Option Nat → Option ρ} : gfR N (some y) 9 6 K = K (some (y + 4)) := yr_r Y (j := 3) (by omega)
theorem yr_7 (Y : yrL N y) {K : Option Nat → Option ρ} : gfR N (some y) 9 7 K = K (some (y + 5)) := yr_r Y (j := 4) (by omega)
theorem yr_a1 (Y : yrL N y) {k : Nat} (hk : k < 60) {K : Int32 → Option ρ} : alI N (some (y + 1)) 21 (nI k) K = K (mI N (y + 1) k) := alI_s (Y.2 0 (by omega)).2 hk (by decide)
theorem yr_a2 (Y : yrL N y) {k : Nat} (hk : k < 60) {K : Int32 → Option ρ} : alI N (some (y + 2)) 21 (nI k) K = K (mI N (y + 2) k) := alI_s (Y.2 1 (by omega)).2 hk (by decide)
theorem yr_a3 (Y : yrL N y) {k : Nat} (hk : k < 60) {K : Int32 → Option ρ} : alI N (some (y + 3)) 21 (nI k) K = K (mI N (y + 3) k) := alI_s (Y.2 2 (by omega)).2 hk (by decide)
theorem yr_a4 (Y : yrL N y) {k : Nat} (hk : k < 60) {K : Int32 → Option ρ} : alI N (some (y + 4)) 21 (nI k) K = K (mI N (y + 4) k) := alI_s (Y.2 3 (by omega)).2 hk (by decide)
theorem yr_a5 (Y : yrL N y) {k : Nat} (hk : k < 60) {K : Int32 → Option ρ} : alI N (some (y + 5)) 21 (nI k) K = K (mI N (y + 5) k) := alI_s (Y.2 4 (by omega)).2 hk (by decide)
theorem yr_gI (Y : yrL N y) {k : Nat} {K : Int32 → Option ρ} : gfI N (some y) 9 k K = K (mI N y k) := gfI_s (by rw [Y.1])
end C
section C
variable {M0 N : Mm} {L a y : Nat} {c : Nat → Int32} {x : LvT} {s d lo : Nat}
theorem p_drops {M : Mm} (S : shO M a c) {g : Nat} (hg : g < gN c) : ∃ M', f_X0_putDown M (some (a + 21 + g)) = some M' ∧ shO M' a (drops c g) ∧ FrI M M' a 31 := by
  have O := S.2.2
  have g4 := (ok_g O).2
  obtain ⟨M1, e1, W1, F1⟩ := pw_putDown (shW_of S) (g := g) (by omega)
  have hs : sS c (drops c g) := sS_drops (by omega)
  refine ⟨M1, e1, ?_, F1⟩
  refine shO_of W1 (ecl_ext O hg hs (fun k hk => ?_) ?_ (fun g' hg' hne => ⟨?_, ?_, ?_⟩)) (okC_drops O hg)
  · by_cases z1 : k = 149 + g
    · rw [z1, drops_9, drops_9]
    · by_cases z2 : k = 153 + g
      · rw [z2, drops_3, drops_3]
      · rw [drops_o z1 z2 (by omega), drops_o z1 z2 (by omega), ecl_o hk]
  · rw [drops_7, pcs_none (drops_9 _ g)]
  · rw [drops_o (by omega) (by omega) (by omega), ecl_p (by omega)]
  · exact drops_o (by omega) (by omega) (by omega)
  · exact drops_o (by omega) (by omega) (by omega)
theorem p_draw (H : lfL N L) (C : CfS M0 L a x d lo N) (hr : x.2.1 < 65536) {n : Nat} (h1 : 1 ≤ n) (h2 : n ≤ 1000) : f_X2_draw N (some L) (nI n) = some (nI (lvR x.2.1 / 8 % n), sI N L 6 (nI (lvR x.2.1))) := by
  have hl := lvR_lt x.2.1
  have H2 : lfL (sI N L 6 (nI (lvR x.2.1))) L := H
  have e1 : ((nI x.2.1 * 2909) + 10597) - ((nI x.2.1 * 2909) + 10597) / 65536 * 65536 = nI (lvR x.2.1) := by
    rw [show (2909 : Int32) = nI 2909 from rfl, show (10597 : Int32) = nI 10597 from rfl, show (65536 : Int32) = nI 65536 from rfl, nI_mul, nI_add, pk_div (by omega) (by omega) (by omega), nI_mul, nI_sub (Nat.div_mul_le_self _ _), mod_eq]
    rfl
  unfold f_X2_draw
  rw [lf_gI H, C.2.2.2.2.2.2.2.2, dvI_s (by decide), lf_pI H, e1, lf_gI H2, mI_sI_s, dvI_s (by decide), mx1 h1 (by omega), dvI_s (nI_pos0 (by omega) (by omega)), show (8 : Int32) = nI 8 from rfl, pk_div (by omega) (by omega) (by omega), pk_div (by omega) (by omega) (by omega), nI_mul, nI_sub (Nat.div_mul_le_self _ _), mod_eq]
theorem p_pick (S : shO N a c) : ∀ n k v i, n < i → 1 ≤ n → k + n = wN c → smN (fun j => na c (167 + j)) k + v < allChN c → f_X2_doGale_29 i N (some L) (some a) (nI v) (nI k) = f_X2_doGale_70 N (some L) (some a) (nI (pkW (fun j => na c (167 + j)) n k v)) := by
  have O := S.2.2
  have w6 := (ok_w O).2
  have w2 := (ok_w O).1
  intro n
  induction n with
  | zero => intro k v i hi h1; omega
  | succ n ih =>
    intro k v i hi h1 hk hv
    cases i with
    | zero => omega
    | succ i =>
      have hb := (allCh_nI O).2.1
      obtain ⟨c1, c2, c3⟩ := (O.2.2.2.2.2.2.2.2.1 k (by omega)).2
      have e : smN (fun j => na c (167 + j)) (k + 1) = smN (fun j => na c (167 + j)) k + na c (167 + k) := rfl
      have eA : allChN c = smN (fun j => na c (167 + j)) (wN c) := rfl
      rw [f_X2_doGale_29, e_wc S, w2, show (1 : Int32) = nI 1 from rfl, nI_sub (by omega), pkW]
      by_cases q0 : n = 0
      · have hkw : wN c = k + 1 := by omega
        rw [if_pos (by rw [nI_leI' (by omega) (by omega)]; omega), if_pos (by rw [eA, hkw] at hv; omega)]
      · rw [if_neg (by rw [nI_leI' (by omega) (by omega)]; omega), e_ws S, e_w S (by omega), e_wch S (by omega), c1]
        by_cases q : v < na c (167 + k)
        · rw [if_pos (by rw [nI_ltI' (by omega) (by omega)]; exact q), if_pos q]
        · rw [if_neg (by rw [nI_ltI' (by omega) (by omega)]; exact q), if_neg q, e_ws S, e_w S (by omega), e_wch S (by omega), c1, nI_sub (by omega), nmI_s, nI_add]
          exact ih (k + 1) _ i (by omega) (by omega) (by omega) (by omega)
theorem p_gale (H : lfL N L) (ha : a + 31 ≤ L) (C : CfS M0 L a x d lo N) (W : LvO c x) : ∃ N', f_X2_doGale N (some L) (some a) = some N' ∧ CfS M0 L a (if wN x.1 = 0 then lvM x else lvG x) d lo N' ∧ mI N' (L + 1) = mI N (L + 1) := by
  have S := C.2.1
  have O := S.2.2
  have hw := w_pos O
  unfold f_X2_doGale
  rw [e_wc S]
  by_cases q : wN x.1 = 0
  · have q2 : x.1 2 = 0 := Decidable.byContradiction fun z => by
      have := hw.mp z
      omega
    refine ⟨_, ?_, (C.w1 ha (x.2.2.1 + 1)).to (by rw [if_pos q]; rfl), by rw [mI_o (by omega)]⟩
    rw [if_pos q2, lf_gI H, C.2.2.2.1, lf_pI H]
  · have q2 : ¬ x.1 2 = 0 := hw.mpr (by omega)
    obtain ⟨c1, c2, c3⟩ := allCh_nI O
    have c4 := c3 (by omega)
    have C1 := C.w6 ha (lvR x.2.1)
    have S1 := C1.2.1
    have H1 : lfL (sI N L 6 (nI (lvR x.2.1))) L := H
    have hwl := lvW_lt (x := x) O (by omega)
    have w6 := (ok_w O).2
    have hp := p_pick (N := sI N L 6 (nI (lvR x.2.1))) (a := a) (L := L) (c := x.1) S1 (wN x.1) 0 (lvR x.2.1 / 8 % allChN x.1) fu (by unfold fu; omega) (by omega) (by omega) (by
      have := Nat.mod_lt (lvR x.2.1 / 8) c4
      show 0 + lvR x.2.1 / 8 % allChN x.1 < allChN x.1
      omega)
    obtain ⟨N2, e2, S2, F2⟩ := p_blow (M := sI N L 6 (nI (lvR x.2.1))) (a := a) (c := x.1) S1 (x.1 (161 + lvW x.1 x.2.1))
    have C2 := C1.sh ha F2 S2
    have H2 : lfL N2 L := by
      unfold lfL
      rw [F2.1, F2.2.2.1]
      exact H
    have C3 := C2.w4 ha (x.2.2.2.2.2 + pop (st (falls x.1 (x.1 (161 + lvW x.1 x.2.1))) (hN x.1)))
    refine ⟨_, ?_, C3.to (by rw [if_neg q]; rfl), ?_⟩
    · rw [if_neg q2, lc_s S.1, p_allCh S, bd_s, lf_ck H, c1, p_draw H C W.2.2.2 c4 (by omega), bd_s]
      show f_X2_doGale_29 fu (sI N L 6 (nI (lvR x.2.1))) (some L) (some a) (nI (lvR x.2.1 / 8 % allChN x.1)) (nI 0) = _
      rw [hp]
      show f_X2_doGale_70 (sI N L 6 (nI (lvR x.2.1))) (some L) (some a) (nI (lvW x.1 x.2.1)) = _
      unfold f_X2_doGale_70
      rw [lf_gI H1, C1.2.2.2.2.2.2.1, e_ws S1, e_w S1 (by omega), e_wst S1 hwl, lc_s S1.1, e2, bd_s, lf_pI H2]
    · rw [mI_o (by omega), F2.2.2.2.2 (L + 1) (by omega), mI_o (by omega)]
theorem FrI.lf {N N' : Mm} {n : Nat} (F : FrI N N' a n) (H : lfL N L) : lfL N' L := by
  unfold lfL at *
  rw [F.1, F.2.2.1]
  exact H
theorem p_step (H : lfL N L) (Y : yrL N y) (ha : a + 31 ≤ L) (C : CfS M0 L a x d lo N) (W : LvO c x) {r : Nat} (hr : r < 60) (hst : stp N y c s r) (hk : ¬ (c (175 + 9 * s) = 5 ∨ c (175 + 9 * s) = 6 ∨ c (175 + 9 * s) = 7)) : ∃ N', f_X2_doStep N (some L) (some a) (some y) (nI r) = some (nI (r + 1), N') ∧ CfS M0 L a (lvS x s) d lo N' ∧ mI N' (L + 1) = mI N (L + 1) := by
  have S := C.2.1
  have O := S.2.2
  have h8 := (ok_h O).2
  have g4 := (ok_g O).2
  have hS := okS_of hst
  obtain ⟨k, k8, hkc, hkw, s0, s3, s4, -⟩ := hst
  have ck : ∀ j, j < 8 → c (175 + 9 * s) = nI j → k = j := fun j hj e => (nI8 k8 hj).mp (hkc.symm.trans e)
  have a6 := W.cc (k := 176 + 9 * s) (by omega)
  have a7 := W.cc (k := 177 + 9 * s) (by omega)
  unfold f_X2_doStep
  rw [yr_4 Y, yr_a2 Y hr, yr_3 Y, yr_a1 Y hr, hkw]
  rcases lvS_k W hS with ⟨k0, n, n1, n2, en, e⟩ | ⟨k0, e⟩ | ⟨k0, e⟩ | ⟨k0, g, h, hg, hh, eh, eg, e⟩ | ⟨k0, g, hg, eg, e⟩ | z | z | z
  · have kk := ck 0 (by omega) k0
    subst kk
    have e41 := O.2.2.2.2.1.1
    have e49 := O.2.2.2.2.1.2.2
    rw [if_pos (show kW 0 = 18 from rfl), e_min S, e41, (s0 rfl).1, ← a6, en, nI_add]
    by_cases q : na x.1 4 + n ≤ 9999
    · obtain ⟨N1, f1, S1, F1⟩ := p_hour S n2 (by omega)
      have C1 := C.sh ha F1 S1
      have H1 := F1.lf H
      have C2 := C1.w3 ha (x.2.2.2.2.1 + (hmin x.1 n).2)
      have H2 : lfL (sI N1 L 3 (x.2.2.2.2.1 + (hmin x.1 n).2)) L := H1
      have C3 := C2.w2 ha (x.2.2.2.1 + nI n)
      refine ⟨_, ?_, C3.to (by rw [e, if_pos q]; rfl), ?_⟩
      · rw [if_pos (by rw [show (9999 : Int32) = nI 9999 from rfl, nI_leI' (by omega) (by omega)]; exact q), lf_gI H, C.2.2.2.2.2.1, lc_s S.1, f1, bd_s, lf_pI H1, lf_gI H2, C2.2.2.2.2.1, lf_pI H2, f_X2_doStep_213, nI_1]
        rfl
      · rw [mI_o (by omega), mI_o (by omega), F1.2.2.2.2 (L + 1) (by omega)]
    · refine ⟨_, ?_, (C.w1 ha (x.2.2.1 + 1)).to (by rw [e, if_neg q]; rfl), by rw [mI_o (by omega)]⟩
      rw [if_neg (by rw [show (9999 : Int32) = nI 9999 from rfl, nI_leI' (by omega) (by omega)]; exact q), lf_gI H, C.2.2.2.1, lf_pI H, f_X2_doStep_213, nI_1]
  · have kk := ck 1 (by omega) k0
    subst kk
    obtain ⟨N1, f1, C1, r1⟩ := p_gale H ha C W
    refine ⟨N1, ?_, C1.to e, r1⟩
    rw [if_neg (show ¬ kW 1 = 18 by decide), if_pos (show kW 1 = 19 from rfl), lf_ck H, f1, bv_s, f_X2_doStep_213, nI_1]
  · have kk := ck 2 (by omega) k0
    subst kk
    obtain ⟨N1, f1, S1, F1⟩ := p_dawn S
    refine ⟨N1, ?_, (C.sh ha F1 S1).to e, F1.2.2.2.2 (L + 1) (by omega)⟩
    rw [if_neg (show ¬ kW 2 = 18 by decide), if_neg (show ¬ kW 2 = 19 by decide), if_pos (show kW 2 = 20 from rfl), lc_s S.1, f1, bd_s, f_X2_doStep_213, nI_1]
  · have kk := ck 3 (by omega) k0
    subst kk
    have e1 := W.h
    have e2 := W.g
    obtain ⟨t1, t2, -, -⟩ := s3 rfl
    rw [if_neg (show ¬ kW 3 = 18 by decide), if_neg (show ¬ kW 3 = 19 by decide), if_neg (show ¬ kW 3 = 20 by decide), if_neg (show ¬ kW 3 = 21 by decide), if_pos (show kW 3 = 22 from rfl), yr_5 Y, yr_a3 Y hr, t1, t2, ← a6, ← a7, eh, eg, lf_ck H]
    unfold f_X2_doLift
    rw [lc_s S.1, p_canTake S (by omega) (by omega), bd_s]
    by_cases q : canT x.1 g h
    · obtain ⟨N1, f1, S1, F1⟩ := p_take S (g := g) (h := h) (by omega) (by omega) q
      refine ⟨N1, ?_, (C.sh ha F1 S1).to (by rw [e, if_pos q]), F1.2.2.2.2 (L + 1) (by omega)⟩
      rw [if_pos q, if_neg (by decide), lc_s S.1, f1, bd_s, bv_s, f_X2_doStep_213, nI_1]
    · refine ⟨_, ?_, (C.w1 ha (x.2.2.1 + 1)).to (by rw [e, if_neg q]; rfl), by rw [mI_o (by omega)]⟩
      rw [if_neg q, if_pos rfl, lf_gI H, C.2.2.2.1, lf_pI H, bv_s, f_X2_doStep_213, nI_1]
  · have kk := ck 4 (by omega) k0
    subst kk
    have e2 := W.g
    obtain ⟨N1, f1, S1, F1⟩ := p_drops S (g := g) (by omega)
    refine ⟨N1, ?_, (C.sh ha F1 S1).to e, F1.2.2.2.2 (L + 1) (by omega)⟩
    rw [if_neg (show ¬ kW 4 = 18 by decide), if_neg (show ¬ kW 4 = 19 by decide), if_neg (show ¬ kW 4 = 20 by decide), if_pos (show kW 4 = 21 from rfl), e_gs S, yr_5 Y, yr_a3 Y hr, (s4 rfl).1, ← a6, eg, e_g S (by omega), ck_s (by rw [k_g S (by omega)]), f1, bv_s, f_X2_doStep_213, nI_1]
  · exact absurd (Or.inl z) hk
  · exact absurd (Or.inr (Or.inl z)) hk
  · exact absurd (Or.inr (Or.inr z)) hk
theorem p_holds (H : lfL N L) (Y : yrL N y) (C : CfS M0 L a x d lo N) (W : LvO c x) {r : Nat} (hr : r < 60) (hst : stp N y c s r) (hk : c (175 + 9 * s) = 5) : f_X2_holds N (some L) (some a) (some y) (nI r) = some (lvQ x.1 s, N) := by
  have S := C.2.1
  have O := S.2.2
  have h8 := (ok_h O).2
  have eh := W.h
  obtain ⟨k, k8, hkc, -, -, -, -, -, s5⟩ := hst
  have k5 : k = 5 := (nI8 k8 (by omega)).mp (hkc.symm.trans hk)
  have a6 := W.cc (k := 176 + 9 * s) (by omega)
  have a7 := W.cc (k := 177 + 9 * s) (by omega)
  have a81 := W.cc (k := 181 + 9 * s) (by omega)
  have a82 := W.cc (k := 182 + 9 * s) (by omega)
  unfold f_X2_holds g_X2_holds lvQ
  rw [yr_4 Y, yr_a2 Y hr, yr_5 Y, yr_a3 Y hr]
  rcases s5 k5 with ⟨t1, t2, t3, h, hh, e1⟩ | ⟨t1, t2, t3, h, hh, e1⟩ | ⟨t1, t2, t3, t4, -⟩
  · rw [t2, if_pos rfl, if_pos (a81.trans t1), t3, ← a6, a6.trans e1, na_of (a6.trans e1) (by omega), e_hs S, e_h S (by omega), e_hon S (by omega)]
    by_cases q : x.1 (53 + h) = 0
    · rw [if_pos q, if_pos q, zc1]
    · rw [if_neg q, if_neg q, zc0]
  · have p8 := (O.2.2.2.2.2.1 h (by omega)).2.2.2.2.2.2.2.1
    have p83 := p8.2.2
    have n0 : ¬ x.1 (181 + 9 * s) = 0 := by rw [a81, t1]; decide
    rw [t2, if_neg (by decide), if_neg n0, if_pos (a81.trans t1), yr_5 Y, yr_a3 Y hr, t2, if_pos rfl, t3, ← a6, a6.trans e1, na_of (a6.trans e1) (by omega), e_hs S, e_h S (by omega), e_hsd S (by omega)]
    by_cases q : x.1 (61 + h) = 1
    · rw [if_pos q, q, zc1]
    · rw [if_neg q]
      have : x.1 (61 + h) = 0 := by
        rw [p8.1] at q ⊢
        have : ¬ na x.1 (61 + h) = 1 := fun z => q (by rw [z]; rfl)
        rw [show na x.1 (61 + h) = 0 by omega]
        rfl
      rw [this, zc0]
  · have n0 : ¬ x.1 (181 + 9 * s) = 0 := by rw [a81, t1]; decide
    have n1 : ¬ x.1 (181 + 9 * s) = 1 := by rw [a81, t1]; decide
    rw [t2, if_neg (by decide), if_neg n0, if_neg n1, yr_5 Y, yr_a3 Y hr, t2, if_neg (by decide), lc_s S.1, p_standing S, bd_s, lc_s S.1, p_worth S, bd_s, ← wst1 O, yr_6 Y, yr_a4 Y hr, t3, ← a82, t4, ← a7]
    by_cases q : x.1 (182 + 9 * s) = 60
    · rw [if_pos q, if_pos q]
      by_cases q2 : x.1 (177 + 9 * s) ≤ wst x.1 1
      · rw [if_pos q2, if_pos q2, zc0]
      · rw [if_neg q2, if_neg q2, zc1]
    · rw [if_neg q, if_neg q]
      by_cases q3 : x.1 (182 + 9 * s) = 62
      · rw [if_pos q3, if_pos q3]
        by_cases q2 : wst x.1 1 ≤ x.1 (177 + 9 * s)
        · rw [if_pos q2, if_pos q2, zc0]
        · rw [if_neg q2, if_neg q2, zc1]
      · rw [if_neg q3, if_neg q3]
        by_cases q2 : wst x.1 1 = x.1 (177 + 9 * s)
        · rw [if_pos q2, if_pos q2, zc1]
        · rw [if_neg q2, if_neg q2, zc0]
end C
