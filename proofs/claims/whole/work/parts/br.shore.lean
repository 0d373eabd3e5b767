/-! SHORE: the two calls -/
section G
variable {cd : Nat → Nat} {n s t : Nat} {nm nm' : Nat → List Nat} {c c' : Nat → Int32}
theorem rdP_173 {tl : Bool} (ok : dOK c) (e : rdP cd n c nm tl s = .inr (t, c', nm')) : c' 173 = c 173 := by
  have h8 := (ok_h ok.1).2
  have g4 := (ok_g ok.1).2
  have w6 := (ok_w ok.1).2
  unfold rdP at e
  by_cases q1 : tkW cd n s = nI 0
  · rw [if_pos q1] at e
    unfold rdH at e
    by_cases k8 : hN c = 8
    · rw [if_pos k8] at e
      cases e
    rw [if_neg k8] at e
    obtain ⟨s1, q1, e⟩ := Sb_i e
    obtain ⟨v1, s2, q2, e⟩ := Sp_i e
    obtain ⟨v2, s3, q3, e⟩ := Sp_i e
    obtain ⟨v3, s4, q4, e⟩ := Sp_i e
    obtain ⟨v4, s5, q5, e⟩ := Sp_i e
    obtain ⟨v5, v6, s6, q6, e⟩ := S3_i e
    injection e with e
    obtain ⟨y1, y2⟩ := Prod.mk.inj e
    obtain ⟨y2, y3⟩ := Prod.mk.inj y2
    rw [← y2]
    exact hsC_o (by omega) (by omega) (by omega) (by omega) (by omega) (by omega) (by omega) (by omega) (by omega)
  rw [if_neg q1] at e
  by_cases q2 : tkW cd n s = nI 7
  · rw [if_pos q2] at e
    unfold rdG at e
    by_cases k8 : gN c = 4
    · rw [if_pos k8] at e
      cases e
    rw [if_neg k8] at e
    obtain ⟨s1, q1, e⟩ := Sb_i e
    obtain ⟨s2, q2, e⟩ := Sb_i e
    obtain ⟨v1, s3, q3, e⟩ := Sp_i e
    obtain ⟨v2, s4, q4, e⟩ := Sp_i e
    obtain ⟨v3, s5, q5, e⟩ := Sp_i e
    injection e with e
    obtain ⟨y1, y2⟩ := Prod.mk.inj e
    obtain ⟨y2, y3⟩ := Prod.mk.inj y2
    rw [← y2]
    exact gsC_o (by omega) (by omega) (by omega) (by omega) (by omega) (by omega)
  rw [if_neg q2] at e
  by_cases q3 : tkW cd n s = nI 10
  · rw [if_pos q3] at e
    unfold rdD at e
    obtain ⟨v1, s1, q1, e⟩ := Sp_i e
    obtain ⟨s2, q2, e⟩ := Sb_i e
    obtain ⟨v2, s3, q3, e⟩ := Sp_i e
    by_cases z : v2 = v1
    · rw [if_pos z] at e
      cases e
    rw [if_neg z] at e
    obtain ⟨v3, s4, q4, e⟩ := Sp_i e
    injection e with e
    obtain ⟨y1, y2⟩ := Prod.mk.inj e
    obtain ⟨y2, y3⟩ := Prod.mk.inj y2
    have d1 := (tNm_lt q1).1
    have d2 := (tNm_lt q3).1
    rw [← y2]
    exact sx_o (by omega)
  rw [if_neg q3] at e
  by_cases q4 : tkW cd n s = nI 12
  · rw [if_pos q4] at e
    unfold rdW at e
    by_cases k8 : wN c = 6
    · rw [if_pos k8] at e
      cases e
    rw [if_neg k8] at e
    obtain ⟨s1, q1, e⟩ := Sb_i e
    obtain ⟨v1, s2, q2, e⟩ := Sp_i e
    obtain ⟨v2, s3, q3, e⟩ := Sp_i e
    injection e with e
    obtain ⟨y1, y2⟩ := Prod.mk.inj e
    obtain ⟨y2, y3⟩ := Prod.mk.inj y2
    rw [← y2]
    exact wsC_o (by omega) (by omega) (by omega)
  rw [if_neg q4] at e
  by_cases q5 : tkW cd n s = nI 14
  · rw [if_pos q5] at e
    by_cases q6 : tl = true
    · rw [if_pos q6] at e
      cases e
    · rw [if_neg q6] at e
      unfold rdL at e
      by_cases z : 0 ≤ lwV (tkW cd n (nx cd n s))
      · rw [if_pos z] at e
        injection e with e
        obtain ⟨y1, y2⟩ := Prod.mk.inj e
        obtain ⟨y2, y3⟩ := Prod.mk.inj y2
        rw [← y2]
        exact sx_o (by omega)
      · rw [if_neg z] at e
        cases e
  · rw [if_neg q5] at e
    cases e
theorem rdA_173 : ∀ f s c nm tl c' nm', dOK c → rdA cd n f c nm tl s = .inr (c', nm') → c' 173 = c 173 := by
  intro f
  induction f with
  | zero =>
    intro s c nm tl c' nm' ok e
    rw [rdA] at e
    injection e with e
    rw [(Prod.mk.inj e).1]
  | succ f ih =>
    intro s c nm tl c' nm' ok e
    rw [rdA] at e
    by_cases hK : tkK cd n s = 0
    · rw [if_pos hK] at e
      injection e with e
      rw [(Prod.mk.inj e).1]
    · rw [if_neg hK] at e
      rcases hr : rdP cd n c nm tl s with x | ⟨t, c1, nm1⟩
      · rw [hr] at e
        cases e
      · rw [hr] at e
        dsimp only at e
        rcases hr2 : tSm cd n t with x | u
        · rw [hr2] at e
          cases e
        · rw [hr2] at e
          dsimp only at e
          exact (ih u c1 nm1 _ c' nm' (rdP_ok ok hr).2 e).trans (rdP_173 ok hr)
end G
theorem dom_12 {b x : Nat} (hb : b = 12 ∨ b = 43) (hx : x = 0 ∨ (2 ≤ x ∧ x < 12) ∨ (86 ≤ x ∧ x < 207) ∨ (207 ≤ x ∧ x < 221)) : x < 221 ∧ x ≠ 1 ∧ (x < b ∨ b + 31 ≤ x) := by omega
section S
variable {M N N3 : Mm} {a b y z t : Nat} {e : Nat × Nat}
/-- a text that is not a shore's -/
theorem sh_bad (H : RA M a b y z) (T : tFr M N b 31) (G : qFz (sI (eT N) 0 0 10) N3) (e1 : mI N 1 12 = nI e.1) (e2 : mI N 1 13 = nI e.2) : RA (sI (flt N3 (nI e.1) (nI e.2)) 207 0 10) a b y z := by
  have hL := H.1
  have ha := ll_a hL
  have hb := ll_b hL
  have hy := ll_y hL
  have O := H.2.1.2.2
  obtain ⟨t1, t2, t3, t4, t5, t6, t7, t8, t9⟩ := eT_f N
  obtain ⟨g1, g2, g3, g4, g5, g6, g7, g8, g9, g10, g11, g12⟩ := G
  obtain ⟨f1, f2, f3, f4, f5, f6, f7, f8⟩ := flt_f N3 (nI e.1) (nI e.2)
  generalize flt N3 (nI e.1) (nI e.2) = P at f1 f2 f3 f4 f5 f6 f7 f8 ⊢
  have LN : LL N a b y z := T.LL hL
  have LF : LL (sI P 207 0 10) a b y z := LL_same LN (f1.trans (g1.trans t1)) (f2.trans (g2.trans t2)) (f3.trans (g3.trans t3))
  have I3 : ∀ x, x ≠ 0 → x ≠ 1 → x ≠ 207 → x ≠ 212 → x ≠ 214 → mI (sI P 207 0 10) x = mI N x := fun x h0 h1 h7 h2 h4 => by rw [mI_o h7, f5 x h7, (g4 x h7 h2 h4).1, mI_o h0, t5 x h0 h1]
  have L3 : ∀ x, x ≠ 207 → x ≠ 212 → x ≠ 214 → mL (sI P 207 0 10) x = mL N x := fun x h7 h2 h4 => by
    show mL P x = _
    rw [f4, (g4 x h7 h2 h4).2]
    show mL (eT N) x = _
    rw [t4]
  have c12 : ∀ k, k < 1800 → mI (sI P 207 0 10) 212 k = mI M 212 k := fun k hk => by rw [mI_o (by decide), f5 212 (by decide), g5 k hk, mI_o (by decide), t5 212 (by decide) (by decide), (T.2.2.2 212 (by omega) (by omega) (by omega)).1]
  have n14 : ∀ k, k < 72 → mL (sI P 207 0 10) 214 k = mL M 214 k := fun k hk => by
    show mL P 214 k = _
    rw [f4, g7 k hk]
    show mL (eT N) 214 k = _
    rw [t4, (T.2.2.2 214 (by omega) (by omega) (by omega)).2]
  have i0 : ∀ k, k ≠ 0 → mI (sI P 207 0 10) 0 k = mI (eT N) 0 k := fun k hk => by rw [mI_o (by decide), f5 0 (by decide), (g4 0 (by decide) (by decide) (by decide)).1, mI_f hk]
  have l7 : ∀ k, k ≠ 19 → mL (sI P 207 0 10) 207 k = mL M 207 k := fun k hk => by
    show mL P 207 k = _
    rw [f4, g10 k hk]
    show mL (eT N) 207 k = _
    rw [t4, (T.2.2.2 207 (by omega) (by omega) (by omega)).2]
  have IM : ∀ x, x < 221 → x ≠ 0 → x ≠ 1 → x ≠ 207 → x ≠ 212 → x ≠ 214 → (x < b ∨ b + 31 ≤ x) → mI (sI P 207 0 10) x = mI M x := fun x h h0 h1 h7 h2 h4 h5 => by rw [I3 x h0 h1 h7 h2 h4, (T.2.2.2 x h h1 h5).1]
  have LM : ∀ x, x < 221 → x ≠ 1 → x ≠ 207 → x ≠ 212 → x ≠ 214 → (x < b ∨ b + 31 ≤ x) → mL (sI P 207 0 10) x = mL M x := fun x h h1 h7 h2 h4 h5 => by rw [L3 x h7 h2 h4, (T.2.2.2 x h h1 h5).2]
  have h8 := (ok_h O).2
  have g4' := (ok_g O).2
  have w6 := (ok_w O).2
  refine RA_tx H LF (fun x hx => IM x (by omega) (by omega) (by omega) (by omega) (by omega) (by omega) (by omega)) (fun x hx => LM x (by omega) (by omega) (by omega) (by omega) (by omega) (by omega)) ⟨l7 2 (by decide), l7 3 (by decide)⟩ (fun k k0 k3 k4 => by rw [i0 k k0, t7 k k3 k4, (T.2.2.2 0 (by omega) (by omega) (by omega)).1]) (fun k hk => by rw [mI_f (by omega), f6 k (by omega) (by omega), g9 k (by omega), mI_o (by decide), t5 207 (by decide) (by decide), (T.2.2.2 207 (by omega) (by omega) (by omega)).1]) ?_ ⟨?_, ?_⟩ ?_ ?_ (fun k _ hk => c12 k hk) (fun k _ hk => n14 k hk) ?_ ?_ ?_
  · rw [mI_sI_s, mI_o (by decide), f5 0 (by decide), (g4 0 (by decide) (by decide) (by decide)).1, mI_sI_s]
  · rw [i0 3 (by decide), t8, e1, mI_f (by decide), f7]
  · rw [i0 4 (by decide), t9, e2, mI_f (by decide), f8]
  · rw [mI_o (by decide), f5 1 (by decide), (g4 1 (by decide) (by decide) (by decide)).1, mI_o (by decide), t6]
  · rw [mI_f (by decide), f6 8 (by decide) (by decide), g12]
  · exact shO_up H.2.1 (ll_sa LF) (fun x x1 x2 => IM x (by omega) (by omega) (by omega) (by omega) (by omega) (by omega) (by omega)) fun k hk => c12 k (by omega)
  · exact rNm_move H.2.2.1 O (fun k hk => c12 k (by omega)) (fun i hi => by rw [LM (a + 13 + i) (by omega) (by omega) (by omega) (by omega) (by omega) (by omega)]) (fun i hi => by rw [LM (a + 21 + i) (by omega) (by omega) (by omega) (by omega) (by omega) (by omega)]) (fun i hi => by rw [LM (a + 25 + i) (by omega) (by omega) (by omega) (by omega) (by omega) (by omega)]) fun k hk => n14 _ (by omega)
  · exact rYr_move (fun f hf => by rw [IM y (by omega) (by omega) (by omega) (by omega) (by omega) (by omega) (by omega)]) (fun j j1 j2 k hk => by rw [IM (y + j) (by omega) (by omega) (by omega) (by omega) (by omega) (by omega) (by omega)]) (c12 0 (by omega)) (c12 1 (by omega)) (fun k k1 k2 => c12 k (by omega)) H.2.2.2.2.2.2.2.2.1
/-- a shore's text -/
theorem sh_good {c : Nat → Int32} {nm : Nat → List Nat} (H : RA M a b y z) (T : tFr M N b 31) (e1 : mI N 1 12 = 0) (e2 : mI N 1 13 = -1) (DC : dC N b c nm) (ok : dOK c) (z173 : c 173 = 0) (G : qFz (shI N a b y) N3) (DM : dM N3 c nm) : RA (shQ N3) b a y z := by
  have hL := H.1
  have ha := ll_a hL
  have hb := ll_b hL
  have hy := ll_y hL
  obtain ⟨t1, t2, t3, t4, t5, t6, t7, t8, t9, t10⟩ := shI_f (T.LL hL)
  obtain ⟨g1, g2, g3, g4, g5, g6, g7, g8, g9, g10, g11, g12⟩ := G
  obtain ⟨f1, f2, f3, f4, f5, f6, f7, f8, f9, f10⟩ := shQ_f N3
  generalize shQ N3 = P at f1 f2 f3 f4 f5 f6 f7 f8 f9 f10 ⊢
  generalize shI N a b y = S at t1 t2 t3 t4 t5 t6 t7 t8 t9 t10 g1 g2 g3 g4 g5 g6 g7 g8 g9 g10
  have LF : LL P b a y z := LL_same t1 (f1.trans g1) (f2.trans g2) (f3.trans g3)
  have I3 : ∀ x, x ≠ 0 → x ≠ 1 → x ≠ y → x ≠ 207 → x ≠ 212 → x ≠ 214 → mI P x = mI N x := fun x h0 h1 hy h7 h2 h4 => by rw [f4 x h7 h2, (g4 x h7 h2 h4).1, t4 x h0 h1 hy]
  have L3 : ∀ x, x ≠ 207 → x ≠ 212 → x ≠ 214 → mL P x = mL N x := fun x h7 h2 h4 => by rw [f5 x h4, (g4 x h7 h2 h4).2, t3]
  have IM : ∀ x, x < 221 → x ≠ 0 → x ≠ 1 → x ≠ y → x ≠ 207 → x ≠ 212 → x ≠ 214 → (x < b ∨ b + 31 ≤ x) → mI P x = mI M x := fun x h h0 h1 hy h7 h2 h4 h5 => by rw [I3 x h0 h1 hy h7 h2 h4, (T.2.2.2 x h h1 h5).1]
  have LM : ∀ x, x < 221 → x ≠ 1 → x ≠ 207 → x ≠ 212 → x ≠ 214 → (x < b ∨ b + 31 ≤ x) → mL P x = mL M x := fun x h h1 h7 h2 h4 h5 => by rw [L3 x h7 h2 h4, (T.2.2.2 x h h1 h5).2]
  have c0 : ∀ k, k < 450 → mI P 212 k = c k := fun k hk => by
    have := blk_s (c := mI N3 212) (i := 4) (j := 0) hk
    rw [Nat.mul_zero, Nat.zero_add] at this
    rw [f9, this]
    exact DM.1 k hk
  have n0 : ∀ k, k < 18 → mL P 214 (18 * 0 + k) = mL N3 214 (72 + k) := fun k hk => by rw [f10, blkL_s hk]
  have O := ok.1
  have h8 := (ok_h O).2
  have g4' := (ok_g O).2
  have w6 := (ok_w O).2
  have eh : hN (mI P 212) = hN c := na_same (c0 0 (by omega))
  have eg : gN (mI P 212) = gN c := na_same (c0 1 (by omega))
  have ew : wN (mI P 212) = wN c := na_same (c0 2 (by omega))
  obtain ⟨-, -, -, -, b1, b2, b3⟩ := DC.2.2.2
  obtain ⟨-, -, -, -, r1, r2, r3⟩ := DM.2
  refine RA_tx H LF (fun x hx => IM x (by omega) (by omega) (by omega) (by omega) (by omega) (by omega) (by omega) (by omega)) (fun x hx => LM x (by omega) (by omega) (by omega) (by omega) (by omega) (by omega)) ⟨?_, ?_⟩ (fun k k0 k3 k4 => by rw [f4 0 (by decide) (by decide), (g4 0 (by decide) (by decide) (by decide)).1, t6 k k0 k3 k4, (T.2.2.2 0 (by omega) (by omega) (by omega)).1]) (fun k hk => by rw [f6 k (by omega) (by omega), g9 k (by omega), t4 207 (by decide) (by decide) (by omega), (T.2.2.2 207 (by omega) (by omega) (by omega)).1]) ?_ ⟨?_, ?_⟩ ?_ ?_ (fun k k1 k2 => ?_) (fun k k1 k2 => ?_) ?_ ⟨?_, fun i hi => ?_, fun i hi => ?_, fun i hi => ?_⟩ ⟨?_, ?_⟩
  · rw [f5 207 (by decide), g10 2 (by decide), t3, (T.2.2.2 207 (by omega) (by omega) (by omega)).2]
  · rw [f5 207 (by decide), g10 3 (by decide), t3, (T.2.2.2 207 (by omega) (by omega) (by omega)).2]
  · rw [f4 0 (by decide) (by decide), (g4 0 (by decide) (by decide) (by decide)).1, t7, f6 0 (by decide) (by decide), g11]
  · rw [f4 0 (by decide) (by decide), (g4 0 (by decide) (by decide) (by decide)).1, t8, e1, f7]
  · rw [f4 0 (by decide) (by decide), (g4 0 (by decide) (by decide) (by decide)).1, t9, e2, f8]
  · rw [f4 1 (by decide) (by decide), (g4 1 (by decide) (by decide) (by decide)).1, t5]
  · rw [f6 8 (by decide) (by decide), g12]
  · rw [f9]
    unfold blk
    rw [if_neg (by omega), g5 k k2, t4 212 (by decide) (by decide) (by omega), (T.2.2.2 212 (by omega) (by omega) (by omega)).1]
  · rw [f10]
    unfold blkL
    rw [if_neg (by omega), g7 k k2, t3, (T.2.2.2 214 (by omega) (by omega) (by omega)).2]
  · exact shO_up ⟨DC.1, DC.2.1, O⟩ (ll_sa LF) (fun x x1 x2 => I3 x (by omega) (by omega) (by omega) (by omega) (by omega) (by omega)) fun k hk => c0 k (by omega)
  · have : na (mI P 212) 4 = na c 4 := na_same (c0 4 (by omega))
    rw [this, na_of (n := 0) ok.2.1.1 (by omega)]
    omega
  · rw [eh] at hi
    have x1 := b1 i hi
    have x2 := r1 i hi
    rw [L3 (b + 13 + i) (by omega) (by omega) (by omega), n0 i (by omega)]
    exact ⟨nm i, x1.1, x1.2, x2.2⟩
  · rw [eg] at hi
    have x1 := b2 i hi
    have x2 := r2 i hi
    rw [L3 (b + 21 + i) (by omega) (by omega) (by omega), Nat.add_assoc (18 * 0) 8 i, n0 (8 + i) (by omega), ← Nat.add_assoc]
    exact ⟨nm (8 + i), x1.1, x1.2, x2.2⟩
  · rw [ew] at hi
    have x1 := b3 i hi
    have x2 := r3 i hi
    rw [L3 (b + 25 + i) (by omega) (by omega) (by omega), Nat.add_assoc (18 * 0) 12 i, n0 (12 + i) (by omega), ← Nat.add_assoc]
    exact ⟨nm (12 + i), x1.1, x1.2, x2.2⟩
  · rw [f4 y (by omega) (by omega), (g4 y (by omega) (by omega) (by omega)).1, t10, c0 173 (by omega), z173]
  · exact Or.inl ((c0 173 (by omega)).trans z173)
end S
theorem op_shore (x : Int32) : opI (fun M => f_X11_shore M (some 0) x) (fun M => f_X12_shore M (some 207) x) := by
  intro M hR
  dsimp only
  obtain ⟨a, b, y, z, H⟩ := id hR
  have hL := H.1
  have hT := hL.2.2.2
  have ha := ll_a hL
  have hb := ll_b hL
  have hy := ll_y hL
  obtain ⟨t, cd, h9, h1, h8, hb2, hb11, hw⟩ := cd_of H.2.2.2.2.2.2.1
  have k1 : (mK M 1).1 = 6 := by rw [hL.1.2.2.1.1]
  by_cases q : 0 ≤ x ∧ x ≤ nI t
  · obtain ⟨n, hn, rfl⟩ := rng (by omega) q
    obtain ⟨Tn, Rn, z2, -, -⟩ := rdN_f hL
    have r := c_shRun (nm := fun _ => []) (Tn.LL hL) hT Rn z2 (n := n) (cd := cd) (by omega) (fun k hk => by rw [(Tn.2.2.2 2 (by omega) (by omega) (by omega)).1]; exact hb2 k (by omega)) (fun w hw2 => by rw [(Tn.2.2.2 3 (by omega) (by omega) (by omega)).2]; exact hw w hw2)
    rcases hr : rdA cd n fu shZ (fun _ => []) false (tkS cd n 0) with e | ⟨c, nm⟩
    · rw [hr] at r
      obtain ⟨N, r1, r2, r3, r4⟩ := r
      have T := Tn.tr r2
      have LN := T.LL hL
      obtain ⟨t1, t2, t3, t4, t5, t6, t7, t8, t9⟩ := eT_f N
      have LE : LL (eT N) a b y z := LL_same LN t1 t2 t3
      have L1 : LL (sI (eT N) 0 0 10) a b y z := LL_same LE rfl rfl rfl
      have r' := q_shRun (X := sI (eT N) 0 0 10) (nm := fun _ => []) (cd := cd) (t := t) (n := n) L1.2.2.1 h9 (by rw [mI_o (by decide), t5 207 (by decide) (by decide), (T.2.2.2 207 (by omega) (by omega) (by omega)).1, h8]) hn (fun k hk => by rw [mI_o (by decide), t5 211 (by decide) (by decide), (T.2.2.2 211 (by omega) (by omega) (by omega)).1]; exact hb11 k hk)
      rw [hr] at r'
      obtain ⟨N3, s1, s2, s3⟩ := r'
      refine ⟨-1, sI (eT N) 0 0 10, sI (flt N3 (nI e.1) (nI e.2)) 207 0 10, ?_, by rw [s1, q_164b s3], a, b, y, z, sh_bad H T s2 r3 r4⟩
      unfold f_X11_shore
      rw [c_tp hL, gfI_s k1, h1, q_within, bd_s, if_pos q, if_neg (by decide), c_shNew hL, r1, bd_s, c_ck LN, c_end LN (Or.inl rfl), bd_s, if_pos rfl, c_ck LE, c_none LE, bd_s]
    · rw [hr] at r
      obtain ⟨N, r1, r2, r3, r4, r5, r6⟩ := r
      have T := Tn.tr r2
      have LN := T.LL hL
      obtain ⟨t1, t2, t3, t4, t5, t6, t7, t8, t9, t10⟩ := shI_f LN
      have r' := q_shRun (X := shI N a b y) (nm := fun _ => []) (cd := cd) (t := t) (n := n) t1.2.2.1 h9 (by rw [t4 207 (by decide) (by decide) (by omega), (T.2.2.2 207 (by omega) (by omega) (by omega)).1, h8]) hn (fun k hk => by rw [t4 211 (by decide) (by decide) (by omega), (T.2.2.2 211 (by omega) (by omega) (by omega)).1]; exact hb11 k hk)
      rw [hr] at r'
      obtain ⟨N3, s1, s2, s3, s4, s5⟩ := r'
      have z173 : c 173 = 0 := (rdA_173 _ _ _ _ _ _ _ dOK_0 hr).trans rfl
      refine ⟨c 0, shI N a b y, shQ N3, ?_, ?_, b, a, y, z, sh_good H T r3 r4 r5 r6 z173 s2 s5⟩
      · unfold f_X11_shore
        rw [c_tp hL, gfI_s k1, h1, q_within, bd_s, if_pos q, if_neg (by decide), c_shNew hL, r1, bd_s, c_ck LN, c_end LN (Or.inr rfl), bd_s, if_neg (by decide), c_shIn LN, r5.2.1.1.1]
      · rw [s1, q_164 s3 s4]
        have := s5.1 0 (by omega)
        rw [Nat.add_zero] at this
        rw [this]
  · refine ⟨-1, sI M 0 0 5, _, ?_, ?_, RR_st hR 5⟩
    · unfold f_X11_shore
      rw [c_tp hL, gfI_s k1, h1, q_within, bd_s, if_neg q, if_pos rfl, c_ck hL, c_none hL, bd_s]
    · have D : mdL (sI M 0 0 5) := hL.2.2.1
      have D1 : mdL (sI (sI M 0 0 5) 207 1 0) := hL.2.2.1
      have D0 : mdL (sI (sI (sI M 0 0 5) 207 1 0) 207 0 0) := hL.2.2.1
      unfold f_X12_shore
      rw [m_pI D, m_pI D1, m_ck D0, q_startsX (X := sI M 0 0 5) D h9 (by rw [mI_o (by decide)]; exact h8) (by
        by_cases p : x < 0
        · exact Or.inl p
        · refine Or.inr (Or.inl ?_)
          rw [lt0, Decidable.not_not] at p
          exact Int32.not_le.mp fun p2 => q ⟨p, p2⟩), bd_s, if_pos rfl, sI_sI]
      rfl
