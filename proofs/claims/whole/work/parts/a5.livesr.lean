/-! YEARS ARE LIVED: the class, all steps -/
def CfX (M0 : Mm) (L a : Nat) (X : LvX) (N : Mm) : Prop := CfS M0 L a X.1 X.2.1 (if X.2.2 = 2 then 1 else 0) N
def rn (L a y : Nat) (N : Mm) (r j : Nat) (N' : Mm) (p : Nat) : Prop := ∀ i G, G + j ≤ 900000 → f_X2_run_41 (i + j) N (some L) (some a) (some y) (nI r) (nI G) = f_X2_run_41 i N' (some L) (some a) (some y) (nI p) (nI (G + j))
theorem rn.rf {L a y : Nat} {N : Mm} {r : Nat} : rn L a y N r 0 N r := fun _ _ _ => rfl
theorem rn.tr {L a y : Nat} {N N' N'' : Mm} {r j p j' p' : Nat} (h : rn L a y N r j N' p) (h2 : rn L a y N' p j' N'' p') : rn L a y N r (j + j') N'' p' := fun i G hG => by
  have e1 := h (i + j') G (by omega)
  have e2 := h2 i (G + j) (by omega)
  rw [show i + j' + j = i + (j + j') by omega] at e1
  rw [show G + j + j' = G + (j + j') by omega] at e2
  exact e1.trans e2
theorem big_ov {c : Nat → Int32} {F s t : Nat} {X : LvX} (h : ¬ X.2.2 = 0) : big c F s t X = X := by
  cases F with
  | zero => rfl
  | succ F => rw [big, if_neg (fun z => h z.2)]
theorem itr_ov {g : LvX → LvX} {n : Nat} {X : LvX} (h : ¬ X.2.2 = 0) : itr g n X = X := by
  cases n with
  | zero => rfl
  | succ n => rw [itr, if_neg h]
/-- what surrounds a life of the class -/
def EnvY (M0 : Mm) (L a y R : Nat) : Prop := lfL M0 L ∧ yrL M0 y ∧ a + 31 ≤ y ∧ y + 6 ≤ L ∧ mI M0 y 2 = nI R ∧ R ≤ 60
section C
variable {M0 N : Mm} {L a y R : Nat} {c : Nat → Int32}
theorem EnvY.row (E : EnvY M0 L a y R) {N : Mm} (F : FS (CfP L a) M0 N) {z : Nat} (h1 : y ≤ z) (h2 : z < y + 6) : mI N z = mI M0 z := F.2.2.2.2 z (by
  have := E.2.2
  unfold CfP
  omega)
theorem rn_end (E : EnvY M0 L a y R) (F : FS (CfP L a) M0 N) {q r : Nat} (hq : q < R) (hr : r < 60) (h28 : mI M0 (y + 1) q = 28) (hp : mI M0 (y + 5) q = nI r) : (mI M0 (y + 1) r = 27 → ∀ k, k < 1000 → mI N (L + 1) r = nI k → (k ≤ 1 → rn L a y N q 1 N (q + 1)) ∧ (2 ≤ k → rn L a y N q 1 (sI N (L + 1) r (nI (k - 1))) (r + 1))) ∧ (¬ mI M0 (y + 1) r = 27 → rn L a y N q 1 N (q + 1)) := by
  obtain ⟨H, Y, ha, hy, hR, R60⟩ := E
  have HN := FS_lf F H
  have YN := FS_yr F Y
  have E : EnvY M0 L a y R := ⟨H, Y, ha, hy, hR, R60⟩
  have r0 := E.row F (z := y) (by omega) (by omega)
  have r1 := E.row F (z := y + 1) (by omega) (by omega)
  have r5 := E.row F (z := y + 5) (by omega) (by omega)
  have go : ∀ N' v, f_X2_behindEnd N (some L) (some y) (nI q) = some (nI v, N') → rn L a y N q 1 N' v := fun N' v hv i G hG => by
    rw [f_X2_run_41, if_neg (by rw [show (1000000 : Int32) = nI 1000000 from rfl, nI_leI' (by omega) (by omega)]; omega), yr_gI YN, r0, hR, if_neg (by rw [nI_leI' (by omega) (by omega)]; omega), yr_3 YN, yr_a1 YN (by omega), r1, h28, if_pos rfl, lf_ck HN, hv, bd_s, f_X2_run_125, nI_1]
  constructor
  · intro h27 k hk hrd
    constructor
    · intro k1
      refine go _ _ ?_
      unfold f_X2_behindEnd
      rw [yr_7 YN, yr_a5 YN (by omega), r5, hp, yr_3 YN, yr_a1 YN hr, r1, h27, if_pos rfl, lf_r7 HN, lf_al HN hr, hrd, if_pos (by rw [show (1 : Int32) = nI 1 from rfl, nI_leI' (by omega) (by omega)]; omega), f_X2_behindEnd_42, nI_1]
    · intro k2
      refine go _ _ ?_
      unfold f_X2_behindEnd
      rw [yr_7 YN, yr_a5 YN (by omega), r5, hp, yr_3 YN, yr_a1 YN hr, r1, h27, if_pos rfl, lf_r7 HN, lf_al HN hr, hrd, if_neg (by rw [show (1 : Int32) = nI 1 from rfl, nI_leI' (by omega) (by omega)]; omega), lf_r7 HN, lf_al HN hr, hrd, show (1 : Int32) = nI 1 from rfl, nI_sub (by omega), lf_as HN hr, nI_add]
  · intro h27
    refine go _ _ ?_
    unfold f_X2_behindEnd
    rw [yr_7 YN, yr_a5 YN (by omega), r5, hp, yr_3 YN, yr_a1 YN hr, r1, if_neg h27, f_X2_behindEnd_42, nI_1]
theorem rn_over (E : EnvY M0 L a y R) {X : LvX} (C : CfX M0 L a X N) (h3 : X.2.1 = 300) (ov : X.2.2 = 0) {r : Nat} (hr : r < R) (h28 : ¬ mI M0 (y + 1) r = 28) : rn L a y N r 1 (sI N L 5 (nI 1)) R ∧ CfX M0 L a (X.1, X.2.1, 2) (sI N L 5 (nI 1)) := by
  obtain ⟨H, Y, ha, hy, hR, R60⟩ := E
  have F := C.1
  have HN := FS_lf F H
  have YN := FS_yr F Y
  have E : EnvY M0 L a y R := ⟨H, Y, ha, hy, hR, R60⟩
  have r0 := E.row F (z := y) (by omega) (by omega)
  have r1 := E.row F (z := y + 1) (by omega) (by omega)
  have Y2 : yrL (sI N L 5 1) y := YN
  have d0 := C.2.2.1
  have e02 : mI (sI N L 5 1) y 2 = mI N y 2 := by rw [mI_o (by omega)]
  constructor
  · intro i G hG
    rw [f_X2_run_41, if_neg (by rw [show (1000000 : Int32) = nI 1000000 from rfl, nI_leI' (by omega) (by omega)]; omega), yr_gI YN, r0, hR, if_neg (by rw [nI_leI' (by omega) (by omega)]; omega), yr_3 YN, yr_a1 YN (by omega), r1, if_neg h28, lf_gI HN, d0, if_neg (by rw [show (300 : Int32) = nI 300 from rfl, nI_ltI' (by omega) (by omega)]; omega), lf_pI HN, yr_gI Y2, e02, r0, hR, f_X2_run_125, nI_1]
    rfl
  · have := C.w5 (by omega) 1
    unfold CfX
    rw [if_pos (show (2 : Nat) = 2 from rfl)]
    exact this
theorem rn_step (E : EnvY M0 L a y R) {X : LvX} (C : CfX M0 L a X N) (h3 : X.2.1 < 300) {r : Nat} (hr : r < R) (h28 : ¬ mI M0 (y + 1) r = 28) {p : Nat} {N' : Mm} (hs : f_X2_doStep (sI N L 0 (nI (X.2.1 + 1))) (some L) (some a) (some y) (nI r) = some (nI p, N')) : rn L a y N r 1 N' p := by
  obtain ⟨H, Y, ha, hy, hR, R60⟩ := E
  have F := C.1
  have HN := FS_lf F H
  have YN := FS_yr F Y
  have E : EnvY M0 L a y R := ⟨H, Y, ha, hy, hR, R60⟩
  have r0 := E.row F (z := y) (by omega) (by omega)
  have r1 := E.row F (z := y + 1) (by omega) (by omega)
  have H2 : lfL (sI N L 0 (nI (X.2.1 + 1))) L := HN
  have d0 := C.2.2.1
  intro i G hG
  rw [f_X2_run_41, if_neg (by rw [show (1000000 : Int32) = nI 1000000 from rfl, nI_leI' (by omega) (by omega)]; omega), yr_gI YN, r0, hR, if_neg (by rw [nI_leI' (by omega) (by omega)]; omega), yr_3 YN, yr_a1 YN (by omega), r1, if_neg h28, lf_gI HN, d0, if_pos (by rw [show (300 : Int32) = nI 300 from rfl, nI_ltI' (by omega) (by omega)]; omega), lf_gI HN, d0, nI_1, lf_pI HN, lf_ck H2, hs, bd_s, f_X2_run_125, nI_1]
/-- from r the life goes on to r', or to the end of all -/
def Sm (M0 : Mm) (L a y R : Nat) (c : Nat → Int32) (X : LvX) (N : Mm) (r r' x : Nat) (X' : LvX) (lo hi : Nat) : Prop := ∃ j N' p, rn L a y N r j N' p ∧ CfX M0 L a X' N' ∧ LvOX c X' ∧ X.2.1 ≤ X'.2.1 ∧ j + 100 * X.2.1 ≤ 100 * X'.2.1 + x + (if X'.2.2 = 0 then 0 else 1) ∧ (X'.2.2 = 0 → p = r' ∧ ∀ k, (k < lo ∨ hi ≤ k) → mI N' (L + 1) k = mI N (L + 1) k) ∧ (¬ X'.2.2 = 0 → p = R)
theorem p_loop (E : EnvY M0 L a y R) (g : LvX → LvX) {r q : Nat} (hrq : r < q) (hq : q < R) (h28 : mI M0 (y + 1) q = 28) (hp : mI M0 (y + 5) q = nI r) (h27 : mI M0 (y + 1) r = 27) (body : ∀ X N, LvOX c X → X.2.2 = 0 → CfX M0 L a X N → Sm M0 L a y R c X N (r + 1) q 0 (g X) (r + 1) q) : ∀ n X N, 1 ≤ n → n ≤ 99 → LvOX c X → X.2.2 = 0 → CfX M0 L a X N → mI N (L + 1) r = nI n → Sm M0 L a y R c X N (r + 1) (q + 1) n (itr g n X) r (q + 1) := by
  intro n
  induction n with
  | zero => intro X N h1; omega
  | succ n ih =>
    intro X N h1 h99 W ov C hrd
    have R60 := E.2.2.2.2.2
    have hae : a + 31 ≤ L := by
      have h1 := E.2.2.1
      have h2 := E.2.2.2.1
      omega
    obtain ⟨j, N1, p, b1, b2, b3, b4, b5, b6, b7⟩ := body X N W ov C
    rw [itr, if_pos ov]
    by_cases o1 : (g X).2.2 = 0
    · obtain ⟨hp1, hrows⟩ := b6 o1
      subst hp1
      rw [if_pos o1] at b5
      have hrd1 : mI N1 (L + 1) r = nI (n + 1) := by rw [hrows r (by omega)]; exact hrd
      obtain ⟨t1, t2⟩ := (rn_end E b2.1 (q := p) (r := r) hq (by omega) h28 hp).1 h27 (n + 1) (by omega) hrd1
      by_cases n0 : n = 0
      · subst n0
        refine ⟨j + 1, N1, p + 1, b1.tr (t1 (by omega)), b2, b3, b4, ?_, fun _ => ⟨rfl, fun k hk => hrows k (by omega)⟩, fun z => absurd o1 z⟩
        show j + 1 + 100 * X.2.1 ≤ 100 * (g X).2.1 + (0 + 1) + (if (g X).2.2 = 0 then 0 else 1)
        rw [if_pos o1]
        omega
      · have t3 := t2 (by omega)
        rw [show n + 1 - 1 = n by omega] at t3
        have C2 : CfX M0 L a (g X) (sI N1 (L + 1) r (nI n)) := b2.rd hae r (nI n)
        obtain ⟨j2, N2, p2, d1, d2, d3, d4, d5, d6, d7⟩ := ih (g X) (sI N1 (L + 1) r (nI n)) (by omega) (by omega) b3 o1 C2 (by rw [mI_sI_s])
        refine ⟨j + 1 + j2, N2, p2, (b1.tr t3).tr d1, d2, d3, by omega, by omega, fun z => ?_, d7⟩
        obtain ⟨z1, z2⟩ := d6 z
        refine ⟨z1, fun k hk => ?_⟩
        rw [z2 k hk, mI_f (by omega)]
        exact hrows k (by omega)
    · rw [itr_ov o1]
      refine ⟨j, N1, p, b1, b2, b3, b4, by omega, fun z => absurd z o1, b7⟩
theorem p_sim (E : EnvY M0 L a y R) : ∀ F m s t r r', t ≤ 30 → r' ≤ R → seg M0 y c F m s t r r' → ∀ X N, LvOX c X → X.2.2 = 0 → CfX M0 L a X N → Sm M0 L a y R c X N r r' 0 (big c F s t X) r r' := by
  have hae : a + 31 ≤ L := by
    have h1 := E.2.2.1
    have h2 := E.2.2.2.1
    omega
  intro F
  induction F with
  | zero => intro m s t r r' ht hR h; exact False.elim h
  | succ F ih =>
    intro m s t r r' ht hR h X N W ov C
    have hle := seg_le _ _ _ _ _ _ h
    rcases h with ⟨e1, e2⟩ | ⟨st, r60, hst, hb⟩
    · subst e1
      subst e2
      have eb : big c (F + 1) s s X = X := by
        rw [big, if_neg (fun z => by omega)]
      rw [eb]
      exact ⟨0, N, r, rn.rf, C, W, Nat.le_refl _, by omega, fun _ => ⟨rfl, fun _ _ => rfl⟩, fun z => absurd ov z⟩
    · have rR : r < R := by
        have := hle.2.2 st
        omega
      have FN := C.1
      have HN := FS_lf FN E.1
      have YN := FS_yr FN E.2.1
      have hS := okS_of hst
      obtain ⟨k, k8, hk, hkw, s0, s3, s4, s6, s5⟩ := id hst
      have kw28 : ¬ mI M0 (y + 1) r = 28 := by
        rw [hkw]
        rcases (show k = 0 ∨ k = 1 ∨ k = 2 ∨ k = 3 ∨ k = 4 ∨ k = 5 ∨ k = 6 ∨ k = 7 by omega) with h | h | h | h | h | h | h | h <;> subst h <;> decide
      have ck5 : c (175 + 9 * s) = 5 ↔ k = 5 := by rw [hk, show (5 : Int32) = nI 5 from rfl, nI8 k8 (by omega)]
      have ck6 : c (175 + 9 * s) = 6 ↔ k = 6 := by rw [hk, show (6 : Int32) = nI 6 from rfl, nI8 k8 (by omega)]
      have ck7 : c (175 + 9 * s) = 7 ↔ k = 7 := by rw [hk, show (7 : Int32) = nI 7 from rfl, nI8 k8 (by omega)]
      -- one step with all that lies within it
      have one : ∃ X1 e r2, na c (183 + 9 * s) = e ∧ (∃ m', seg M0 y c F m' e t r2 r') ∧ r ≤ r2 ∧ Sm M0 L a y R c X N r r2 0 X1 r r2 ∧ big c (F + 1) s t X = big c F e t X1 := by
        have stN : stp (sI N L 0 (nI (X.2.1 + 1))) y c s r := stp_same (M := M0) (fun z z1 z2 => by
          have h2 := E.2.2.2.1
          rw [mI_o (by omega)]
          exact E.row FN z1 z2) rfl rfl (fun _ _ => rfl) hst
        have C0 : CfS M0 L a X.1 (X.2.1 + 1) 0 (sI N L 0 (nI (X.2.1 + 1))) := by
          have h := C
          unfold CfX at h
          rw [if_neg (by omega)] at h
          exact h.w0 hae _
        have H0 : lfL (sI N L 0 (nI (X.2.1 + 1))) L := HN
        have Y0 : yrL (sI N L 0 (nI (X.2.1 + 1))) y := YN
        have mk : ∀ x d N', CfS M0 L a x d 0 N' → CfX M0 L a (x, d, 0) N' := fun x d N' h => by
          unfold CfX
          rw [if_neg (show ¬ (0 : Nat) = 2 by decide)]
          exact h
        have d3 := W.2.1
        have rowe : ∀ kk, mI (sI N L 0 (nI (X.2.1 + 1))) (L + 1) kk = mI N (L + 1) kk := fun kk => by rw [mI_o (by omega)]
        rw [big, if_pos ⟨st, ov⟩]
        by_cases q3 : X.2.1 = 300
        · obtain ⟨t1, t2⟩ := rn_over E C q3 ov rR kw28
          have S1 : ∀ r2, Sm M0 L a y R c X N r r2 0 (X.1, X.2.1, 2) r r2 := fun r2 => ⟨1, _, R, t1, t2, ⟨W.1, W.2.1, Nat.le_refl _⟩, Nat.le_refl _, (by
            show 1 + 100 * X.2.1 ≤ 100 * X.2.1 + 0 + (if (2 : Nat) = 0 then 0 else 1)
            rw [if_neg (by decide)]
            omega), fun z => absurd z (by decide : ¬ (2 : Nat) = 0), fun _ => rfl⟩
          rw [if_pos q3]
          rcases hb with ⟨-, ec, h⟩ | ⟨-, e, q, ec, q3', q4', q5', ⟨m', -, q6'⟩, -, -, -, h⟩
          · exact ⟨_, s + 1, r + 1, na_of ec (by omega), ⟨m, h⟩, by omega, S1 _, by rw [na_of ec (by omega)]⟩
          · have := seg_le _ _ _ _ _ _ q6'
            exact ⟨_, e, q + 1, na_of ec (by omega), ⟨m, h⟩, by omega, S1 _, by rw [na_of ec (by omega)]⟩
        · have h300 : X.2.1 < 300 := by omega
          have W1 : ∀ ov', ov' ≤ 2 → LvOX c (X.1, X.2.1 + 1, ov') := fun ov' h => ⟨W.1, show X.2.1 + 1 ≤ 300 by omega, h⟩
          rw [if_neg q3]
          by_cases b5 : k = 5
          · rcases hb with ⟨nb, -⟩ | ⟨-, e, q, ec, q3', q4', q5', ⟨m', -, q6'⟩, e28, ep, eq2, h⟩
            · exact absurd (Or.inl (ck5.mpr b5)) nb
            · have hle6 := seg_le _ _ _ _ _ _ q6'
              have hle7 := seg_le _ _ _ _ _ _ h
              have k24 : mI (sI N L 0 (nI (X.2.1 + 1))) (y + 1) r = 24 := by
                rw [mI_o (by have h2 := E.2.2.2.1; omega), E.row FN (by omega) (by omega), hkw, b5]
                rfl
              have hso := p_holds H0 Y0 C0 W.1 r60 stN (ck5.mpr b5)
              have hst2 : f_X2_doStep (sI N L 0 (nI (X.2.1 + 1))) (some L) (some a) (some y) (nI r) = if lvQ X.1.1 s = 0 then some (nI (q + 1), sI N L 0 (nI (X.2.1 + 1))) else some (nI (r + 1), sI N L 0 (nI (X.2.1 + 1))) := by
                have r5 : mI (sI N L 0 (nI (X.2.1 + 1))) (y + 5) r = nI q := by
                  rw [mI_o (by have h2 := E.2.2.2.1; omega), E.row FN (by omega) (by omega)]
                  exact eq2
                unfold f_X2_doStep
                rw [yr_4 Y0, yr_a2 Y0 r60, yr_3 Y0, yr_a1 Y0 r60, k24, if_neg (by decide), if_neg (by decide), if_neg (by decide), if_neg (by decide), if_neg (by decide), if_neg (by decide), if_pos rfl, lf_ck H0, hso, bd_s]
                by_cases z : lvQ X.1.1 s = 0
                · rw [if_pos z, if_pos z, yr_7 Y0, yr_a5 Y0 r60, r5, nI_1]
                · rw [if_neg z, if_neg z, nI_1]
              rw [if_pos (ck5.mpr b5)]
              by_cases z : lvQ X.1.1 s = 0
              · rw [if_pos z] at hst2
                rw [if_pos z]
                refine ⟨_, e, q + 1, na_of ec (by omega), ⟨m, h⟩, by omega, ⟨1, _, q + 1, rn_step E C h300 rR kw28 hst2, mk _ _ _ C0, W1 0 (by omega), Nat.le_succ _, ?_, fun _ => ⟨rfl, fun kk _ => rowe kk⟩, fun z => absurd rfl z⟩, by rw [na_of ec (by omega)]⟩
                show 1 + 100 * X.2.1 ≤ 100 * (X.2.1 + 1) + 0 + _
                omega
              · rw [if_neg z] at hst2
                rw [if_neg z, na_of ec (by omega)]
                have t1 := rn_step E C h300 rR kw28 hst2
                obtain ⟨j, N1, p, g1, g2, g3, g4, g5, g6, g7⟩ := ih m' (s + 1) e (r + 1) q (by omega) (by omega) q6' (X.1, X.2.1 + 1, 0) _ (W1 0 (by omega)) rfl (mk _ _ _ C0)
                have g4' : X.2.1 + 1 ≤ (big c F (s + 1) e (X.1, X.2.1 + 1, 0)).2.1 := g4
                have g5' : j + 100 * (X.2.1 + 1) ≤ 100 * (big c F (s + 1) e (X.1, X.2.1 + 1, 0)).2.1 + 0 + (if (big c F (s + 1) e (X.1, X.2.1 + 1, 0)).2.2 = 0 then 0 else 1) := g5
                refine ⟨_, e, q + 1, rfl, ⟨m, h⟩, by omega, ?_, rfl⟩
                by_cases o1 : (big c F (s + 1) e (X.1, X.2.1 + 1, 0)).2.2 = 0
                · obtain ⟨hp1, hrows⟩ := g6 o1
                  subst hp1
                  have t2 := (rn_end E g2.1 (q := p) (r := r) (by omega) r60 e28 ep).2 (by rw [hkw, b5]; decide)
                  refine ⟨1 + j + 1, N1, p + 1, (t1.tr g1).tr t2, g2, g3, by omega, by omega, fun _ => ⟨rfl, fun kk hkk => ?_⟩, fun z => absurd o1 z⟩
                  rw [hrows kk (by omega)]
                  exact rowe kk
                · exact ⟨1 + j, N1, p, t1.tr g1, g2, g3, by omega, by omega, fun z => absurd z o1, g7⟩
          · have n5 : ¬ c (175 + 9 * s) = 5 := fun z => b5 (ck5.mp z)
            rw [if_neg n5]
            by_cases b6 : k = 6
            · obtain ⟨u1, u2, u3, u4⟩ := s6 b6
              rcases hb with ⟨nb, -⟩ | ⟨-, e, q, ec, q3', q4', q5', ⟨m', -, q6'⟩, e28, ep, eq2, h⟩
              · exact absurd (Or.inr (ck6.mpr b6)) nb
              · have hle6 := seg_le _ _ _ _ _ _ q6'
                have hle7 := seg_le _ _ _ _ _ _ h
                have k27 : mI (sI N L 0 (nI (X.2.1 + 1))) (y + 1) r = 27 := by
                  rw [mI_o (by have h2 := E.2.2.2.1; omega), E.row FN (by omega) (by omega), hkw, b6]
                  rfl
                have v5 : mI (sI N L 0 (nI (X.2.1 + 1))) (y + 2) r = nI (na c (176 + 9 * s)) := by
                  rw [mI_o (by have h2 := E.2.2.2.1; omega), E.row FN (by omega) (by omega), u1]
                  exact u2
                have hst2 : f_X2_doStep (sI N L 0 (nI (X.2.1 + 1))) (some L) (some a) (some y) (nI r) = some (nI (r + 1), sI (sI N L 0 (nI (X.2.1 + 1))) (L + 1) r (nI (na c (176 + 9 * s)))) := by
                  unfold f_X2_doStep
                  rw [yr_4 Y0, yr_a2 Y0 r60, yr_3 Y0, yr_a1 Y0 r60, k27, v5, if_neg (by decide), if_neg (by decide), if_neg (by decide), if_neg (by decide), if_neg (by decide), if_neg (by decide), if_neg (by decide), if_neg (by decide), if_neg (by decide), if_pos rfl, lf_r7 H0, lf_as H0 r60, f_X2_doStep_213, nI_1]
                have t1 := rn_step E C h300 rR kw28 hst2
                have C1 := C0.rd hae r (nI (na c (176 + 9 * s)))
                obtain ⟨j, N1, p, g1, g2, g3, g4, g5, g6, g7⟩ := p_loop E (fun Y => big c F (s + 1) e Y) (r := r) (q := q) (by omega) (by omega) e28 ep (by rw [hkw, b6]; rfl) (fun Y N2 WY oY CY => ih m' (s + 1) e (r + 1) q (by omega) (by omega) q6' Y N2 WY oY CY) (na c (176 + 9 * s)) (X.1, X.2.1 + 1, 0) _ u3 u4 (W1 0 (by omega)) rfl (mk _ _ _ C1) (by rw [mI_sI_s])
                rw [if_pos (ck6.mpr b6), na_of ec (by omega)]
                have g4' : X.2.1 + 1 ≤ (itr (fun Y => big c F (s + 1) e Y) (na c (176 + 9 * s)) (X.1, X.2.1 + 1, 0)).2.1 := g4
                have g5' : j + 100 * (X.2.1 + 1) ≤ 100 * (itr (fun Y => big c F (s + 1) e Y) (na c (176 + 9 * s)) (X.1, X.2.1 + 1, 0)).2.1 + na c (176 + 9 * s) + (if (itr (fun Y => big c F (s + 1) e Y) (na c (176 + 9 * s)) (X.1, X.2.1 + 1, 0)).2.2 = 0 then 0 else 1) := g5
                refine ⟨_, e, q + 1, rfl, ⟨m, h⟩, by omega, ⟨1 + j, N1, p, t1.tr g1, g2, g3, by omega, by omega, fun z => ?_, g7⟩, rfl⟩
                obtain ⟨z1, z2⟩ := g6 z
                refine ⟨z1, fun kk hkk => ?_⟩
                rw [z2 kk hkk, mI_f (by omega)]
                exact rowe kk
            · have n6 : ¬ c (175 + 9 * s) = 6 := fun z => b6 (ck6.mp z)
              rw [if_neg n6]
              have nbl : ∃ m', c (183 + 9 * s) = nI (s + 1) ∧ seg M0 y c F m' (s + 1) t (r + 1) r' := by
                rcases hb with ⟨-, ec, h⟩ | ⟨zb, -⟩
                · exact ⟨m, ec, h⟩
                · exact absurd zb (by rintro (z | z); exact n5 z; exact n6 z)
              obtain ⟨m', ec, h⟩ := nbl
              by_cases b7 : k = 7
              · have k29 : mI (sI N L 0 (nI (X.2.1 + 1))) (y + 1) r = 29 := by
                  rw [mI_o (by have h2 := E.2.2.2.1; omega), E.row FN (by omega) (by omega), hkw, b7]
                  rfl
                have v2 : mI (sI N L 0 (nI (X.2.1 + 1))) y 2 = nI R := by
                  rw [mI_o (by have h2 := E.2.2.2.1; omega), E.row FN (by omega) (by omega)]
                  exact E.2.2.2.2.1
                have hst2 : f_X2_doStep (sI N L 0 (nI (X.2.1 + 1))) (some L) (some a) (some y) (nI r) = some (nI R, sI N L 0 (nI (X.2.1 + 1))) := by
                  unfold f_X2_doStep
                  rw [yr_4 Y0, yr_a2 Y0 r60, yr_3 Y0, yr_a1 Y0 r60, k29, if_neg (by decide), if_neg (by decide), if_neg (by decide), if_neg (by decide), if_neg (by decide), if_neg (by decide), if_neg (by decide), if_neg (by decide), if_neg (by decide), if_neg (by decide), yr_gI Y0, v2]
                have C1 : CfX M0 L a (X.1, X.2.1 + 1, 1) (sI N L 0 (nI (X.2.1 + 1))) := by
                  unfold CfX
                  rw [if_neg (show ¬ (1 : Nat) = 2 by decide)]
                  exact C0
                rw [if_pos (ck7.mpr b7)]
                refine ⟨_, s + 1, r + 1, na_of ec (by omega), ⟨m', h⟩, by omega, ⟨1, _, R, rn_step E C h300 rR kw28 hst2, C1, W1 1 (by omega), Nat.le_succ _, ?_, fun z => absurd z (by decide : ¬ (1 : Nat) = 0), fun _ => rfl⟩, by rw [na_of ec (by omega)]⟩
                show 1 + 100 * X.2.1 ≤ 100 * (X.2.1 + 1) + 0 + _
                omega
              · have n7 : ¬ c (175 + 9 * s) = 7 := fun z => b7 (ck7.mp z)
                have nk : ¬ (c (175 + 9 * s) = 5 ∨ c (175 + 9 * s) = 6 ∨ c (175 + 9 * s) = 7) := by
                  rintro (z | z | z)
                  · exact n5 z
                  · exact n6 z
                  · exact n7 z
                obtain ⟨N1, f1, C1, rr⟩ := p_step H0 Y0 hae C0 W.1 r60 stN nk
                rw [if_neg n7]
                refine ⟨_, s + 1, r + 1, na_of ec (by omega), ⟨m', h⟩, by omega, ⟨1, N1, r + 1, rn_step E C h300 rR kw28 f1, mk _ _ _ C1, ⟨LW_S W.1 hS nk, show X.2.1 + 1 ≤ 300 by omega, Nat.zero_le _⟩, Nat.le_succ _, ?_, fun _ => ⟨rfl, fun kk _ => by rw [rr]; exact rowe kk⟩, fun z => absurd rfl z⟩, by rw [na_of ec (by omega)]⟩
                show 1 + 100 * X.2.1 ≤ 100 * (X.2.1 + 1) + 0 + _
                omega
      obtain ⟨X1, e, r2, e1, ⟨m', h2⟩, hr2, ⟨j, N1, p, g1, g2, g3, g4, g5, g6, g7⟩, eb⟩ := one
      rw [eb]
      by_cases o1 : X1.2.2 = 0
      · obtain ⟨hp1, hrows⟩ := g6 o1
        subst hp1
        rw [if_pos o1] at g5
        obtain ⟨j2, N2, p2, d1, d2, d3, d4, d5, d6, d7⟩ := ih m' e t p r' ht hR h2 X1 N1 g3 o1 g2
        have hle2 := seg_le _ _ _ _ _ _ h2
        refine ⟨j + j2, N2, p2, g1.tr d1, d2, d3, by omega, by omega, fun z => ?_, d7⟩
        obtain ⟨z1, z2⟩ := d6 z
        refine ⟨z1, fun kk hkk => ?_⟩
        rw [z2 kk (by omega), hrows kk (by omega)]
      · rw [big_ov o1]
        exact ⟨j, N1, p, g1, g2, g3, g4, g5, fun z => absurd z o1, g7⟩
theorem p_run {M : Mm} (S : shO M a c) (H : lfL M L) (Y : yrL M y) (h1 : a + 31 ≤ y) (h2 : y + 6 ≤ L) (hR : mI M y 2 = nI R) (R60 : R ≤ 60) (h9 : na c 4 ≤ 9999) {seed T : Nat} (hs : seed ≤ 9999 + 20) (hT : T ≤ 30) (hseg : seg M y c 91 3 0 T 0 R) : ∃ N, f_X2_run M (some L) (some a) (some y) (nI seed) = some N ∧ CfX M L a (big c 91 0 T (Lv0 c seed)) N := by
  have E : EnvY M L a y R := ⟨H, Y, h1, h2, hR, R60⟩
  obtain ⟨N0, hN0⟩ : ∃ N0, sI (sI (sI (sI (sI (sI (sI M L 0 0) L 1 0) L 2 0) L 3 0) L 4 0) L 5 0) L 6 (nI seed) = N0 := ⟨_, rfl⟩
  have S0 : shO N0 a c := by
    rw [← hN0]
    refine shO_same S rfl rfl fun z z1 z2 => ?_
    rw [mI_o (by omega), mI_o (by omega), mI_o (by omega), mI_o (by omega), mI_o (by omega), mI_o (by omega), mI_o (by omega)]
  have C0 : CfX M L a (Lv0 c seed) N0 := by
    unfold CfX Lv0
    rw [if_neg (show ¬ (0 : Nat) = 2 by decide)]
    refine ⟨?_, S0, ?_, ?_, ?_, ?_, ?_, ?_, ?_⟩
    · rw [← hN0]
      exact ((((((FS.rf.sI (P := CfP L a) (Or.inr (Or.inl rfl)) _ _).sI (Or.inr (Or.inl rfl)) _ _).sI (Or.inr (Or.inl rfl)) _ _).sI (Or.inr (Or.inl rfl)) _ _).sI (Or.inr (Or.inl rfl)) _ _).sI (Or.inr (Or.inl rfl)) _ _).sI (Or.inr (Or.inl rfl)) _ _
    all_goals rw [← hN0]
    · rw [mI_f (by decide), mI_f (by decide), mI_f (by decide), mI_f (by decide), mI_f (by decide), mI_f (by decide), mI_sI_s]; rfl
    · rw [mI_f (by decide), mI_f (by decide), mI_f (by decide), mI_f (by decide), mI_f (by decide), mI_sI_s]
    · rw [mI_f (by decide), mI_f (by decide), mI_f (by decide), mI_f (by decide), mI_sI_s]
    · rw [mI_f (by decide), mI_f (by decide), mI_f (by decide), mI_sI_s]
    · rw [mI_f (by decide), mI_f (by decide), mI_sI_s]
    · rw [mI_f (by decide), mI_sI_s]; rfl
    · rw [mI_sI_s]
  have W0 : LvOX c (Lv0 c seed) := ⟨⟨S.2.2, fun _ _ => rfl, h9, show seed < 65536 by omega⟩, Nat.zero_le _, Nat.zero_le _⟩
  obtain ⟨j, N, p, g1, g2, g3, g4, g5, g6, g7⟩ := p_sim E 91 3 0 T 0 R hT (Nat.le_refl _) hseg (Lv0 c seed) N0 W0 rfl C0
  have hj : j ≤ 30001 := by
    have e : (Lv0 c seed).2.1 = 0 := rfl
    have h3 := g3.2.1
    have h4 : (if (big c 91 0 T (Lv0 c seed)).2.2 = 0 then 0 else 1) ≤ 1 := by
      by_cases z : (big c 91 0 T (Lv0 c seed)).2.2 = 0
      · rw [if_pos z]; omega
      · rw [if_neg z]; omega
    omega
  have hp : p = R := by
    by_cases z : (big c 91 0 T (Lv0 c seed)).2.2 = 0
    · exact (g6 z).1
    · exact g7 z
  subst hp
  refine ⟨N, ?_, g2⟩
  unfold f_X2_run
  rw [lf_pI H, lf_pI (N := sI M L 0 0) H, lf_pI (N := sI (sI M L 0 0) L 1 0) H, lf_pI (N := sI (sI (sI M L 0 0) L 1 0) L 2 0) H, lf_pI (N := sI (sI (sI (sI M L 0 0) L 1 0) L 2 0) L 3 0) H, lf_pI (N := sI (sI (sI (sI (sI M L 0 0) L 1 0) L 2 0) L 3 0) L 4 0) H, lf_pI (N := sI (sI (sI (sI (sI (sI M L 0 0) L 1 0) L 2 0) L 3 0) L 4 0) L 5 0) H, hN0]
  have e := g1 (fu - j) 0 (by omega)
  rw [show fu - j + j = fu by unfold fu; omega] at e
  have YN := FS_yr g2.1 Y
  have r0 := E.row g2.1 (z := y) (by omega) (by omega)
  show f_X2_run_41 fu N0 (some L) (some a) (some y) (nI 0) (nI 0) = _
  rw [e, show fu - j = (fu - j - 1) + 1 by unfold fu; omega, f_X2_run_41, if_neg (by rw [show (1000000 : Int32) = nI 1000000 from rfl, nI_leI' (by omega) (by omega)]; omega), yr_gI YN, r0, hR, if_pos (Int32.le_refl _)]
end C
