/-! MEAN -/
def wk1 (f : Nat → Int32) : Nat := wofN f (st (fun h => f (61 + h) = 1) (hN f))
def wkT (c : Nat → Int32) (T seed i : Nat) : Nat := wk1 (big c 91 0 T (Lv0 c (seed + i))).1.1
theorem wk1_nI {f : Nat → Int32} (O : okC f) : wst f 1 = nI (wk1 f) ∧ wk1 f ≤ 7992 := by
  rw [wst1 O]
  exact wof_nI O _
theorem wkT_le {c : Nat → Int32} {T seed n : Nat} (h : ∀ i, i < n → okC (big c 91 0 T (Lv0 c (seed + i))).1.1) : smN (wkT c T seed) n ≤ 7992 * n := smN_le fun i hi => (wk1_nI (h i hi)).2
def FMs (P : Nat → Prop) (M N : Mm) : Prop := mK N = mK M ∧ mR N = mR M ∧ mT N = mT M ∧ ∀ x, ¬ P x → mI N x = mI M x ∧ mL N x = mL M x
theorem FMs.tr {P : Nat → Prop} {M N N' : Mm} (h : FMs P M N) (h2 : FMs P N N') : FMs P M N' := ⟨h2.1.trans h.1, h2.2.1.trans h.2.1, h2.2.2.1.trans h.2.2.1, fun x hx => ⟨(h2.2.2.2 x hx).1.trans (h.2.2.2 x hx).1, (h2.2.2.2 x hx).2.trans (h.2.2.2 x hx).2⟩⟩
def PMb (b z : Nat) : Prop := (b ≤ z ∧ z < b + 31) ∨ z = 94 ∨ z = 95
section Me
variable {M : Mm} {a b y z T R : Nat} {c : Nat → Int32}
theorem big_ok (hL : LL M a b y z) (S : shO M a c) (yR : mI M y 2 = nI R) (R60 : R ≤ 60) (hT : T ≤ 30) (h9 : na c 4 ≤ 9999) (hseg : seg M y c 91 3 0 T 0 R) {seed : Nat} (hs : seed ≤ 9999 + 20) (h174 : c 174 = nI T) (D : md M c) : LvOX c (big c 91 0 T (Lv0 c seed)) := by
  obtain ⟨N, -, -, h⟩ := q_runs D S.2.2 h9 (seed := seed) (N := T) hs hT h174 hseg
  exact h
theorem c_mean60 (hL : LL M a b y z) (S : shO M a c) (D : md M c) (yR : mI M y 2 = nI R) (R60 : R ≤ 60) (hT : T ≤ 30) (h174 : c 174 = nI T) (h9 : na c 4 ≤ 9999) (hseg : seg M y c 91 3 0 T 0 R) {seed many : Nat} (h1 : seed + many ≤ 10000) (hm : many ≤ 20) : ∃ N, f_X11_mean_60 fu M (some 0) (nI seed) (nI many) 0 0 = (ck N (some 0) 11 <| bd (f_X11_tellFraction N (some 0) (Int32.toInt64 (nI (smN (wkT c T seed) many))) (Int32.toInt64 (nI many))) fun v124 M124 => some (v124, M124)) ∧ FMs (PMb b) M N := by
  have O := S.2.2
  have ha := ll_a hL
  have hb := ll_b hL
  have hy := ll_y hL
  refine lupE0 (fun f N k => f_X11_mean_60 f N (some 0) (nI seed) (nI many) (nI (smN (wkT c T seed) k)) (nI k)) (fun k N => FMs (PMb b) M N) many (fun N => ck N (some 0) 11 <| bd (f_X11_tellFraction N (some 0) (Int32.toInt64 (nI (smN (wkT c T seed) many))) (Int32.toInt64 (nI many))) fun v124 M124 => some (v124, M124)) (by omega) (fun f k N hk hI => ?_) (fun f N hI => ?_) M ⟨rfl, rfl, rfl, fun _ _ => ⟨rfl, rfl⟩⟩
  · have hLN : LL N a b y z := LL_same hL hI.1 hI.2.1 hI.2.2.1
    have SN : shO N a c := shO_same S hI.1 hI.2.1 fun x x1 x2 => (hI.2.2.2 x (by unfold PMb; omega)).1
    obtain ⟨N1, e1, S1, F1, -⟩ := p_copy SN (ll_sb hLN) hb.2
    have hL1 : LL N1 a b y z := LL_same hLN F1.1 F1.2.1 F1.2.2.1
    have rows : ∀ x, y ≤ x → x < y + 6 → mI N1 x = mI M x := fun x x1 x2 => (F1.2.2.2 x (by omega)).1.trans (hI.2.2.2 x (by unfold PMb; omega)).1
    have hseg1 : seg N1 y c 91 3 0 T 0 R := seg_same rows rfl rfl (fun _ _ => rfl) _ _ _ _ _ _ hseg
    obtain ⟨N2, e2, C2⟩ := p_run S1 (ll_94 hL1) (ll_yy hL1) (by omega) (by omega) (by rw [rows y (by omega) (by omega)]; exact yR) R60 h9 (seed := seed + k) (T := T) (by omega) hT hseg1
    have F2 := C2.1
    have hL2 : LL N2 a b y z := LL_same hL1 F2.1 F2.2.2.1 F2.2.2.2.1
    have S2 := C2.2.1
    have ew := (wk1_nI S2.2.2).1
    rw [wst1 S2.2.2] at ew
    refine ⟨N2, ?_, hI.tr ⟨F2.1.trans F1.1, F2.2.2.1.trans F1.2.1, F2.2.2.2.1.trans F1.2.2.1, fun x hx => ?_⟩⟩
    · rw [f_X11_mean_60, if_neg (by rw [nI_leI' (by omega) (by omega)]; omega), c_dr hLN, c_sh hLN, lc_s (ll_sb hLN), e1, bv_s, c_l2 hL1, c_dr hL1, c_yr hL1, lf_ck (ll_94 hL1), nI_add, e2, bv_s, c_dr hL2, c_dr hL2, lc_s S2.1, p_standing S2, bd_s, lc_s S2.1, p_worth S2, bd_s, ew, nI_add, nmI_s, nI_1]
      rfl
    · unfold PMb at hx
      rw [F2.2.2.2.2 x (by unfold CfP; omega), F2.2.1]
      exact F1.2.2.2 x (by omega)
  · rw [f_X11_mean_60, if_pos (Int32.le_refl _)]
def IM (B : Mm) (c : Nat → Int32) (N : Mm) : Prop := FS PfR B N ∧ mI N 212 = c ∧ ∀ k, (k < 26 ∨ (26 < k ∧ k < 37) ∨ 44 < k) → mI N 207 k = mI B 207 k
theorem m_mean70 {B : Mm} (D : md B c) (O : okC c) (h9 : na c 4 ≤ 9999) (hk : ∀ k, k < 173 → mI B 213 k = c k) (hT : T ≤ 30) (h174 : c 174 = nI T) {My : Mm} (hseg : seg My y c 91 3 0 T 0 R) {seed many : Nat} (h1 : seed + many ≤ 10000) (hm : many ≤ 20) : ∃ N, f_X12_mean_70 fu B (some 207) (nI seed) (nI many) (lN 0) 0 = (ck N (some 207) 12 <| bd (f_X12_fraction N (some 207) (lN (smN (wkT c T seed) many)) (Int32.toInt64 (nI many))) fun v107 M107 => some (v107, M107)) ∧ IM B c N := by
  refine lupE0 (fun f N k => f_X12_mean_70 f N (some 207) (nI seed) (nI many) (lN (smN (wkT c T seed) k)) (nI k)) (fun k N => IM B c N) many (fun N => ck N (some 207) 12 <| bd (f_X12_fraction N (some 207) (lN (smN (wkT c T seed) many)) (Int32.toInt64 (nI many))) fun v107 M107 => some (v107, M107)) (by omega) (fun f k N hk2 hI => ?_) (fun f N hI => ?_) B ⟨FS.rf, D.2, fun _ _ => rfl⟩
  · have DN : md N c := ⟨hI.1.mdl D.1, hI.2.1⟩
    obtain ⟨N1, e1, R1, W1⟩ := q_runs DN O h9 (seed := seed + k) (N := T) (by omega) hT h174 hseg
    obtain ⟨X, hX⟩ : ∃ X, big c 91 0 T (Lv0 c (seed + k)) = X := ⟨_, rfl⟩
    rw [hX] at R1 W1
    have D1 := R1.md DN.1
    have ew := (wk1_nI W1.1.1)
    have qg := q_gives D1.1 X.1.1
    rw [R1.eta] at qg
    have g213 : mI N1 213 = mI B 213 := (R1.1.2.2.2.2 213 (by unfold PfR; omega)).trans (hI.1.2.2.2.2 213 (by unfold PfR; omega))
    have ec : (fun k => if k < 173 then mI N1 213 k else X.1.1 k) = c := by
      funext j
      by_cases z : j < 173
      · rw [if_pos z, g213]
        exact hk j z
      · rw [if_neg z]
        exact W1.1.2.1 j (by omega)
    rw [ec] at qg
    have ek : wkT c T seed k = wk1 X.1.1 := by
      unfold wkT
      rw [hX]
    refine ⟨sA N1 212 c, ?_, (hI.1.tr R1.1).sa (Or.inr rfl) c, mI_sA_s _ _ _, fun j hj => ?_⟩
    · rw [f_X12_mean_70, if_neg (by rw [nI_leI' (by omega) (by omega)]; omega), m_ck DN.1, nI_add, e1, bv_s, m_ck D1.1, q_worthOf D1 W1.1.1, bd_s, ew.1, lI (by have := ew.2; omega), lN_add, nmL_s, m_ck D1.1, qg, bv_s, nI_1, smN, ek]
    · rw [mI_sA_o _ _ (by decide), R1.2.2.2.2.2.2.2.2.2.2 j hj]
      exact hI.2.2 j hj
  · rw [f_X12_mean_70, if_pos (Int32.le_refl _)]
end Me
theorem op_mean (x w : Int32) : opI (fun M => f_X11_mean M (some 0) x w) (fun M => f_X12_mean M (some 207) x w) := by
  intro M hR
  obtain ⟨a, b, y, z, H⟩ := id hR
  have hL := H.1
  have S := H.2.1
  have O := S.2.2
  have h8 := (ok_h O).2
  have ha := ll_a hL
  have hb := ll_b hL
  have hy := ll_y hL
  have Y := ll_yy hL
  have D5 := pre_md hL 5
  have refuse5 : ∀ (h1 : f_X11_mean M (some 0) x w = some (0, sI M 0 0 5)) (h2 : f_X12_mean (sI M 0 0 5) (some 207) x w = some (0, stM M 5)), ∃ r M1 M2, (fun M => f_X11_mean M (some 0) x w) M = some (r, M1) ∧ (fun M => f_X12_mean M (some 207) x w) M1 = some (r, M2) ∧ RR M2 := fun h1 h2 => ⟨0, _, _, h1, h2, RR_st hR 5⟩
  have c32 : f_X11_mean_32 M (some 0) = some (0, sI M 0 0 5) := by
    unfold f_X11_mean_32
    rw [c_ck hL, c_no hL, bd_s]
  have m37 : f_X12_mean_37 (pre M 5) (some 207) = some (0, stM M 5) := by
    unfold f_X12_mean_37
    rw [m_ck D5.1, m_no hL, bd_s]
    rfl
  by_cases qw : 1 ≤ w ∧ w ≤ 20
  · obtain ⟨many, hmany, rfl⟩ := rng (n := 20) (by decide) ⟨Int32.le_trans (by decide) qw.1, qw.2⟩
    have m1 : 1 ≤ many := by
      have := qw.1
      rw [show (1 : Int32) = nI 1 from rfl, nI_leI' (by omega) (by omega)] at this
      exact this
    have e10 : 10000 - nI many = nI (10000 - many) := by
      rw [show (10000 : Int32) = nI 10000 from rfl, nI_sub (by omega)]
    by_cases qx : 0 ≤ x ∧ x ≤ 9999
    · obtain ⟨seed, hs, rfl⟩ := rng (n := 9999) (by decide) qx
      by_cases q3 : seed + many ≤ 10000
      · have qy : 0 ≤ nI seed ∧ nI seed ≤ nI (10000 - many) := ⟨qx.1, by rw [nI_leI' (by omega) (by omega)]; omega⟩
        have q4 : nI seed + nI many - 1 ≤ 9999 := by
          rw [nI_add, show (1 : Int32) = nI 1 from rfl, nI_sub (by omega), show (9999 : Int32) = nI 9999 from rfl, nI_leI' (by omega) (by omega)]
          omega
        have hyr := H.2.2.2.2.2.2.2.2.1
        obtain ⟨y0, hyr⟩ := hyr
        rcases hyr with c0 | ⟨c1, T, R, hT, R60, yT, cT, yR, hseg⟩
        · refine ⟨0, sI M 0 0 8, stM M 8, ?_, ?_, RR_st hR 8⟩
          · dsimp only
            unfold f_X11_mean g_X11_mean
            rw [q_within, bd_s, if_pos qx, if_neg (by decide), q_within, bd_s, if_pos qw, if_neg (by decide), if_pos q4, c_yr hL, yr_gI Y, y0, if_pos c0, c_ck hL, c_no hL, bd_s, zc0]
          · have D := pre_md hL 8
            dsimp only
            unfold f_X12_mean g_X12_mean
            rw [m_pre hL, e10]
            simp (disch := omega) only [↓q_isIn, j0, j1, u1, u3, u4, u5, u8, u9, u20, u60, u99, u100, u240, u9999, ite01z, not_true_eq_false, not_false_eq_true, if_true, if_false, z10, ul, eq_true qw, eq_true qy, ↓bd_s]
            rw [m_r20 D.1, m_c173 D, if_pos c0, m_ck D.1, m_no hL, bd_s, zc0]
            rfl
        · have n0 : ¬ mI M 212 173 = 0 := by rw [c1]; decide
          have h9 := H.2.2.1.1
          have DM : md M (mI M 212) := ⟨hL.2.2.1, rfl⟩
          obtain ⟨N1, e1, F1⟩ := c_mean60 hL S DM yR R60 hT cT h9 hseg q3 hmany
          have hsum : smN (wkT (mI M 212) T seed) many ≤ 7992 * many := wkT_le fun i hi => (big_ok hL S yR R60 hT h9 hseg (seed := seed + i) (by omega) cT DM).1.1
          have H1 : RA N1 a b y z := RA_out H (LL_same hL F1.1 F1.2.1 F1.2.2.1) fun v hv => by
            unfold scr at hv
            exact ⟨(F1.2.2.2 v (by unfold PMb; omega)).1, (F1.2.2.2 v (by unfold PMb; omega)).2, by rw [F1.1], by rw [F1.2.1]⟩
          have hL1 := H1.1
          obtain ⟨W, hW⟩ : ∃ W, smN (wkT (mI M 212) T seed) many = W := ⟨_, rfl⟩
          rw [hW] at e1 hsum
          have ct := c_frac hL1 (ab_n (n := W) (by omega)) (by omega) m1 (show many < 2 ^ 31 by omega)
          obtain ⟨u, hu⟩ : ∃ u, frT (lN W) W many = u := ⟨_, rfl⟩
          obtain ⟨v, hv⟩ : ∃ v, frB W many = v := ⟨_, rfl⟩
          rw [hu, hv] at ct
          have hF0 : LL (sL (sL N1 0 1 u) 0 2 v) a b y z := LL_same hL1 rfl rfl rfl
          have nI0 : mI (sL (sL N1 0 1 u) 0 2 v) = mI N1 := rfl
          have nK0 : mK (sL (sL N1 0 1 u) 0 2 v) = mK N1 := rfl
          have nR0 : mR (sL (sL N1 0 1 u) 0 2 v) = mR N1 := rfl
          have nT0 : mT (sL (sL N1 0 1 u) 0 2 v) = mT N1 := rfl
          obtain ⟨N, hN⟩ : ∃ N, sL (sL N1 0 1 u) 0 2 v = N := ⟨_, rfl⟩
          rw [hN] at ct hF0 nI0 nK0 nR0 nT0
          have i1 : mI N1 212 = mI M 212 := (F1.2.2.2 212 (by unfold PMb; omega)).1
          have DP := pre_md hF0 0
          rw [nI0, i1] at DP
          have kq := q_keeps DP
          obtain ⟨kf, hkf⟩ : ∃ kf, (fun k => if k < 173 then mI M 212 k else mI (pre N 0) 213 k) = kf := ⟨_, rfl⟩
          have kf1 : ∀ k, k < 173 → kf k = mI M 212 k := fun k hk => by rw [← hkf]; exact if_pos hk
          rw [hkf] at kq
          have DB : md (sA (pre N 0) 213 kf) (mI M 212) := md_sAo DP (by decide)
          obtain ⟨N3, e3, I3⟩ := m_mean70 DB O h9 (fun k hk => by rw [mI_sA_s]; exact kf1 k hk) hT cT hseg q3 hmany
          rw [hW] at e3
          have D3 : mdL N3 := I3.1.mdl DB.1
          have mf := m_frac D3 (ab_n (n := W) (by omega)) (by omega) m1 (show many < 2 ^ 31 by omega)
          rw [hu, hv] at mf
          have pX : ∀ r, r ≠ 0 → r ≠ 207 → mI (pre N 0) r = mI N1 r := fun r h1 h2 => by
            unfold pre
            rw [mI_o h2, mI_o h2, mI_o h1, nI0]
          refine ⟨1, sI N 0 0 0, sL (sL N3 207 2 u) 207 3 v, ?_, ?_, RR_fr (X := N3) H1 u v ?_ ?_ ?_ ?_ (fun r h1 h2 h3 => ?_) (fun k hk => ?_) (fun k hk => ?_) ?_⟩
          · dsimp only
            unfold f_X11_mean g_X11_mean
            rw [q_within, bd_s, if_pos qx, if_neg (by decide), q_within, bd_s, if_pos qw, if_neg (by decide), if_pos q4, c_yr hL, yr_gI Y, y0, if_neg n0, e1, c_ck hL1, lI (by omega), lI (by omega), ct, bd_s, zc1]
          · dsimp only
            unfold f_X12_mean g_X12_mean
            rw [m_pre hF0, e10]
            simp (disch := omega) only [↓q_isIn, j0, j1, u1, u3, u4, u5, u8, u9, u20, u60, u99, u100, u240, u9999, ite01z, not_true_eq_false, not_false_eq_true, if_true, if_false, z10, ul, eq_true qw, eq_true qy, ↓bd_s]
            rw [m_r20 DP.1, m_c173 DP, if_neg n0, m_ck DP.1, kq, bv_s, show (0 : Int64) = lN 0 from rfl, e3, m_ck D3, lI (by omega), mf, bd_s, zc1]
          · exact I3.1.1.trans nK0
          · exact I3.1.2.2.1.trans nR0
          · exact I3.1.2.2.2.1.trans nT0
          · rw [I3.1.2.1, hN]
            rfl
          · by_cases e212 : r = 212
            · rw [e212, I3.2.1, i1]
            · rw [I3.1.2.2.2.2 r (by unfold PfR; omega), mI_sA_o _ _ h3, pX r h1 h2]
          · rw [I3.1.2.2.2.2 0 (by unfold PfR; omega), mI_sA_o _ _ (by decide)]
            unfold pre
            rw [mI_o (by decide), mI_o (by decide), mI_f hk, nI0]
          · rw [I3.2.2 k (by omega), mI_sA_o _ _ (by decide)]
            unfold pre
            rw [mI_f (by omega), mI_f (by omega), mI_o (by decide), nI0]
          · rw [I3.1.2.2.2.2 0 (by unfold PfR; omega), I3.2.2 0 (by omega), mI_sA_o _ _ (by decide), mI_sA_o _ _ (by decide)]
            unfold pre
            rw [mI_o (by decide), mI_o (by decide), mI_sI_s, mI_sI_s]
      · have qy : ¬ (0 ≤ nI seed ∧ nI seed ≤ nI (10000 - many)) := fun z => by
          have := z.2
          rw [nI_leI' (by omega) (by omega)] at this
          omega
        have q4 : ¬ nI seed + nI many - 1 ≤ 9999 := by
          rw [nI_add, show (1 : Int32) = nI 1 from rfl, nI_sub (by omega), show (9999 : Int32) = nI 9999 from rfl, nI_leI' (by omega) (by omega)]
          omega
        refine refuse5 ?_ ?_
        · unfold f_X11_mean g_X11_mean
          rw [q_within, bd_s, if_pos qx, if_neg (by decide), q_within, bd_s, if_pos qw, if_neg (by decide), if_neg q4, c32, zc0]
        · unfold f_X12_mean g_X12_mean
          rw [m_pre hL, e10]
          simp (disch := omega) only [↓q_isIn, j0, j1, u1, u3, u4, u5, u8, u9, u20, u60, u99, u100, u240, u9999, ite01z, not_true_eq_false, not_false_eq_true, if_true, if_false, z10, ul, eq_true qw, eq_false qy, ↓bd_s]
          rw [m37, zc0]
    · have qy : ¬ (0 ≤ x ∧ x ≤ nI (10000 - many)) := fun z => qx ⟨z.1, Int32.le_trans z.2 (by rw [show (9999 : Int32) = nI 9999 from rfl, nI_leI' (by omega) (by omega)]; omega)⟩
      refine refuse5 ?_ ?_
      · unfold f_X11_mean g_X11_mean
        rw [q_within, bd_s, if_neg qx, if_pos rfl, c32, zc0]
      · unfold f_X12_mean g_X12_mean
        rw [m_pre hL, e10]
        simp (disch := omega) only [↓q_isIn, j0, j1, u1, u3, u4, u5, u8, u9, u20, u60, u99, u100, u240, u9999, ite01z, not_true_eq_false, not_false_eq_true, if_true, if_false, z10, ul, eq_true qw, eq_false qy, ↓bd_s]
        rw [m37, zc0]
  · refine refuse5 ?_ ?_
    · unfold f_X11_mean g_X11_mean
      rw [q_within, bd_s]
      by_cases qx : 0 ≤ x ∧ x ≤ 9999
      · rw [if_pos qx, if_neg (by decide), q_within, bd_s, if_neg qw, if_pos rfl, c32, zc0]
      · rw [if_neg qx, if_pos rfl, c32, zc0]
    · unfold f_X12_mean g_X12_mean
      rw [m_pre hL]
      simp (disch := omega) only [↓q_isIn, j0, j1, u1, u3, u4, u5, u8, u9, u20, u60, u99, u100, u240, u9999, ite01z, not_true_eq_false, not_false_eq_true, if_true, if_false, z10, eq_false qw, ↓bd_s]
      rw [m37, zc0]
