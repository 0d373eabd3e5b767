/-! LIVE, MEAN -/
theorem RA_lv {M M' : Mm} {a b y z : Nat} (H : RA M a b y z) (hK : mK M' = mK M) (hL' : mL M' = mL M) (hRf : mR M' = mR M) (hT : mT M' = mT M) (hI : ∀ x, (x < a ∨ a + 31 ≤ x) → x ≠ 0 → x ≠ 207 → x ≠ 212 → x ≠ 92 → x ≠ 93 → x ≠ 220 → mI M' x = mI M x) (a0 : ∀ k, k ≠ 0 → k ≠ 18 → mI M' 0 k = mI M 0 k) (a7 : ∀ k, k = 8 ∨ k = 10 ∨ k = 11 ∨ k = 23 ∨ k = 30 ∨ k = 33 → mI M' 207 k = mI M 207 k) (a2 : ∀ k, k < 3 ∨ 173 ≤ k → mI M' 212 k = mI M 212 k) (hs : mI M' 0 0 = mI M' 207 0) (S : shO M' a (mI M' 212)) (h9 : na (mI M' 212) 4 ≤ 9999) (hli : rLi M') : RA M' a b y z := by
  obtain ⟨hL, hS, hN, h0, h1, h2, h3, h4, h5, h6, h7, h8⟩ := H
  have ha := ll_a hL
  have hy := ll_y hL
  have aI : ∀ x, x ≠ 0 → x ≠ 207 → x ≠ 212 → (x < a ∨ a + 31 ≤ x) → (x < 92 ∨ 94 ≤ x) → x ≠ 220 → mI M' x = mI M x := fun x x1 x2 x3 x4 x5 x6 => hI x x4 x1 x2 x3 (by omega) (by omega) x6
  have ecb : ∀ i, cb M' (i + 1) = cb M (i + 1) := fun i => funext fun k => a2 _ (by omega)
  refine ⟨LL_same hL hK hRf hT, S, rNm_same hN hL' (a2 0 (by omega)) (a2 1 (by omega)) (a2 2 (by omega)) h9, hs, ?_, ?_, ?_, ?_, ?_, ?_, ?_, hli⟩
  · unfold rFr at *; rw [hL']; exact h1
  · unfold rFa at *; rw [a0 3 (by omega) (by omega), a0 4 (by omega) (by omega), a7 10 (by omega), a7 11 (by omega)]; exact h2
  · unfold rTp at *; rw [hL', aI 1 (by omega) (by omega) (by omega) (by omega) (by omega) (by omega), aI 2 (by omega) (by omega) (by omega) (by omega) (by omega) (by omega), aI 211 (by omega) (by omega) (by omega) (by omega) (by omega) (by omega), a7 8 (by omega)]; exact h3
  · unfold rTy at *; rw [hL', aI 11 (by omega) (by omega) (by omega) (by omega) (by omega) (by omega), aI 10 (by omega) (by omega) (by omega) (by omega) (by omega) (by omega), aI 209 (by omega) (by omega) (by omega) (by omega) (by omega) (by omega), aI 208 (by omega) (by omega) (by omega) (by omega) (by omega) (by omega)]; exact h4
  · exact rYr_same (fun x x1 x2 => aI x (by omega) (by omega) (by omega) (by omega) (by omega) (by omega)) (a2 0 (by omega)) (a2 1 (by omega)) (fun k hk => a2 k (by omega)) h5
  · obtain ⟨n, n3, e1, e2, hm⟩ := h6
    refine ⟨n, n3, by rw [a0 13 (by omega) (by omega)]; exact e1, by rw [a7 23 (by omega)]; exact e2, fun i hi => ?_⟩
    obtain ⟨m1, m2, m3⟩ := hm i hi
    rw [ecb i]
    refine ⟨shO_same m1 hK hRf (fun x x1 x2 => aI x (by omega) (by omega) (by omega) (by omega) (by omega) (by omega)), rNm_same m2 hL' rfl rfl rfl m2.1, rYr_same (fun x x1 x2 => aI x (by omega) (by omega) (by omega) (by omega) (by omega) (by omega)) rfl rfl (fun k hk => rfl) m3⟩
  · unfold rPl at *; rw [a0 15 (by omega) (by omega), a7 30 (by omega), a7 33 (by omega), aI 88 (by omega) (by omega) (by omega) (by omega) (by omega) (by omega), aI 89 (by omega) (by omega) (by omega) (by omega) (by omega) (by omega), aI 218 (by omega) (by omega) (by omega) (by omega) (by omega) (by omega)]; exact h7
theorem ll_92 {M : Mm} {a b y z : Nat} (H : LL M a b y z) : lfL M 92 := ⟨H.1.2.2.2.2.2.2.1, H.1.2.2.2.2.2.2.2.1, H.1.2.2.2.2.2.2.2.2.1⟩
theorem ll_94 {M : Mm} {a b y z : Nat} (H : LL M a b y z) : lfL M 94 := ⟨H.1.2.2.2.2.2.2.2.2.2.1, H.1.2.2.2.2.2.2.2.2.2.2.1, H.1.2.2.2.2.2.2.2.2.2.2.2⟩
section R
variable {ρ : Type} {M : Mm} {k : Nat}
theorem s220 (D : mdL M) (hk : k < 5) {v : Int32} {K : Mm → Option ρ} : asI M (some 220) 21 (nI k) v K = K (sI M 220 k v) := asI_s D.2.2.2.2.2.2.2.2.2.2.2.2.2.2 hk (by decide)
end R
/-- what was lived is told on -/
def told (N : Mm) (x : LvT) (lo : Nat) : Mm := sI (sI (sI (sI (sI (sI N 220 0 x.2.2.1) 220 1 x.2.2.2.1) 220 2 x.2.2.2.2.1) 220 3 x.2.2.2.2.2) 220 4 (nI lo)) 207 36 1
theorem op_live (x : Int32) : opI (fun M => f_X11_live M (some 0) x) (fun M => f_X12_live M (some 207) x) := by
  intro M hR
  obtain ⟨a, b, y, z, H⟩ := id hR
  have hL := H.1
  have S := H.2.1
  have O := S.2.2
  have h8 := (ok_h O).2
  have ha := ll_a hL
  have hy := ll_y hL
  have Y := ll_yy hL
  have hyr := H.2.2.2.2.2.2.2.2.1
  by_cases q : 0 ≤ x ∧ x ≤ 9999
  · obtain ⟨seed, hs, rfl⟩ := rng (n := 9999) (by decide) q
    obtain ⟨y0, hyr⟩ := hyr
    rcases hyr with c0 | ⟨c1, T, R, hT, R60, yT, cT, yR, hseg⟩
    · refine ⟨-1, sI M 0 0 8, stM M 8, ?_, ?_, RR_st hR 8⟩
      · dsimp only
        unfold f_X11_live
        rw [q_within, bd_s, if_pos q, if_neg (by decide), c_yr hL, yr_gI Y, y0, if_pos c0, c_ck hL, c_none hL, bd_s]
      · have D := pre_md hL 8
        dsimp only
        unfold f_X12_live
        rw [m_pre hL]
        simp (disch := omega) only [↓q_isIn, j0, j1, u1, u3, u4, u5, u8, u9, u20, u60, u99, u100, u240, u9999, ite01z, not_true_eq_false, not_false_eq_true, if_true, if_false, z10, eq_true q, ↓bd_s]
        rw [m_r20 D.1, m_c173 D, if_pos c0, m_ck D.1, m_refuse hL, bd_s]
        rfl
    · have n0 : ¬ mI M 212 173 = 0 := by rw [c1]; decide
      have h9 := H.2.2.1.1
      have H92 := ll_92 hL
      obtain ⟨N1, e1, C1⟩ := p_run S H92 Y (by omega) (by omega) yR R60 h9 (seed := seed) (T := T) (by omega) hT hseg
      obtain ⟨X, hX⟩ : ∃ X, big (mI M 212) 91 0 T (Lv0 (mI M 212) seed) = X := ⟨_, rfl⟩
      rw [hX] at C1
      have F1 := C1.1
      have hL1 : LL N1 a b y z := LL_same hL F1.1 F1.2.2.1 F1.2.2.2.1
      have hL2 : LL (sI N1 0 18 1) a b y z := LL_same hL1 rfl rfl rfl
      have H2 : lfL (sI N1 0 18 1) 92 := ll_92 hL2
      have i1 : mI (sI N1 0 18 1) 212 = mI M 212 := by
        rw [mI_o (by decide)]
        exact F1.2.2.2.2 212 (by unfold CfP; omega)
      have D := pre_md hL2 0
      rw [i1] at D
      obtain ⟨N3, e3, R3, W3⟩ := q_runs D O h9 (seed := seed) (N := T) (by omega) hT cT hseg
      rw [hX] at R3 W3
      have D3 := R3.md D.1
      have hx := W3.1
      refine ⟨nI X.2.1, sI (sI N1 0 18 1) 0 0 0, told N3 X.1 (if X.2.2 = 2 then 1 else 0), ?_, ?_, ⟨a, b, y, z, ?_⟩⟩
      · dsimp only
        unfold f_X11_live
        rw [q_within, bd_s, if_pos q, if_neg (by decide), c_yr hL, yr_gI Y, y0, if_neg n0, c_l1 hL, c_sh hL, c_yr hL, lf_ck H92, e1, bv_s, c_pZ hL1 (Or.inr rfl), c_l1 hL2, lf_gI H2, mI_o (by decide), C1.2.2.1, c_ck hL2, c_answer hL2, bd_s]
      · dsimp only
        unfold f_X12_live
        rw [m_pre hL2]
        simp (disch := omega) only [↓q_isIn, j0, j1, u1, u3, u4, u5, u8, u9, u20, u60, u99, u100, u240, u9999, ite01z, not_true_eq_false, not_false_eq_true, if_true, if_false, z10, eq_true q, ↓bd_s]
        have E1 : mdL (sI N3 220 0 X.1.2.2.1) := D3.1
        have E2 : mdL (sI (sI N3 220 0 X.1.2.2.1) 220 1 X.1.2.2.2.1) := D3.1
        have E3 : mdL (sI (sI (sI N3 220 0 X.1.2.2.1) 220 1 X.1.2.2.2.1) 220 2 X.1.2.2.2.2.1) := D3.1
        have E4 : mdL (sI (sI (sI (sI N3 220 0 X.1.2.2.1) 220 1 X.1.2.2.2.1) 220 2 X.1.2.2.2.2.1) 220 3 X.1.2.2.2.2.2) := D3.1
        have E5 : mdL (sI (sI (sI (sI (sI N3 220 0 X.1.2.2.1) 220 1 X.1.2.2.2.1) 220 2 X.1.2.2.2.2.1) 220 3 X.1.2.2.2.2.2) 220 4 (nI (if X.2.2 = 2 then 1 else 0))) := D3.1
        have E6 : mdL (told N3 X.1 (if X.2.2 = 2 then 1 else 0)) := D3.1
        have o7 : ∀ k, mI (sI N3 220 0 X.1.2.2.1) 207 k = mI N3 207 k ∧ mI (sI (sI N3 220 0 X.1.2.2.1) 220 1 X.1.2.2.2.1) 207 k = mI N3 207 k ∧ mI (sI (sI (sI N3 220 0 X.1.2.2.1) 220 1 X.1.2.2.2.1) 220 2 X.1.2.2.2.2.1) 207 k = mI N3 207 k ∧ mI (sI (sI (sI (sI N3 220 0 X.1.2.2.1) 220 1 X.1.2.2.2.1) 220 2 X.1.2.2.2.2.1) 220 3 X.1.2.2.2.2.2) 207 k = mI N3 207 k := fun k => ⟨by rw [mI_o (by decide)], by rw [mI_o (by decide), mI_o (by decide)], by rw [mI_o (by decide), mI_o (by decide), mI_o (by decide)], by rw [mI_o (by decide), mI_o (by decide), mI_o (by decide), mI_o (by decide)]⟩
        have o39 : mI (told N3 X.1 (if X.2.2 = 2 then 1 else 0)) 207 39 = nI X.2.1 := by
          unfold told
          rw [mI_f (by decide), mI_o (by decide), (o7 39).2.2.2]
          exact R3.2.2.2.1
        have z5 : ∀ {ρ : Type} {M : Mm} {v : Int32} {K : Mm → Option ρ}, mdL M → (asI M (some 220) 21 0 v K = K (sI M 220 0 v) ∧ asI M (some 220) 21 1 v K = K (sI M 220 1 v) ∧ asI M (some 220) 21 2 v K = K (sI M 220 2 v) ∧ asI M (some 220) 21 3 v K = K (sI M 220 3 v) ∧ asI M (some 220) 21 4 v K = K (sI M 220 4 v)) := fun D => ⟨s220 (k := 0) D (by decide), s220 (k := 1) D (by decide), s220 (k := 2) D (by decide), s220 (k := 3) D (by decide), s220 (k := 4) D (by decide)⟩
        rw [m_r20 D.1, m_c173 D, if_neg n0, m_ck D.1, e3, bv_s, m_r35 D3.1, m_gI D3.1, R3.2.2.2.2.1, (z5 D3.1).1, m_r35 E1, m_gI E1, (o7 41).1, R3.2.2.2.2.2.1, (z5 E1).2.1, m_r35 E2, m_gI E2, (o7 42).2.1, R3.2.2.2.2.2.2.1, (z5 E2).2.2.1, m_r35 E3, m_gI E3, (o7 43).2.2.1, R3.2.2.2.2.2.2.2.1, (z5 E3).2.2.2.1, m_r35 E4, m_gI E4, (o7 44).2.2.2, R3.2.2.2.2.2.2.2.2.2.1, (z5 E4).2.2.2.2, m_pZ E5 (Or.inr rfl)]
        show gfI (told N3 X.1 (if X.2.2 = 2 then 1 else 0)) (some 207) 12 39 _ = _
        rw [m_gI E6, o39]
        rfl
      · have G1 := R3.1
        have t12 : mI (told N3 X.1 (if X.2.2 = 2 then 1 else 0)) 212 = X.1.1 := by
          unfold told
          rw [mI_o (by decide), mI_o (by decide), mI_o (by decide), mI_o (by decide), mI_o (by decide), mI_o (by decide)]
          exact R3.2.1
        have tx : ∀ v, v ≠ 207 → v ≠ 220 → mI (told N3 X.1 (if X.2.2 = 2 then 1 else 0)) v = mI N3 v := fun v v1 v2 => by
          unfold told
          rw [mI_o v1, mI_o v2, mI_o v2, mI_o v2, mI_o v2, mI_o v2]
        have t7 : ∀ k, k ≠ 36 → mI (told N3 X.1 (if X.2.2 = 2 then 1 else 0)) 207 k = mI N3 207 k := fun k hk => by
          unfold told
          rw [mI_f hk, mI_o (by decide), mI_o (by decide), mI_o (by decide), mI_o (by decide), mI_o (by decide)]
        have px : ∀ v, v ≠ 0 → v ≠ 207 → v ≠ 212 → v ≠ 220 → mI (told N3 X.1 (if X.2.2 = 2 then 1 else 0)) v = mI N1 v := fun v v0 v1 v2 v3 => by
          rw [tx v v1 v3, G1.2.2.2.2 v (by unfold PfR; omega)]
          unfold pre
          rw [mI_o v1, mI_o v1, mI_o v0, mI_o v0]
        have p0 : ∀ k, k ≠ 0 → mI (told N3 X.1 (if X.2.2 = 2 then 1 else 0)) 0 k = mI (sI N1 0 18 1) 0 k := fun k hk => by
          rw [tx 0 (by decide) (by decide), G1.2.2.2.2 0 (by unfold PfR; omega)]
          unfold pre
          rw [mI_o (by decide), mI_o (by decide), mI_f hk]
        refine RA_lv H ?_ ?_ ?_ ?_ (fun v v1 v2 v3 v4 v5 v6 v7 => ?_) (fun k k0 k18 => ?_) (fun k hk => ?_) (fun k hk => ?_) ?_ ?_ ?_ ?_
        · exact G1.1.trans F1.1
        · exact G1.2.1.trans F1.2.1
        · exact G1.2.2.1.trans F1.2.2.1
        · exact G1.2.2.2.1.trans F1.2.2.2.1
        · rw [px v v2 v3 v4 v7]
          exact F1.2.2.2.2 v (by unfold CfP; omega)
        · rw [p0 k k0, mI_f k18]
          exact congrFun (F1.2.2.2.2 0 (by unfold CfP; omega)) k
        · rw [t7 k (by omega), R3.2.2.2.2.2.2.2.2.2.2 k (by omega)]
          unfold pre
          rw [mI_f (by omega), mI_f (by omega), mI_o (by decide), mI_o (by decide)]
          exact congrFun (F1.2.2.2.2 207 (by unfold CfP; omega)) k
        · rw [t12]
          exact hx.2.1 k hk
        · rw [tx 0 (by decide) (by decide), G1.2.2.2.2 0 (by unfold PfR; omega), t7 0 (by decide), R3.2.2.2.2.2.2.2.2.2.2 0 (by omega)]
          unfold pre
          rw [mI_o (by decide), mI_o (by decide), mI_sI_s, mI_sI_s]
        · rw [t12]
          exact shO_same C1.2.1 G1.1 G1.2.2.1 fun v v1 v2 => px v (by omega) (by omega) (by omega) (by omega)
        · rw [t12]
          exact hx.2.2.1
        · have u18 : mI (told N3 X.1 (if X.2.2 = 2 then 1 else 0)) 0 18 = 1 := by rw [p0 18 (by decide), mI_sI_s]
          have u36 : mI (told N3 X.1 (if X.2.2 = 2 then 1 else 0)) 207 36 = 1 := by
            unfold told
            rw [mI_sI_s]
          unfold rLi
          rw [u18, u36, px 92 (by decide) (by decide) (by decide) (by decide)]
          refine ⟨rfl, Or.inr ⟨rfl, fun j hj => ?_⟩⟩
          have uj : ∀ v, mI (told N3 X.1 (if X.2.2 = 2 then 1 else 0)) 220 v = mI (sI (sI (sI (sI (sI N3 220 0 X.1.2.2.1) 220 1 X.1.2.2.2.1) 220 2 X.1.2.2.2.2.1) 220 3 X.1.2.2.2.2.2) 220 4 (nI (if X.2.2 = 2 then 1 else 0))) 220 v := fun v => by
            unfold told
            rw [mI_o (by decide)]
          rw [uj]
          rcases (show j = 0 ∨ j = 1 ∨ j = 2 ∨ j = 3 ∨ j = 4 by omega) with h | h | h | h | h <;> subst h
          · rw [mI_f (by decide), mI_f (by decide), mI_f (by decide), mI_f (by decide), mI_sI_s]
            exact C1.2.2.2.1
          · rw [mI_f (by decide), mI_f (by decide), mI_f (by decide), mI_sI_s]
            exact C1.2.2.2.2.1
          · rw [mI_f (by decide), mI_f (by decide), mI_sI_s]
            exact C1.2.2.2.2.2.1
          · rw [mI_f (by decide), mI_sI_s]
            exact C1.2.2.2.2.2.2.1
          · rw [mI_sI_s]
            exact C1.2.2.2.2.2.2.2.1
  · refine ⟨-1, sI M 0 0 5, stM M 5, ?_, ?_, RR_st hR 5⟩
    · dsimp only
      unfold f_X11_live
      rw [q_within, bd_s, if_neg q, if_pos rfl, c_ck hL, c_none hL, bd_s]
    · have D := pre_md hL 5
      dsimp only
      unfold f_X12_live
      rw [m_pre hL]
      simp (disch := omega) only [↓q_isIn, j0, j1, u1, u3, u4, u5, u8, u9, u20, u60, u99, u100, u240, u9999, ite01z, not_true_eq_false, not_false_eq_true, if_true, if_false, z10, eq_false q, ↓bd_s, ↓m_r4 D.1, ↓m_r5 D.1, ↓m_r6 D.1, ↓m_r7 D.1, ↓m_r20 D.1, ↓m_r21 D.1, ↓m_r22 D.1, ↓m_r27 D.1, ↓m_r28 D.1, ↓m_r29 D.1, ↓m_r31 D.1, ↓m_r32 D.1, ↓m_r35 D.1, ↓m_ck D.1, ↓m_c0 D, ↓m_c1 D, ↓m_c2 D, ↓m_c3 D, ↓m_c4 D, ↓m_c D, i2, i3, i4, i5, i13, i21, i29, i37, i45, i53, i61, i69, i133, i137, i141, i145, i149, i153, i157, i161, i167, i4m, i6m, i8m, i9m, i18m, i60m, i256m, i450m, nI_add, ↓nmI_s, ↓bd_s, ↓bv_s, nI_1, ↓reduceIte, ↓q_isHouse D, ↓q_isGang D, ↓m_refuse hL, ↓m_no hL]
      rfl
