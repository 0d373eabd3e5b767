/-! BEST -/
theorem RA_pl {M M' : Mm} {a b y z : Nat} (H : RA M a b y z) (hK : mK M' = mK M) (hL : mL M' = mL M) (hRf : mR M' = mR M) (hT : mT M' = mT M) (hI : ∀ x, x ≠ 0 → x ≠ 207 → (x < 88 ∨ 92 ≤ x) → (x < 215 ∨ 220 ≤ x) → mI M' x = mI M x) (h0' : ∀ k, k ≠ 15 → mI M' 0 k = mI M 0 k) (h7' : ∀ k, k ≠ 30 → k ≠ 33 → k ≠ 34 → mI M' 207 k = mI M 207 k) (hp : rPl M') : RA M' a b y z := by
  obtain ⟨hL0, hS, hN, hs, h1, h2, h3, h4, h5, h6, h7, h8⟩ := H
  have ha := ll_a hL0
  have hy := ll_y hL0
  have e2 : mI M' 212 = mI M 212 := hI 212 (by omega) (by omega) (by omega) (by omega)
  have ecb : ∀ i, cb M' (i + 1) = cb M (i + 1) := fun i => by unfold cb; rw [e2]
  rw [RA, e2]
  refine ⟨LL_same hL0 hK hRf hT, shO_same hS hK hRf (fun x x1 x2 => hI x (by omega) (by omega) (by omega) (by omega)), rNm_same hN hL rfl rfl rfl hN.1, ?_, ?_, ?_, ?_, ?_, ?_, ?_, hp, ?_⟩
  · rw [h0' 0 (by omega), h7' 0 (by omega) (by omega) (by omega)]; exact hs
  · unfold rFr at *; rw [hL]; exact h1
  · unfold rFa at *; rw [h0' 3 (by omega), h0' 4 (by omega), h7' 10 (by omega) (by omega) (by omega), h7' 11 (by omega) (by omega) (by omega)]; exact h2
  · unfold rTp at *; rw [hL, hI 1 (by omega) (by omega) (by omega) (by omega), hI 2 (by omega) (by omega) (by omega) (by omega), hI 211 (by omega) (by omega) (by omega) (by omega), h7' 8 (by omega) (by omega) (by omega)]; exact h3
  · unfold rTy at *; rw [hL, hI 11 (by omega) (by omega) (by omega) (by omega), hI 10 (by omega) (by omega) (by omega) (by omega), hI 209 (by omega) (by omega) (by omega) (by omega), hI 208 (by omega) (by omega) (by omega) (by omega)]; exact h4
  · rw [e2]
    exact rYr_same (fun x x1 x2 => hI x (by omega) (by omega) (by omega) (by omega)) rfl rfl (fun k hk => rfl) h5
  · obtain ⟨n, n3, e1, e2, hm⟩ := h6
    refine ⟨n, n3, by rw [h0' 13 (by omega)]; exact e1, by rw [h7' 23 (by omega) (by omega) (by omega)]; exact e2, fun i hi => ?_⟩
    obtain ⟨m1, m2, m3⟩ := hm i hi
    rw [ecb i]
    exact ⟨shO_same m1 hK hRf (fun x x1 x2 => hI x (by omega) (by omega) (by omega) (by omega)), rNm_same m2 hL rfl rfl rfl m2.1, rYr_same (fun x x1 x2 => hI x (by omega) (by omega) (by omega) (by omega)) rfl rfl (fun k hk => rfl) m3⟩
  · unfold rLi at *; rw [h0' 18 (by omega), h7' 36 (by omega) (by omega) (by omega), hI 92 (by omega) (by omega) (by omega) (by omega), hI 220 (by omega) (by omega) (by omega) (by omega)]; exact h8
theorem RR_scr2 {M N : Mm} (hR : RR M) (hK : mK N = mK M) (hL : mL N = mL M) (hRf : mR N = mR M) (hT : mT N = mT M) (hI : ∀ x, x ≠ 90 → x ≠ 91 → x ≠ 215 → x ≠ 216 → x ≠ 217 → x ≠ 219 → mI N x = mI M x) : RR N := by
  obtain ⟨a, b, y, z, H⟩ := hR
  refine ⟨a, b, y, z, RA_out H (LL_same H.1 hK hRf hT) fun x hx => ⟨?_, by rw [hL], by rw [hK], by rw [hRf]⟩⟩
  unfold scr at hx
  exact hI x (by omega) (by omega) (by omega) (by omega) (by omega) (by omega)
theorem RR_fs {M : Mm} (hR : RR M) {s : Nat} (hs : s < 256) : RR (sI (sI M 0 15 (nI s)) 207 30 (nI s)) := by
  obtain ⟨a, b, y, z, H⟩ := hR
  have hp := H.2.2.2.2.2.2.2.2.2.2.1
  refine ⟨a, b, y, z, RA_pl H rfl rfl rfl rfl (fun x h1 h2 h3 h4 => by rw [mI_o h2, mI_o h1]) (fun k hk => by rw [mI_o (by decide), mI_f hk]) (fun k hk hk2 hk3 => by rw [mI_f hk, mI_o (by decide)]) ?_⟩
  unfold rPl at *
  rw [mI_o (by decide), mI_sI_s, mI_sI_s, mI_o (by decide), mI_o (by decide), mI_f (by decide), mI_o (by decide), mI_o (by decide), mI_o (by decide), mI_o (by decide), mI_o (by decide)]
  exact ⟨rfl, Or.inr ⟨s, hs, rfl⟩, hp.2.2⟩
abbrev btr (c : Nat → Int32) (b n : Nat) : Prop := wofN c (nI b) < wofN c (nI n) ∨ (wofN c (nI n) = wofN c (nI b) ∧ ¬ pop (nI b) ≤ pop (nI n))
def bs (c : Nat → Int32) (g m : Nat) : Nat → Nat
  | 0 => 0
  | n + 1 => if sV c g n ≤ m ∧ btr c (bs c g m n) n then n else bs c g m n
theorem bs_le (c : Nat → Int32) (g m : Nat) : ∀ n, bs c g m n ≤ n - 1
  | 0 => Nat.le_refl _
  | n + 1 => by
    have h := bs_le c g m n
    rw [bs]
    by_cases q : sV c g n ≤ m ∧ btr c (bs c g m n) n
    · rw [if_pos q]; omega
    · rw [if_neg q]; omega
theorem bs_u {c : Nat → Int32} {g m : Nat} (hm : m ≤ 240) : ∀ d, uN c + 1 + d ≤ 256 → bs c g m (uN c + 1 + d) = bs c g m (uN c + 1)
  | 0, _ => rfl
  | d + 1, h => by
    have h1 := bs_u (c := c) (g := g) hm d (by omega)
    have h2 : ¬ sub c (uN c + 1 + d) := fun z => by
      have := sub_u (by omega) z
      omega
    have h3 : sV c g (uN c + 1 + d) = 99999 := by
      unfold sV
      exact if_neg h2
    show bs c g m (uN c + 1 + d + 1) = _
    rw [bs, if_neg (fun z => by have := z.1; omega), h1]
theorem wof_0 (c : Nat → Int32) (O : okC c) : wofN c (nI 0) = 0 := by
  have h8 := (ok_h O).2
  unfold wofN
  rw [smN_0]
  intro k hk
  rw [if_neg (fun z => by
    have := (hasB_nI (by omega) (by omega)).mp z
    rw [Nat.zero_testBit] at this
    exact absurd this (by decide))]
theorem sub_pos {a b : Nat} (ha : a < 1000000) (hb : b < 1000000) : (0 < nI a - nI b ↔ b < a) ∧ (nI a - nI b = 0 ↔ a = b) := by
  have e : (nI a - nI b).toInt = (a : Int) - b := pk_sub_toInt (by omega) (by omega)
  constructor
  · rw [Int32.lt_iff_toInt_lt, e, Int32.toInt_zero]
    omega
  · rw [← Int32.toInt_inj, e, Int32.toInt_zero]
    omega
section G
variable {M : Mm} {c : Nat → Int32} {a g : Nat}
theorem p_worthiest (S : shO M a c) (P : plL M) (hg : g < gN c) {m : Nat} (hm : m ≤ 240) : f_X3_worthiestSet M (some 88) (some a) (nI g) (nI m) = some (nI (bs c g m 256), M) := by
  have O := S.2.2
  have u8 := (u_set O).2
  rw [show 256 = uN c + 1 + (255 - uN c) by omega, bs_u hm _ (by omega)]
  unfold f_X3_worthiestSet
  rw [lc_s S.1, p_open S, bd_s, (u_set O).1]
  have key := lup (fun f t => f_X3_worthiestSet_15 f M (some 88) (some a) (nI g) (nI m) (nI (uN c)) (nI (bs c g m t)) (nI (wofN c (nI (bs c g m t)))) (nI t)) (uN c + 1) (some (nI (bs c g m (uN c + 1)), M)) (fun f t ht => ?_) (fun f => ?_) fu 1 (by omega) (by unfold fu; omega)
  · have b1 : bs c g m 1 = 0 := by
      have := bs_le c g m 1
      omega
    rw [b1, wof_0 c O] at key
    exact key
  · have b1 := (wof_nI O (nI t)).2
    have b2 := (wof_nI O (nI (bs c g m t))).2
    have b3 := bs_le c g m t
    have b4 := sSm_bd O hg t
    rw [f_X3_worthiestSet_15, if_neg (by rw [nI_ltI' (by omega) (by omega)]; omega), bs]
    by_cases q : sub c t
    · have hsV : sV c g t = sSm c g t := by
        unfold sV
        exact if_pos q
      have take : btr c (bs c g m t) t → f_X3_worthiestSet_70 (f_X3_worthiestSet_15 f) M (some 88) (some a) (nI g) (nI m) (nI (uN c)) (nI (bs c g m t)) (nI (wofN c (nI (bs c g m t)))) (nI t) (nI (wofN c (nI t))) = f_X3_worthiestSet_15 f M (some 88) (some a) (nI g) (nI m) (nI (uN c)) (nI (if sV c g t ≤ m ∧ btr c (bs c g m t) t then t else bs c g m t)) (nI (wofN c (nI (if sV c g t ≤ m ∧ btr c (bs c g m t) t then t else bs c g m t)))) (nI (t + 1)) := fun hb => by
        rw [f_X3_worthiestSet_70, f_X3_worthiestSet_75, if_neg (by decide), pl_ck P, p_minF S (by rw [P.1]) hg (by omega), bd_s, hsV]
        by_cases q2 : sSm c g t ≤ m
        · rw [if_neg (by rw [nI_ltI' (by omega) (by omega)]; omega), if_pos ⟨q2, hb⟩, f_X3_worthiestSet_102, nI_1]
        · rw [if_pos (by rw [nI_ltI' (by omega) (by omega)]; omega), if_neg (fun z => q2 z.1), f_X3_worthiestSet_102, nI_1]
      have leave : ¬ btr c (bs c g m t) t → f_X3_worthiestSet_74 (f_X3_worthiestSet_15 f) M (some 88) (some a) (nI g) (nI m) (nI (uN c)) (nI (bs c g m t)) (nI (wofN c (nI (bs c g m t)))) (nI t) (nI (wofN c (nI t))) = f_X3_worthiestSet_15 f M (some 88) (some a) (nI g) (nI m) (nI (uN c)) (nI (if sV c g t ≤ m ∧ btr c (bs c g m t) t then t else bs c g m t)) (nI (wofN c (nI (if sV c g t ≤ m ∧ btr c (bs c g m t) t then t else bs c g m t)))) (nI (t + 1)) := fun hb => by
        rw [f_X3_worthiestSet_74, f_X3_worthiestSet_75, if_pos rfl, if_neg (fun z => hb z.2), f_X3_worthiestSet_102, nI_1]
      rw [if_pos ((sub_nI (by omega)).mpr q), lc_s S.1, p_worth S, bd_s, (wof_nI O (nI t)).1]
      by_cases q1 : wofN c (nI (bs c g m t)) < wofN c (nI t)
      · rw [if_pos (by rw [nI_ltI' (by omega) (by omega)]; exact q1)]
        exact take (Or.inl q1)
      · rw [if_neg (by rw [nI_ltI' (by omega) (by omega)]; exact q1)]
        by_cases q2 : wofN c (nI t) = wofN c (nI (bs c g m t))
        · rw [if_pos (by rw [q2]), p_bits M (by omega), bd_s, p_bits M (by omega), bd_s]
          by_cases q3 : pop (nI (bs c g m t)) ≤ pop (nI t)
          · rw [if_pos q3]
            exact leave (by rintro (z | z); exact q1 z; exact z.2 q3)
          · rw [if_neg q3]
            exact take (Or.inr ⟨q2, q3⟩)
        · rw [if_neg (by rw [nI_eq' (by omega) (by omega)]; exact q2)]
          exact leave (by rintro (z | z); exact q1 z; exact q2 z.1)
    · have hsV : sV c g t = 99999 := by
        unfold sV
        exact if_neg q
      rw [if_neg (fun z => q ((sub_nI (by omega)).mp z)), if_neg (fun z => by have := z.1; omega), f_X3_worthiestSet_102, nI_1]
  · rw [f_X3_worthiestSet_15, if_pos (by rw [nI_ltI' (by omega) (by omega)]; omega)]
theorem q_best52 (D : md M c) (O : okC c) (hg : g < gN c) {m : Nat} (hm : m ≤ 240) (h : ∀ t, t < 256 → mI M 216 (256 * g + t) = nI (sV c g t)) : f_X12_best_52 fu M (some 207) (nI g) (nI m) 0 1 = some (nI (wofN c (nI (bs c g m 256))), sI M 207 30 (nI (bs c g m 256))) := by
  have g4 := (ok_g O).2
  have key := lup (fun f t => f_X12_best_52 f M (some 207) (nI g) (nI m) (nI (bs c g m t)) (nI t)) 256 (some (nI (wofN c (nI (bs c g m 256))), sI M 207 30 (nI (bs c g m 256)))) (fun f t ht => ?_) (fun f => ?_) fu 1 (by omega) (by unfold fu; omega)
  · have b1 : bs c g m 1 = 0 := by
      have := bs_le c g m 1
      omega
    rw [b1] at key
    exact key
  · have b1 := (wof_nI O (nI t)).2
    have b2 := (wof_nI O (nI (bs c g m t))).2
    have b3 := bs_le c g m t
    have b4 := sV_le O hg t
    obtain ⟨z1, z2⟩ := sub_pos (a := wofN c (nI t)) (b := wofN c (nI (bs c g m t))) (by omega) (by omega)
    rw [f_X12_best_52, if_neg (by rw [show (256 : Int32) = nI 256 from rfl, nI_leI' (by omega) (by omega)]; omega), m_r28 D.1, i256m, nI_add, r216 D.1 (by omega), h t ht, bs]
    by_cases q : sV c g t ≤ m
    · rw [if_pos (by rw [nI_leI' (by omega) (by omega)]; exact q), m_ck D.1, q_worthIn D O, bd_s, m_ck D.1, q_worthIn D O, bd_s, (wof_nI O (nI t)).1, (wof_nI O (nI (bs c g m t))).1, nmI_s]
      by_cases q1 : wofN c (nI (bs c g m t)) < wofN c (nI t)
      · rw [if_pos (z1.mpr q1), if_pos ⟨q, Or.inl q1⟩, f_X12_best_116, f_X12_best_119, nI_1]
      · rw [if_neg (fun z => q1 (z1.mp z))]
        by_cases q2 : wofN c (nI t) = wofN c (nI (bs c g m t))
        · rw [if_pos (z2.mpr q2), q_size, bd_s, q_size, bd_s]
          by_cases q3 : pop (nI (bs c g m t)) ≤ pop (nI t)
          · rw [if_pos q3, if_neg (by rintro ⟨-, z | z⟩; exact q1 z; exact z.2 q3), f_X12_best_119, nI_1]
          · rw [if_neg q3, if_pos ⟨q, Or.inr ⟨q2, q3⟩⟩, f_X12_best_116, f_X12_best_119, nI_1]
        · rw [if_neg (fun z => q2 (z2.mp z)), if_neg (by rintro ⟨-, z | z⟩; exact q1 z; exact q2 z.1), f_X12_best_119, nI_1]
    · rw [if_neg (by rw [nI_leI' (by omega) (by omega)]; exact q), if_neg (fun z => q z.1), f_X12_best_119, nI_1]
  · rw [f_X12_best_52, if_pos (by decide), m_pI D.1]
    have D2 : md (sI M 207 30 (nI (bs c g m 256))) c := md_sI D (by decide)
    rw [m_ck D2.1, q_worthIn D2 O, bd_s, (wof_nI O _).1]
end G
theorem op_best (x w : Int32) : opI (fun M => f_X11_best M (some 0) x w) (fun M => f_X12_best M (some 207) x w) := by
  intro M hR
  obtain ⟨a, b, y, z, H⟩ := id hR
  have hL := H.1
  have S := H.2.1
  have O := S.2.2
  have h8 := (ok_h O).2
  have g4 := (ok_g O).2
  by_cases q : 0 ≤ x ∧ x ≤ mI M 212 1 - 1
  · by_cases q2 : 0 ≤ w ∧ w ≤ 240
    · obtain ⟨g, hg, rfl⟩ := gIx O q
      obtain ⟨m, hm, rfl⟩ := rng (n := 240) (by decide) q2
      have ha := ll_a hL
      have P := pl_of hL
      have b3 := bs_le (mI M 212) g m 256
      obtain ⟨v, hv⟩ : ∃ v, bs (mI M 212) g m 256 = v := ⟨_, rfl⟩
      have hL1 : LL (sI M 0 15 (nI v)) a b y z := LL_same hL rfl rfl rfl
      have S1 : shO (sI M 0 15 (nI v)) a (mI M 212) := shO_same S rfl rfl fun x h1 h2 => by rw [mI_o (by omega)]
      have i1 : mI (sI M 0 15 (nI v)) 212 = mI M 212 := mI_o (by decide)
      have D := pre_md hL1 0
      rw [i1] at D
      obtain ⟨N, e2, F2, h2, -⟩ := q_fill D O hg
      have DN : md N (mI M 212) := F2.mdc (by unfold P6; omega) D
      have e3 := q_best52 DN O hg hm h2
      have ew := p_worthiest S P hg hm
      rw [hv] at e3 ew b3
      refine ⟨nI (wofN (mI M 212) (nI v)), sI (sI M 0 15 (nI v)) 0 0 0, sI N 207 30 (nI v), ?_, ?_, RR_scr2 (RR_fs (RR_st hR 0) (s := v) (by omega)) F2.1 F2.2.1 F2.2.2.1 F2.2.2.2.1 fun x x1 x2 x3 x4 x5 x6 => ?_⟩
      · dsimp only
        unfold f_X11_best
        rw [c_ck hL, c_isGang hL S, bd_s, if_pos q, if_neg (by decide), q_within, bd_s, if_pos q2, if_neg (by decide), c_pl hL, c_sh hL, pl_ck P, ew, bd_s, c_pI hL, c_sh hL1, c_gI hL1, mI_sI_s, lc_s S1.1, p_worth S1, bd_s, c_ck hL1, c_answer hL1, bd_s, (wof_nI O _).1]
      · dsimp only
        unfold f_X12_best
        rw [m_pre hL1, m_ck D.1, q_isGang D, bd_s, if_pos q, if_neg (by decide)]
        simp (disch := omega) only [↓q_isIn, j0, j1, u1, u3, u4, u5, u8, u9, u20, u60, u99, u100, u240, u9999, ite01z, not_true_eq_false, not_false_eq_true, if_true, if_false, z10, eq_true q2, ↓bd_s]
        rw [m_ck D.1, e2, bv_s]
        exact e3
      · funext k
        rw [mI_sI, mI_sI, F2.2.2.2.2 x (by unfold P6; omega)]
        by_cases a1 : x = 0 ∧ k = 15
        · obtain ⟨rfl, rfl⟩ := a1
          simp [pre, stM, mI_sI]
        · simp only [pre, stM, mI_sI, a1, if_false]
    · refine ⟨-1, sI M 0 0 5, stM M 5, ?_, ?_, RR_st hR 5⟩
      · dsimp only
        unfold f_X11_best
        rw [c_ck hL, c_isGang hL S, bd_s, if_pos q, if_neg (by decide), q_within, bd_s, if_neg q2, if_pos rfl, c_ck hL, c_none hL, bd_s]
      · have D := pre_md hL 5
        dsimp only
        unfold f_X12_best
        rw [m_pre hL, m_ck D.1, q_isGang D, bd_s, if_pos q, if_neg (by decide)]
        simp (disch := omega) only [↓q_isIn, j0, j1, u1, u3, u4, u5, u8, u9, u20, u60, u99, u100, u240, u9999, ite01z, not_true_eq_false, not_false_eq_true, if_true, if_false, z10, eq_false q2, ↓bd_s, ↓m_r4 D.1, ↓m_r5 D.1, ↓m_r6 D.1, ↓m_r7 D.1, ↓m_r20 D.1, ↓m_r21 D.1, ↓m_r22 D.1, ↓m_r27 D.1, ↓m_r28 D.1, ↓m_r29 D.1, ↓m_r31 D.1, ↓m_r32 D.1, ↓m_r35 D.1, ↓m_ck D.1, ↓m_c0 D, ↓m_c1 D, ↓m_c2 D, ↓m_c3 D, ↓m_c4 D, ↓m_c D, i2, i3, i4, i5, i13, i21, i29, i37, i45, i53, i61, i69, i133, i137, i141, i145, i149, i153, i157, i161, i167, i4m, i6m, i8m, i9m, i18m, i60m, i256m, i450m, nI_add, ↓nmI_s, ↓bd_s, ↓bv_s, nI_1, ↓reduceIte, ↓q_isHouse D, ↓q_isGang D, ↓m_refuse hL, ↓m_no hL]
        rfl
  · refine ⟨-1, sI M 0 0 2, stM M 2, ?_, ?_, RR_st hR 2⟩
    · dsimp only
      unfold f_X11_best
      rw [c_ck hL, c_isGang hL S, bd_s, if_neg q, if_pos rfl, c_ck hL, c_none hL, bd_s]
    · have D := pre_md hL 2
      dsimp only
      unfold f_X12_best
      rw [m_pre hL, m_ck D.1, q_isGang D, bd_s, if_neg q, if_pos rfl, m_ck D.1, m_refuse hL, bd_s]
      rfl
