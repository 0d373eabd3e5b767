/-! SAVES -/
theorem minu_01 (c : Nat → Int32) (g : Nat) : ∃ d, d ≤ 1 ∧ (minu c g).2 = nI d := by
  have h98 : ∀ c g h, ∃ d, d ≤ 1 ∧ (m98 c g h).2 = nI d := fun c g h => by
    unfold m98
    by_cases q1 : c (157 + g) - 1 ≤ 0
    · rw [if_pos q1]
      by_cases q2 : c (53 + h) - 1 ≤ 0
      · rw [if_pos q2]; exact ⟨1, by omega, rfl⟩
      · rw [if_neg q2]; exact ⟨0, by omega, rfl⟩
    · rw [if_neg q1]; exact ⟨0, by omega, rfl⟩
  have h30 : ∀ c g, ∃ d, d ≤ 1 ∧ (m30 c g).2 = nI d := fun c g => by
    unfold m30
    by_cases q1 : c (153 + g) ≤ 0
    · rw [if_pos q1]; exact h98 _ _ _
    · rw [if_neg q1]; exact ⟨0, by omega, rfl⟩
  unfold minu
  by_cases q1 : 0 ≤ c (149 + g)
  · rw [if_pos q1]; exact h30 _ _
  · rw [if_neg q1]
    by_cases q2 : 0 ≤ (fb c g (hN c)).1
    · rw [if_pos q2]; exact h30 _ _
    · rw [if_neg q2]; exact ⟨0, by omega, rfl⟩
theorem gmin_b (c : Nat → Int32) : ∀ n, ∃ d, d ≤ n ∧ (gmin c n).2 = nI d
  | 0 => ⟨0, by omega, rfl⟩
  | n + 1 => by
    obtain ⟨d, h1, h2⟩ := gmin_b c n
    obtain ⟨e, h3, h4⟩ := minu_01 (gmin c n).1 n
    exact ⟨d + e, by omega, by show (gmin c n).2 + (minu (gmin c n).1 n).2 = _; rw [h2, h4, nI_add]⟩
theorem hmin_b {c : Nat → Int32} (O : okC c) : ∀ n, ∃ d, d ≤ 4 * n ∧ (hmin c n).2 = nI d
  | 0 => ⟨0, by omega, rfl⟩
  | n + 1 => by
    have g4 := (ok_g O).2
    obtain ⟨d, h1, h2⟩ := hmin_b O n
    obtain ⟨e, h3, h4⟩ := gmin_b (hmin c n).1 (gN c)
    exact ⟨d + e, by omega, by show (hmin c n).2 + (gmin (hmin c n).1 (gN c)).2 = _; rw [h2, h4, nI_add]⟩
/-- rows that nobody will be told of -/
def scr (b z x : Nat) : Prop := (b ≤ x ∧ x < b + 31) ∨ (z ≤ x ∧ x < z + 6) ∨ x = 90 ∨ x = 91 ∨ x = 93 ∨ x = 94 ∨ x = 95 ∨ x = 213 ∨ x = 215 ∨ x = 216 ∨ x = 217 ∨ x = 219 ∨ 221 ≤ x
theorem RA_out {M M' : Mm} {a b y z : Nat} (H : RA M a b y z) (hLL : LL M' a b y z) (hI : ∀ x, ¬ scr b z x → mI M' x = mI M x ∧ mL M' x = mL M x ∧ mK M' x = mK M x ∧ mR M' x = mR M x) : RA M' a b y z := by
  obtain ⟨hL0, hS, hN, hs, h1, h2, h3, h4, h5, h6, h7', h8⟩ := H
  have ha := ll_a hL0
  have hb := ll_b hL0
  have hy := ll_y hL0
  have ns : ∀ x, x < 12 ∨ (a ≤ x ∧ x < a + 31) ∨ (y ≤ x ∧ x < y + 6) ∨ (86 ≤ x ∧ x < 90) ∨ x = 92 ∨ (96 ≤ x ∧ x < 213) ∨ x = 214 ∨ x = 218 ∨ x = 220 → ¬ scr b z x := fun x hx => by unfold scr; omega
  have e : ∀ x, x < 12 ∨ (a ≤ x ∧ x < a + 31) ∨ (y ≤ x ∧ x < y + 6) ∨ (86 ≤ x ∧ x < 90) ∨ x = 92 ∨ (96 ≤ x ∧ x < 213) ∨ x = 214 ∨ x = 218 ∨ x = 220 → mI M' x = mI M x := fun x hx => (hI x (ns x hx)).1
  have f : ∀ x, x < 12 ∨ (a ≤ x ∧ x < a + 31) ∨ (y ≤ x ∧ x < y + 6) ∨ (86 ≤ x ∧ x < 90) ∨ x = 92 ∨ (96 ≤ x ∧ x < 213) ∨ x = 214 ∨ x = 218 ∨ x = 220 → mL M' x = mL M x := fun x hx => (hI x (ns x hx)).2.1
  have shS : ∀ a' c, shL M' a' → ((a' = a) ∨ (96 ≤ a' ∧ a' + 31 ≤ 207)) → shO M a' c → shO M' a' c := fun a' c hl hr S => by
    have W := shW_of S
    refine shO_of (e := ecl c) ⟨hl, fun K hK2 => ?_⟩ (fun _ _ => rfl) S.2.2
    have h31 := off_31 K (vld_lt hK2)
    rw [e _ (by omega)]
    exact W.2 K hK2
  have nmS : ∀ a' j c, okC c → ((a' = a) ∨ (96 ≤ a' ∧ a' + 31 ≤ 207)) → rNm M a' j c → rNm M' a' j c := fun a' j c O hr h => by
    have h8 := (ok_h O).2
    have g4 := (ok_g O).2
    have w6 := (ok_w O).2
    obtain ⟨h9, h1, h2, h3⟩ := h
    refine ⟨h9, fun i hi => ?_, fun i hi => ?_, fun i hi => ?_⟩
    · rw [f _ (by omega), f 214 (by omega)]; exact h1 i hi
    · rw [f _ (by omega), f 214 (by omega)]; exact h2 i hi
    · rw [f _ (by omega), f 214 (by omega)]; exact h3 i hi
  have e2 : mI M' 212 = mI M 212 := e 212 (by omega)
  have ecb : ∀ i, cb M' (i + 1) = cb M (i + 1) := fun i => by unfold cb; rw [e2]
  rw [RA, e2]
  refine ⟨hLL, shS a _ (ll_sa hLL) (Or.inl rfl) hS, nmS a 0 _ hS.2.2 (Or.inl rfl) hN, ?_, ?_, ?_, ?_, ?_, ?_, ?_, ?_, ?_⟩
  · rw [e 0 (by omega), e 207 (by omega)]; exact hs
  · unfold rFr at *; rw [f 0 (by omega), f 207 (by omega)]; exact h1
  · unfold rFa at *; rw [e 0 (by omega), e 207 (by omega)]; exact h2
  · unfold rTp at *; rw [f 3 (by omega), e 1 (by omega), e 2 (by omega), e 211 (by omega), e 207 (by omega)]; exact h3
  · unfold rTy at *
    intro t ht
    rw [f (6 + t) (by omega), f 210 (by omega), e 11 (by omega), e 10 (by omega), e 209 (by omega), e 208 (by omega)]
    exact h4 t ht
  · rw [e2]
    exact rYr_same (fun x x1 x2 => e x (by omega)) rfl rfl (fun k hk => rfl) h5
  · obtain ⟨n, n3, e1, e2, hm⟩ := h6
    refine ⟨n, n3, by rw [e 0 (by omega)]; exact e1, by rw [e 207 (by omega)]; exact e2, fun i hi => ?_⟩
    obtain ⟨m1, m2, m3⟩ := hm i hi
    rw [ecb i]
    exact ⟨shS _ _ (hLL.1.2.2.2.1.2.2.1 i (by omega)).1 (Or.inr (by omega)) m1, nmS _ _ _ m1.2.2 (Or.inr (by omega)) m2, rYr_same (fun x x1 x2 => e x (by omega)) rfl rfl (fun k hk => rfl) m3⟩
  · unfold rPl at *; rw [e 0 (by omega), e 207 (by omega), e 88 (by omega), e 89 (by omega), e 218 (by omega)]; exact h7'
  · unfold rLi at *; rw [e 0 (by omega), e 207 (by omega), e 92 (by omega), e 220 (by omega)]; exact h8
theorem RA_fr2 {M M' : Mm} {a b y z : Nat} (H : RA M a b y z) (F : Fr2 M M' b 31) : RA M' a b y z :=
  RA_out H (LL_same H.1 F.1 F.2.1 F.2.2.1) fun x hx => ⟨(F.2.2.2 x (by unfold scr at hx; omega)).1, (F.2.2.2 x (by unfold scr at hx; omega)).2, by rw [F.1], by rw [F.2.1]⟩
theorem FrI.f2 {M M' : Mm} {b n : Nat} (F : FrI M M' b n) : Fr2 M M' b n := ⟨F.1, F.2.2.1, F.2.2.2.1, fun x hx => ⟨F.2.2.2.2 x hx, by rw [F.2.1]⟩⟩
section Md
variable {M : Mm} {c : Nat → Int32}
theorem q_keeps (D : md M c) : f_X12_keeps M (some 207) = some (sA M 213 (fun k => if k < 173 then c k else mI M 213 k)) := by
  have key := lup0 (fun i j => f_X12_keeps_2 i (sA M 213 (fun k => if k < j then c k else mI M 213 k)) (some 207) (nI j)) 173 (some (sA M 213 (fun k => if k < 173 then c k else mI M 213 k))) (by omega) (fun i j hj => ?_) (fun i => ?_)
  · rw [show sA M 213 (fun k => if k < 0 then c k else mI M 213 k) = M from sA_self M 213] at key
    exact key
  · have D1 : md (sA M 213 (fun k => if k < j then c k else mI M 213 k)) c := md_sAo D (by decide)
    rw [f_X12_keeps_2, if_neg (by rw [show (173 : Int32) = nI 173 from rfl, nI_leI' (by omega) (by omega)]; omega), m_r21 D1.1, m_r20 D1.1, m_c D1 (by omega), asI_s D1.1.2.2.2.2.2.2.1.2 hj (by decide), sI_sA, sA_sA, mI_sA_s, nI_1]
    refine congrArg (fun z => f_X12_keeps_2 i (sA M 213 z) (some 207) (nI (j + 1))) (funext fun k => ?_)
    by_cases q : k = j
    · rw [q, pk_us, if_pos (by omega)]
    · rw [pk_un q]
      by_cases q2 : k < j
      · rw [if_pos q2, if_pos (by omega)]
      · rw [if_neg q2, if_neg (by omega)]
  · rw [f_X12_keeps_2, if_pos (by decide)]
theorem q_gives (D : mdL M) (f : Nat → Int32) : f_X12_gives (sA M 212 f) (some 207) = some (sA M 212 (fun k => if k < 173 then mI M 213 k else f k)) := by
  have key := lup0 (fun i j => f_X12_gives_2 i (sA M 212 (fun k => if k < j then mI M 213 k else f k)) (some 207) (nI j)) 173 (some (sA M 212 (fun k => if k < 173 then mI M 213 k else f k))) (by omega) (fun i j hj => ?_) (fun i => ?_)
  · exact key
  · have D1 : mdL (sA M 212 (fun k => if k < j then mI M 213 k else f k)) := D
    rw [f_X12_gives_2, if_neg (by rw [show (173 : Int32) = nI 173 from rfl, nI_leI' (by omega) (by omega)]; omega), f_r20 D, m_r21 D1, alI_s D1.2.2.2.2.2.2.1.2 hj (by decide), mI_sA_o _ _ (by decide), f_sc D (by omega), nI_1]
    refine congrArg (fun z => f_X12_gives_2 i (sA M 212 z) (some 207) (nI (j + 1))) (funext fun k => ?_)
    by_cases q : k = j
    · rw [q, pk_us, if_pos (by omega)]
    · rw [pk_un q]
      by_cases q2 : k < j
      · rw [if_pos q2, if_pos (by omega)]
      · rw [if_neg q2, if_neg (by omega)]
  · rw [f_X12_gives_2, if_pos (by decide)]
end Md
theorem bm64 {x : Int} (h1 : -9223372036854775808 ≤ x) (h2 : x < 9223372036854775808) : x.bmod (2 ^ 64) = x := Int.bmod_eq_of_le (by simpa using h1) (by simpa using h2)
/-- what the hour saves, as the two reckon it -/
theorem sav_eq {p q r o ch : Nat} (hp : p ≤ 4747248) (hq : q ≤ 4747248) (hr : r ≤ 99) (ho : o ≤ 960) (hc : ch ≤ 594) : Int32.toInt64 ((nI p - nI q) - ((nI r * nI o) * nI ch)) = Int32.toInt64 (nI p - nI q) - ((Int32.toInt64 (nI r) * Int32.toInt64 (nI o)) * Int32.toInt64 (nI ch)) ∧ -100000000 < (Int32.toInt64 (nI p - nI q) - ((Int32.toInt64 (nI r) * Int32.toInt64 (nI o)) * Int32.toInt64 (nI ch))).toInt ∧ (Int32.toInt64 (nI p - nI q) - ((Int32.toInt64 (nI r) * Int32.toInt64 (nI o)) * Int32.toInt64 (nI ch))).toInt < 100000000 := by
  have b1 : r * o ≤ 99 * 960 := Nat.mul_le_mul hr ho
  have b2 : r * o * ch ≤ 99 * 960 * 594 := Nat.mul_le_mul b1 hc
  have e1 : (nI p - nI q).toInt = (p : Int) - q := pk_sub_toInt (by omega) (by omega)
  have e2 : ((nI p - nI q) - ((nI r * nI o) * nI ch)).toInt = (p : Int) - q - ((r * o * ch : Nat) : Int) := by
    rw [nI_mul, nI_mul, sub_int (by rw [e1, nI_toInt (by omega)]; omega) (by rw [e1, nI_toInt (by omega)]; omega), e1, nI_toInt (by omega)]
  have e3 : (Int32.toInt64 (nI p - nI q) - ((Int32.toInt64 (nI r) * Int32.toInt64 (nI o)) * Int32.toInt64 (nI ch))).toInt = (p : Int) - q - ((r * o * ch : Nat) : Int) := by
    rw [lI (by omega), lI (by omega), lI (by omega), lN_mul, lN_mul, Int64.toInt_sub, Int32.toInt_toInt64, e1, lN_toInt (by omega)]
    exact bm64 (by omega) (by omega)
  refine ⟨?_, by rw [e3]; omega, by rw [e3]; omega⟩
  apply Int64.toInt_inj.mp
  rw [e3, Int32.toInt_toInt64, e2]
theorem op_saves (x w : Int32) : opI (fun M => f_X11_saves M (some 0) x w) (fun M => f_X12_saves M (some 207) x w) := by
  intro M hR
  dsimp only
  obtain ⟨a, b, y, z, H⟩ := id hR
  have hL := H.1
  have S := H.2.1
  have O := S.2.2
  have h8 := (ok_h O).2
  by_cases q : 1 ≤ x ∧ x ≤ 240
  · by_cases q1 : 0 ≤ w ∧ w ≤ 99
    · by_cases q2 : mI M 212 2 = 0
      · refine ⟨0, sI M 0 0 8, _, ?_, ?_, RR_st hR 8⟩
        · unfold f_X11_saves g_X11_saves
          simp (disch := omega) only [↓c_ck hL, ↓c_gI hL, ↓c_sh hL, ↓c_answer hL, ↓c_none hL, ↓c_no hL, ↓c_yes hL, ↓c_isHouse hL S, ↓c_isGang hL S, ↓q_within, ↓bd_s, ↓bv_s, ↓nmI_s, nI_1, ↓reduceIte, ite01z, not_true_eq_false, not_false_eq_true, if_true, if_false, z10, eq_true q, eq_true q1, ↓e_hc S, ↓e_gc S, ↓e_wc S, ↓e_law S, ↓e_min S, ↓l_hs S.1, ↓l_gs S.1, ↓l_ws S.1, ↓l_ds S.1, ↓l_h S.1, ↓l_g S.1, ↓l_w S.1, ↓l_d S.1, ↓e_db S, ↓e_hat S, ↓e_hwo S, ↓e_hpi S, ↓e_hwe S, ↓e_hlo S, ↓e_hpe S, ↓e_hon S, ↓e_hsd S, ↓e_gho S, ↓e_gha S, ↓e_gpa S, ↓e_gat S, ↓e_ghd S, ↓e_gwa S, ↓e_gpc S, ↓e_wst S, ↓e_wch S, ↓lc_h S.1, ↓lc_g S.1, ↓lc_s S.1, eq_true q2, zc0]
        · have D := pre_md hL 8
          unfold f_X12_saves g_X12_saves
          rw [m_pre hL]
          simp (disch := omega) only [↓q_isIn, j0, j1, u1, u3, u4, u5, u8, u9, u20, u60, u99, u100, u240, u9999, ite01z, not_true_eq_false, not_false_eq_true, if_true, if_false, z10, eq_true q, eq_true q1, ↓q_isHouse D, ↓q_isGang D, ↓m_refuse hL, ↓m_no hL, ↓m_r4 D.1, ↓m_r5 D.1, ↓m_r6 D.1, ↓m_r7 D.1, ↓m_r20 D.1, ↓m_r21 D.1, ↓m_r22 D.1, ↓m_r27 D.1, ↓m_r28 D.1, ↓m_r29 D.1, ↓m_r31 D.1, ↓m_r32 D.1, ↓m_r35 D.1, ↓m_ck D.1, ↓m_c0 D, ↓m_c1 D, ↓m_c2 D, ↓m_c3 D, ↓m_c4 D, ↓m_c D, i2, i3, i4, i5, i13, i21, i29, i37, i45, i53, i61, i69, i133, i137, i141, i145, i149, i153, i157, i161, i167, i4m, i6m, i8m, i9m, i18m, i60m, i256m, i450m, nI_add, ↓nmI_s, ↓bd_s, ↓bv_s, nI_1, ↓reduceIte, eq_true q2, zc0]
          rfl
      · obtain ⟨n, hn, rfl⟩ := rng (n := 240) (by decide) ⟨Int32.le_trans (by decide) q.1, q.2⟩
        obtain ⟨r, hr, rfl⟩ := rng (n := 99) (by decide) q1
        have hb := ll_b hL
        have m9 := H.2.2.1.1
        obtain ⟨M1, e1, S1, F1, -⟩ := p_copy S (ll_sb hL) hb.2
        obtain ⟨M2, e2, S2, F2⟩ := p_hour S1 hn (by omega)
        have F12 : Fr2 M M2 b 31 := F1.tr F2.f2
        have H1 := RA_fr2 H F1
        have H2 := RA_fr2 H F12
        have hL1 := H1.1
        have hL2 := H2.1
        have i1 : mI M1 212 = mI M 212 := (F1.2.2.2 212 (by omega)).1
        have i2 : mI M2 212 = mI M 212 := (F12.2.2.2 212 (by omega)).1
        have Sa := H2.2.1
        rw [i2] at Sa
        obtain ⟨r1, r2⟩ := lss_nI O
        obtain ⟨t1, t2⟩ := lss_nI S2.2.2
        obtain ⟨c1, c2, c3⟩ := allCh_nI O
        have c4 := c3 ((w_pos O).mp q2)
        obtain ⟨d, d1, d2⟩ := hmin_b O n
        obtain ⟨v1, v2, v3⟩ := sav_eq (p := lssN (mI M 212)) (q := lssN (hrs (mI M 212) n)) (r := r) (o := d) (ch := allChN (mI M 212)) r2 t2 hr (by omega) c2
        obtain ⟨top, htop⟩ : ∃ top, Int32.toInt64 (nI (lssN (mI M 212)) - nI (lssN (hrs (mI M 212) n))) - ((Int32.toInt64 (nI r) * Int32.toInt64 (nI d)) * Int32.toInt64 (nI (allChN (mI M 212)))) = top := ⟨_, rfl⟩
        rw [htop] at v1 v2 v3
        obtain ⟨ab1, ab2⟩ := abL_lN (t := top) (by omega) (by omega)
        obtain ⟨u, hu⟩ : ∃ u, frT top top.toInt.natAbs (allChN (mI M 212)) = u := ⟨_, rfl⟩
        obtain ⟨v, hv⟩ : ∃ v, frB top.toInt.natAbs (allChN (mI M 212)) = v := ⟨_, rfl⟩
        have hs := (hmin_ok O n).2
        have ct := c_frac hL2 ab1 ab2 c4 (show allChN (mI M 212) < 2 ^ 31 by omega)
        rw [hu, hv] at ct
        have hF0 : LL (sL (sL M2 0 1 u) 0 2 v) a b y z := LL_same hL2 rfl rfl rfl
        have nI0 : mI (sL (sL M2 0 1 u) 0 2 v) = mI M2 := rfl
        have nK0 : mK (sL (sL M2 0 1 u) 0 2 v) = mK M2 := rfl
        have nR0 : mR (sL (sL M2 0 1 u) 0 2 v) = mR M2 := rfl
        have nT0 : mT (sL (sL M2 0 1 u) 0 2 v) = mT M2 := rfl
        obtain ⟨N, hN⟩ : ∃ N, sL (sL M2 0 1 u) 0 2 v = N := ⟨_, rfl⟩
        rw [hN] at ct hF0 nI0 nK0 nR0 nT0
        have DP := pre_md hF0 0
        rw [nI0, i2] at DP
        have pI1 : ∀ x, x ≠ 0 → x ≠ 207 → mI (pre N 0) x = mI N x := fun x h1 h2 => by
          unfold pre
          rw [mI_o h2, mI_o h2, mI_o h1]
        have pI2 : ∀ k, k ≠ 0 → mI (pre N 0) 0 k = mI N 0 k := fun k hk => by
          unfold pre
          rw [mI_o (by decide), mI_o (by decide), mI_f hk]
        have pI3 : ∀ k, k ≠ 0 → k ≠ 1 → mI (pre N 0) 207 k = mI N 207 k := fun k hk h1 => by
          unfold pre
          rw [mI_f hk, mI_f h1, mI_o (by decide)]
        have pI4 : mI (pre N 0) 0 0 = 0 := by
          unfold pre
          rw [mI_o (by decide), mI_o (by decide), mI_sI_s]
        have pI5 : mI (pre N 0) 207 0 = 0 := by
          unfold pre
          rw [mI_sI_s]
        have pK : mK (pre N 0) = mK N := rfl
        have pR : mR (pre N 0) = mR N := rfl
        have pT : mT (pre N 0) = mT N := rfl
        have pL : mL (pre N 0) = mL N := rfl
        have mp : ∀ K : Mm → Option (Int32 × Mm), (pfI (sI N 0 0 0) (some 207) 12 1 0 fun M2 => pfI M2 (some 207) 12 0 0 K) = K (pre N 0) := fun K => m_pre hF0 0
        obtain ⟨P, hP⟩ : ∃ P, pre N 0 = P := ⟨_, rfl⟩
        rw [hP] at DP pI4 pI5 pK pR pT pL
        simp only [hP] at pI1 pI2 pI3 mp
        have kq := q_keeps DP
        obtain ⟨kf, hkf⟩ : ∃ kf, (fun k => if k < 173 then mI M 212 k else mI P 213 k) = kf := ⟨_, rfl⟩
        have kf1 : ∀ k, k < 173 → kf k = mI M 212 k := fun k hk => by rw [← hkf]; exact if_pos hk
        rw [hkf] at kq
        have DK : mdL (sA P 213 kf) := DP.1
        have eI : mI (sA P 213 kf) 212 = mI M 212 := (mI_sA_o _ _ (by decide)).trans DP.2
        have eK : sA P 213 kf = sA (sA P 213 kf) 212 (mI M 212) := by
          rw [← eI]
          exact (sA_self _ 212).symm
        have qh := q_hours DK O hn
        rw [d2] at qh
        have DH : mdL (sI (sA P 213 kf) 207 26 (nI d)) := DP.1
        have qg := q_gives DH (hrs (mI M 212) n)
        have eG : (fun k => if k < 173 then mI (sI (sA P 213 kf) 207 26 (nI d)) 213 k else hrs (mI M 212) n k) = mI M 212 := by
          funext k
          by_cases z : k < 173
          · rw [if_pos z, mI_o (by decide), mI_sA_s, kf1 k z]
          · rw [if_neg z]
            exact (pk_un (by omega)).trans (hs k (by omega))
        rw [eG] at qg
        have DX : mdL (sA (sI (sA P 213 kf) 207 26 (nI d)) 212 (mI M 212)) := DP.1
        have mf := m_frac DX ab1 ab2 c4 (show allChN (mI M 212) < 2 ^ 31 by omega)
        rw [hu, hv] at mf
        have xL : mL (sA (sI (sA P 213 kf) 207 26 (nI d)) 212 (mI M 212)) = mL P := rfl
        have xK : mK (sA (sI (sA P 213 kf) 207 26 (nI d)) 212 (mI M 212)) = mK P := rfl
        have xR : mR (sA (sI (sA P 213 kf) 207 26 (nI d)) 212 (mI M 212)) = mR P := rfl
        have xT : mT (sA (sI (sA P 213 kf) 207 26 (nI d)) 212 (mI M 212)) = mT P := rfl
        refine ⟨1, sI N 0 0 0, _, ?_, ?_, RR_fr (X := sA (sI (sA P 213 kf) 207 26 (nI d)) 212 (mI M 212)) H2 u v (by rw [xK, pK, nK0]) (by rw [xR, pR, nR0]) (by rw [xT, pT, nT0]) (by rw [xL, pL, hN]) (fun x h1 h2 h3 => ?_) (fun k hk => ?_) (fun k hk => ?_) ?_⟩
        · unfold f_X11_saves g_X11_saves
          simp (disch := omega) only [↓c_ck hL, ↓c_gI hL, ↓c_sh hL, ↓c_answer hL, ↓c_none hL, ↓c_no hL, ↓c_yes hL, ↓c_isHouse hL S, ↓c_isGang hL S, ↓q_within, ↓bd_s, ↓bv_s, ↓nmI_s, nI_1, ↓reduceIte, ite01z, not_true_eq_false, not_false_eq_true, if_true, if_false, z10, eq_true q, eq_true q1, ↓e_hc S, ↓e_gc S, ↓e_wc S, ↓e_law S, ↓e_min S, ↓l_hs S.1, ↓l_gs S.1, ↓l_ws S.1, ↓l_ds S.1, ↓l_h S.1, ↓l_g S.1, ↓l_w S.1, ↓l_d S.1, ↓e_db S, ↓e_hat S, ↓e_hwo S, ↓e_hpi S, ↓e_hwe S, ↓e_hlo S, ↓e_hpe S, ↓e_hon S, ↓e_hsd S, ↓e_gho S, ↓e_gha S, ↓e_gpa S, ↓e_gat S, ↓e_ghd S, ↓e_gwa S, ↓e_gpc S, ↓e_wst S, ↓e_wch S, ↓lc_h S.1, ↓lc_g S.1, ↓lc_s S.1, eq_false q2, ↓c_dr hL, ↓lc_s (ll_sb hL), e1]
          rw [c_dr hL1, lc_s S1.1, e2, bd_s, c_sh hL2, lc_s Sa.1, p_allCh Sa, bd_s, c_sh hL2, lc_s Sa.1, p_loss Sa, bd_s, c_dr hL2, lc_s S2.1, p_loss S2, bd_s, nmL_s, c_ck hL2, r1, t1, c1, d2, htop]
          rw [lI (by omega), ct, bd_s, zc1]
        · unfold f_X12_saves g_X12_saves
          rw [mp]
          simp (disch := omega) only [↓q_isIn, j0, j1, u1, u3, u4, u5, u8, u9, u20, u60, u99, u100, u240, u9999, ite01z, not_true_eq_false, not_false_eq_true, if_true, if_false, z10, ↓m_r4 DP.1, ↓m_r5 DP.1, ↓m_r6 DP.1, ↓m_r7 DP.1, ↓m_r20 DP.1, ↓m_r21 DP.1, ↓m_r22 DP.1, ↓m_r27 DP.1, ↓m_r28 DP.1, ↓m_r29 DP.1, ↓m_r31 DP.1, ↓m_r32 DP.1, ↓m_r35 DP.1, ↓m_ck DP.1, ↓m_c0 DP, ↓m_c1 DP, ↓m_c2 DP, ↓m_c3 DP, ↓m_c4 DP, ↓m_c DP, i2, i3, i4, i5, i13, i21, i29, i37, i45, i53, i61, i69, i133, i137, i141, i145, i149, i153, i157, i161, i167, i4m, i6m, i8m, i9m, i18m, i60m, i256m, i450m, nI_add, ↓nmI_s, ↓bd_s, ↓bv_s, nI_1, ↓reduceIte, eq_true q, eq_true q1, eq_false q2]
          rw [q_loss DP O, bd_s, m_ck DP.1, kq, bv_s, eK, f_ck DK, qh, bd_s, f_ck DH, q_loss (md_f DH _) S2.2.2, bd_s, f_ck DH, qg, bv_s, f_ck DH, q_allCh (md_f DH _) O, bd_s, f_ck DH, q_allCh (md_f DH _) O, bd_s, f_ck DH, r1, t1, c1, v1, lI (by omega), mf, bd_s, zc1, ← eK]
        · by_cases e212 : x = 212
          · rw [e212, mI_sA_s, i2]
          · rw [mI_sA_o _ _ e212, mI_o h2, mI_sA_o _ _ h3, pI1 x h1 h2, nI0]
        · rw [mI_sA_o _ _ (by decide), mI_o (by decide), mI_sA_o _ _ (by decide), pI2 k hk, nI0]
        · rw [mI_sA_o _ _ (by decide), mI_f (by omega), mI_sA_o _ _ (by decide), pI3 k (by omega) (by omega), nI0]
        · rw [mI_sA_o _ _ (by decide), mI_o (by decide), mI_sA_o _ _ (by decide), mI_sA_o _ _ (by decide), mI_f (by decide), mI_sA_o _ _ (by decide), pI4, pI5]
    · refine ⟨0, sI M 0 0 5, _, ?_, ?_, RR_st hR 5⟩
      · unfold f_X11_saves g_X11_saves
        simp (disch := omega) only [↓c_ck hL, ↓c_gI hL, ↓c_sh hL, ↓c_answer hL, ↓c_none hL, ↓c_no hL, ↓c_yes hL, ↓c_isHouse hL S, ↓c_isGang hL S, ↓q_within, ↓bd_s, ↓bv_s, ↓nmI_s, nI_1, ↓reduceIte, ite01z, not_true_eq_false, not_false_eq_true, if_true, if_false, z10, eq_true q, eq_false q1, f_X11_saves_21, zc0]
      · have D := pre_md hL 5
        unfold f_X12_saves g_X12_saves
        rw [m_pre hL]
        simp (disch := omega) only [↓q_isIn, j0, j1, u1, u3, u4, u5, u8, u9, u20, u60, u99, u100, u240, u9999, ite01z, not_true_eq_false, not_false_eq_true, if_true, if_false, z10, eq_true q, eq_false q1, ↓q_isHouse D, ↓q_isGang D, ↓m_refuse hL, ↓m_no hL, ↓m_r4 D.1, ↓m_r5 D.1, ↓m_r6 D.1, ↓m_r7 D.1, ↓m_r20 D.1, ↓m_r21 D.1, ↓m_r22 D.1, ↓m_r27 D.1, ↓m_r28 D.1, ↓m_r29 D.1, ↓m_r31 D.1, ↓m_r32 D.1, ↓m_r35 D.1, ↓m_ck D.1, ↓m_c0 D, ↓m_c1 D, ↓m_c2 D, ↓m_c3 D, ↓m_c4 D, ↓m_c D, i2, i3, i4, i5, i13, i21, i29, i37, i45, i53, i61, i69, i133, i137, i141, i145, i149, i153, i157, i161, i167, i4m, i6m, i8m, i9m, i18m, i60m, i256m, i450m, nI_add, ↓nmI_s, ↓bd_s, ↓bv_s, nI_1, ↓reduceIte, f_X12_saves_34, zc0]
        rfl
  · refine ⟨0, sI M 0 0 5, _, ?_, ?_, RR_st hR 5⟩
    · unfold f_X11_saves g_X11_saves
      simp (disch := omega) only [↓c_ck hL, ↓c_gI hL, ↓c_sh hL, ↓c_answer hL, ↓c_none hL, ↓c_no hL, ↓c_yes hL, ↓c_isHouse hL S, ↓c_isGang hL S, ↓q_within, ↓bd_s, ↓bv_s, ↓nmI_s, nI_1, ↓reduceIte, ite01z, not_true_eq_false, not_false_eq_true, if_true, if_false, z10, eq_false q, f_X11_saves_21, zc0]
    · have D := pre_md hL 5
      unfold f_X12_saves g_X12_saves
      rw [m_pre hL]
      simp (disch := omega) only [↓q_isIn, j0, j1, u1, u3, u4, u5, u8, u9, u20, u60, u99, u100, u240, u9999, ite01z, not_true_eq_false, not_false_eq_true, if_true, if_false, z10, eq_false q, ↓q_isHouse D, ↓q_isGang D, ↓m_refuse hL, ↓m_no hL, ↓m_r4 D.1, ↓m_r5 D.1, ↓m_r6 D.1, ↓m_r7 D.1, ↓m_r20 D.1, ↓m_r21 D.1, ↓m_r22 D.1, ↓m_r27 D.1, ↓m_r28 D.1, ↓m_r29 D.1, ↓m_r31 D.1, ↓m_r32 D.1, ↓m_r35 D.1, ↓m_ck D.1, ↓m_c0 D, ↓m_c1 D, ↓m_c2 D, ↓m_c3 D, ↓m_c4 D, ↓m_c D, i2, i3, i4, i5, i13, i21, i29, i37, i45, i53, i61, i69, i133, i137, i141, i145, i149, i153, i157, i161, i167, i4m, i6m, i8m, i9m, i18m, i60m, i256m, i450m, nI_add, ↓nmI_s, ↓bd_s, ↓bv_s, nI_1, ↓reduceIte, f_X12_saves_34, zc0]
      rfl
