/-! FEED -/
/-- the byte i of a word, the highest first, as a row of bytes holds it -/
def byV (x : Int32) (i : Nat) : Int32 := (Int8.toInt32 (Int32.toInt8 (x >>> (nI (24 - 8 * i) &&& 31)))).toInt8.toInt32
def tpF (f : Nat → Int32) (n : Nat) (x : Int32) : Nat → Int32 := fun k => if n ≤ k ∧ k < n + 4 then byV x (k - n) else f k
section C
variable {M : Mm} {a b y z : Nat}
theorem t_ck {ρ : Type} (H : LL M a b y z) {x : Option ρ} : ck M (some 1) 6 x = x := ck_s (by rw [H.1.2.2.1.1])
theorem t_gI {ρ : Type} (H : LL M a b y z) {k : Nat} {K : Int32 → Option ρ} : gfI M (some 1) 6 k K = K (mI M 1 k) := gfI_s (by rw [H.1.2.2.1.1])
theorem t_pI {ρ : Type} (H : LL M a b y z) {k : Nat} {v : Int32} {K : Mm → Option ρ} : pfI M (some 1) 6 k v K = K (sI M 1 k v) := pfI_s (by rw [H.1.2.2.1.1])
theorem t_b {ρ : Type} (H : LL M a b y z) {K : Option Nat → Option ρ} : gfR M (some 1) 6 0 K = K (some 2) := by rw [gfR_s (by rw [H.1.2.2.1.1]), H.1.2.2.1.2.1]
theorem t_put1 (H : LL M a b y z) {n : Nat} (hn : mI M 1 1 = nI n) (h9 : n < 900) (x s : Int32) (hs : ¬ s < 0) (f : Nat) : f_X6_put_3 (f + 1) M (some 1) x s = f_X6_put_3 f (sI (sI M 2 n (Int8.toInt32 (Int32.toInt8 (x >>> (s &&& 31)))).toInt8.toInt32) 1 1 (nI (n + 1))) (some 1) x (s + (-8)) := by
  have H1 : LL (sI M 2 n (Int8.toInt32 (Int32.toInt8 (x >>> (s &&& 31)))).toInt8.toInt32) a b y z := LL_same H rfl rfl rfl
  rw [f_X6_put_3, if_neg hs, t_gI H, hn, if_neg (by rw [show (900 : Int32) = nI 900 from rfl, nI_leI' (by omega) (by omega)]; omega), t_b H, t_gI H, hn, asB_s H.1.2.2.1.2.2.2.1 h9 (by decide), t_gI H1, mI_o (by decide), hn, t_pI H1, nI_1]
theorem n_lay1 (D : mdL M) {n : Nat} (hn : mI M 207 8 = nI n) (h9 : n < 900) (x s : Int32) (hs : ¬ s < 0) (f : Nat) : f_X12_lay_2 (f + 1) M (some 207) x s = f_X12_lay_2 f (sI (sI M 211 n (Int8.toInt32 (Int32.toInt8 (x >>> ((8 * s) &&& 31)))).toInt8.toInt32) 207 8 (nI (n + 1))) (some 207) x (s + (-1)) := by
  have D1 : mdL (sI M 211 n (Int8.toInt32 (Int32.toInt8 (x >>> ((8 * s) &&& 31)))).toInt8.toInt32) := D
  rw [f_X12_lay_2, if_neg hs, m_r7 D, m_gI D, hn, asB_s D.2.2.2.2.1.2 h9 (by decide), m_gI D1, mI_o (by decide), hn, m_pI D1, nI_1]
/-- four bytes more -/
theorem t_put (H : LL M a b y z) {n : Nat} (hn : mI M 1 1 = nI n) (h9 : n + 4 ≤ 900) (x : Int32) : ∃ M', f_X6_put M (some 1) x = some M' ∧ (mK M' = mK M ∧ mR M' = mR M ∧ mT M' = mT M ∧ mL M' = mL M) ∧ (∀ r, r ≠ 1 → r ≠ 2 → mI M' r = mI M r) ∧ mI M' 1 1 = nI (n + 4) ∧ mI M' 2 = tpF (mI M 2) n x := by
  have go : ∀ (M : Mm) (n : Nat) (s : Int32) (i : Nat), LL M a b y z → mI M 1 1 = nI n → n < 900 → s = nI (24 - 8 * i) → i < 4 → ∃ M', (∀ f, f_X6_put_3 (f + 1) M (some 1) x s = f_X6_put_3 f M' (some 1) x (s + (-8))) ∧ (mK M' = mK M ∧ mR M' = mR M ∧ mT M' = mT M ∧ mL M' = mL M) ∧ (∀ r, r ≠ 1 → r ≠ 2 → mI M' r = mI M r) ∧ mI M' 1 1 = nI (n + 1) ∧ mI M' 2 = upd (mI M 2) n (byV x i) := by
    intro M n s i H hn h9 hs hi
    have hs0 : ¬ s < 0 := by rw [hs]; exact nI_pos (by omega)
    refine ⟨_, fun f => t_put1 H hn h9 x s hs0 f, ⟨rfl, rfl, rfl, rfl⟩, fun r h1 h2 => by rw [mI_o h1, mI_o h2], mI_sI_s _ _ _ _, ?_⟩
    rw [mI_o (by decide), hs]
    funext k
    rw [mI_sI]
    by_cases q : k = n
    · rw [if_pos ⟨rfl, q⟩, q, pk_us]
      rfl
    · rw [if_neg (fun z => q z.2), pk_un q]
  obtain ⟨M1, f1, k1, r1, l1, v1⟩ := go M n 24 0 H hn (by omega) (by decide) (by omega)
  have H1 := LL_same H k1.1 k1.2.1 k1.2.2.1
  obtain ⟨M2, f2, k2, r2, l2, v2⟩ := go M1 (n + 1) 16 1 H1 l1 (by omega) (by decide) (by omega)
  have H2 := LL_same H1 k2.1 k2.2.1 k2.2.2.1
  obtain ⟨M3, f3, k3, r3, l3, v3⟩ := go M2 (n + 1 + 1) 8 2 H2 l2 (by omega) (by decide) (by omega)
  have H3 := LL_same H2 k3.1 k3.2.1 k3.2.2.1
  obtain ⟨M4, f4, k4, r4, l4, v4⟩ := go M3 (n + 1 + 1 + 1) 0 3 H3 l3 (by omega) (by decide) (by omega)
  refine ⟨M4, ?_, ⟨by rw [k4.1, k3.1, k2.1, k1.1], by rw [k4.2.1, k3.2.1, k2.2.1, k1.2.1], by rw [k4.2.2.1, k3.2.2.1, k2.2.2.1, k1.2.2.1], by rw [k4.2.2.2, k3.2.2.2, k2.2.2.2, k1.2.2.2]⟩, fun r h1 h2 => by rw [r4 r h1 h2, r3 r h1 h2, r2 r h1 h2, r1 r h1 h2], l4, ?_⟩
  · unfold f_X6_put
    rw [show fu = 65531 + 1 + 1 + 1 + 1 + 1 from rfl, f1, show (24 : Int32) + (-8) = 16 by decide, f2, show (16 : Int32) + (-8) = 8 by decide, f3, show (8 : Int32) + (-8) = 0 by decide, f4, f_X6_put_3, if_pos (by decide)]
  · rw [v4, v3, v2, v1]
    funext k
    unfold tpF upd
    by_cases q0 : k = n
    · rw [if_neg (by omega), if_neg (by omega), if_neg (by omega), if_pos q0, if_pos (by omega), show k - n = 0 by omega]
    · by_cases q1 : k = n + 1
      · rw [if_neg (by omega), if_neg (by omega), if_pos q1, if_pos (by omega), show k - n = 1 by omega]
      · by_cases q2 : k = n + 1 + 1
        · rw [if_neg (by omega), if_pos q2, if_pos (by omega), show k - n = 2 by omega]
        · by_cases q3 : k = n + 1 + 1 + 1
          · rw [if_pos q3, if_pos (by omega), show k - n = 3 by omega]
          · rw [if_neg q3, if_neg q2, if_neg q1, if_neg q0, if_neg (by omega)]
theorem n_lay (D : mdL M) {n : Nat} (hn : mI M 207 8 = nI n) (h9 : n + 4 ≤ 900) (x : Int32) : ∃ M', f_X12_lay M (some 207) x = some M' ∧ (mK M' = mK M ∧ mR M' = mR M ∧ mT M' = mT M ∧ mL M' = mL M) ∧ (∀ r, r ≠ 207 → r ≠ 211 → mI M' r = mI M r) ∧ (∀ k, k ≠ 8 → mI M' 207 k = mI M 207 k) ∧ mI M' 207 8 = nI (n + 4) ∧ mI M' 211 = tpF (mI M 211) n x := by
  have go : ∀ (M : Mm) (n : Nat) (s : Int32) (i : Nat), mdL M → mI M 207 8 = nI n → n < 900 → s = nI (3 - i) → 8 * s = nI (24 - 8 * i) → i < 4 → ∃ M', (∀ f, f_X12_lay_2 (f + 1) M (some 207) x s = f_X12_lay_2 f M' (some 207) x (s + (-1))) ∧ (mK M' = mK M ∧ mR M' = mR M ∧ mT M' = mT M ∧ mL M' = mL M) ∧ (∀ r, r ≠ 207 → r ≠ 211 → mI M' r = mI M r) ∧ (∀ k, k ≠ 8 → mI M' 207 k = mI M 207 k) ∧ mI M' 207 8 = nI (n + 1) ∧ mI M' 211 = upd (mI M 211) n (byV x i) := by
    intro M n s i D hn h9 hs hs8 hi
    have hs0 : ¬ s < 0 := by rw [hs]; exact nI_pos (by omega)
    refine ⟨_, fun f => n_lay1 D hn h9 x s hs0 f, ⟨rfl, rfl, rfl, rfl⟩, fun r h1 h2 => by rw [mI_o h1, mI_o h2], fun k hk => by rw [mI_f hk, mI_o (by decide)], mI_sI_s _ _ _ _, ?_⟩
    rw [mI_o (by decide), hs8]
    funext k
    rw [mI_sI]
    by_cases q : k = n
    · rw [if_pos ⟨rfl, q⟩, q, pk_us]
      rfl
    · rw [if_neg (fun z => q z.2), pk_un q]
  have dS : ∀ {M M' : Mm}, mdL M → (mK M' = mK M ∧ mR M' = mR M ∧ mT M' = mT M ∧ mL M' = mL M) → mdL M' := fun D h => by
    unfold mdL at *
    rw [h.1, h.2.1]
    exact D
  obtain ⟨M1, f1, k1, r1, s1, l1, v1⟩ := go M n 3 0 D hn (by omega) (by decide) (by decide) (by omega)
  have D1 := dS D k1
  obtain ⟨M2, f2, k2, r2, s2, l2, v2⟩ := go M1 (n + 1) 2 1 D1 l1 (by omega) (by decide) (by decide) (by omega)
  have D2 := dS D1 k2
  obtain ⟨M3, f3, k3, r3, s3, l3, v3⟩ := go M2 (n + 1 + 1) 1 2 D2 l2 (by omega) (by decide) (by decide) (by omega)
  have D3 := dS D2 k3
  obtain ⟨M4, f4, k4, r4, s4, l4, v4⟩ := go M3 (n + 1 + 1 + 1) 0 3 D3 l3 (by omega) (by decide) (by decide) (by omega)
  refine ⟨M4, ?_, ⟨by rw [k4.1, k3.1, k2.1, k1.1], by rw [k4.2.1, k3.2.1, k2.2.1, k1.2.1], by rw [k4.2.2.1, k3.2.2.1, k2.2.2.1, k1.2.2.1], by rw [k4.2.2.2, k3.2.2.2, k2.2.2.2, k1.2.2.2]⟩, fun r h1 h2 => by rw [r4 r h1 h2, r3 r h1 h2, r2 r h1 h2, r1 r h1 h2], fun k hk => by rw [s4 k hk, s3 k hk, s2 k hk, s1 k hk], l4, ?_⟩
  · unfold f_X12_lay
    rw [show fu = 65531 + 1 + 1 + 1 + 1 + 1 from rfl, f1, show (3 : Int32) + (-1) = 2 by decide, f2, show (2 : Int32) + (-1) = 1 by decide, f3, show (1 : Int32) + (-1) = 0 by decide, f4, f_X12_lay_2, if_pos (by decide)]
  · rw [v4, v3, v2, v1]
    funext k
    unfold tpF upd
    by_cases q0 : k = n
    · rw [if_neg (by omega), if_neg (by omega), if_neg (by omega), if_pos q0, if_pos (by omega), show k - n = 0 by omega]
    · by_cases q1 : k = n + 1
      · rw [if_neg (by omega), if_neg (by omega), if_pos q1, if_pos (by omega), show k - n = 1 by omega]
      · by_cases q2 : k = n + 1 + 1
        · rw [if_neg (by omega), if_pos q2, if_pos (by omega), show k - n = 2 by omega]
        · by_cases q3 : k = n + 1 + 1 + 1
          · rw [if_pos q3, if_pos (by omega), show k - n = 3 by omega]
          · rw [if_neg q3, if_neg q2, if_neg q1, if_neg q0, if_neg (by omega)]
end C
/-- the tape alone changed -/
theorem RA_tp {M M' : Mm} {a b y z : Nat} (H : RA M a b y z) (hK : mK M' = mK M) (hR : mR M' = mR M) (hT : mT M' = mT M) (hL : mL M' = mL M) (hI : ∀ x, x ≠ 1 → x ≠ 2 → x ≠ 207 → x ≠ 211 → mI M' x = mI M x) (h7 : ∀ k, k = 0 ∨ k = 10 ∨ k = 11 ∨ k = 23 ∨ k = 30 ∨ k = 33 ∨ k = 36 → mI M' 207 k = mI M 207 k) (hTp : ∃ n, n ≤ 900 ∧ mI M' 1 1 = nI n ∧ mI M' 207 8 = nI n ∧ ∀ k, k < n → mI M' 2 k = mI M' 211 k ∧ ∃ v : Int32, mI M' 2 k = v.toInt8.toInt32) : RA M' a b y z := by
  obtain ⟨hLL, hS, hN, hs, h1, h2, h3, h4, h5, h6, h7', h8⟩ := H
  have ha := ll_a hLL
  have hy := ll_y hLL
  have e2 : mI M' 212 = mI M 212 := hI 212 (by omega) (by omega) (by omega) (by omega)
  have ecb : ∀ i, cb M' (i + 1) = cb M (i + 1) := fun i => by unfold cb; rw [e2]
  have e0 : mI M' 0 = mI M 0 := hI 0 (by omega) (by omega) (by omega) (by omega)
  have hI2 : ∀ x, 3 ≤ x → x < 207 → mI M' x = mI M x := fun x h1 h2 => hI x (by omega) (by omega) (by omega) (by omega)
  rw [RA, e2]
  refine ⟨LL_same hLL hK hR hT, shO_same hS hK hR (fun x x1 x2 => hI2 x (by omega) (by omega)), rNm_same hN hL rfl rfl rfl hN.1, ?_, ?_, ?_, ?_, ?_, ?_, ?_, ?_, ?_⟩
  · rw [e0, h7 0 (by omega)]; exact hs
  · unfold rFr at *; rw [hL]; exact h1
  · unfold rFa at *; rw [e0, h7 10 (by omega), h7 11 (by omega)]; exact h2
  · exact ⟨hTp, by rw [hL]; exact h3.2⟩
  · unfold rTy at *; rw [hL, hI2 11 (by omega) (by omega), hI2 10 (by omega) (by omega), hI 209 (by omega) (by omega) (by omega) (by omega), hI 208 (by omega) (by omega) (by omega) (by omega)]; exact h4
  · rw [e2]
    exact rYr_same (fun x x1 x2 => hI2 x (by omega) (by omega)) rfl rfl (fun k hk => rfl) h5
  · obtain ⟨n, n3, e1, e2, hm⟩ := h6
    refine ⟨n, n3, by rw [e0]; exact e1, by rw [h7 23 (by omega)]; exact e2, fun i hi => ?_⟩
    obtain ⟨m1, m2, m3⟩ := hm i hi
    rw [ecb i]
    exact ⟨shO_same m1 hK hR (fun x x1 x2 => hI2 x (by omega) (by omega)), rNm_same m2 hL rfl rfl rfl m2.1, rYr_same (fun x x1 x2 => hI2 x (by omega) (by omega)) rfl rfl (fun k hk => rfl) m3⟩
  · unfold rPl at *; rw [e0, h7 30 (by omega), h7 33 (by omega), hI2 88 (by omega) (by omega), hI2 89 (by omega) (by omega), hI 218 (by omega) (by omega) (by omega) (by omega)]; exact h7'
  · unfold rLi at *; rw [e0, h7 36 (by omega), hI2 92 (by omega) (by omega), hI 220 (by omega) (by omega) (by omega) (by omega)]; exact h8
theorem tpF_cong {f g : Nat → Int32} {n : Nat} {x : Int32} (h : ∀ k, k < n → f k = g k) : ∀ k, k < n + 4 → tpF f n x k = tpF g n x k := fun k hk => by
  unfold tpF
  by_cases q : n ≤ k ∧ k < n + 4
  · rw [if_pos q, if_pos q]
  · rw [if_neg q, if_neg q, h k (by omega)]
theorem tpF_by {f : Nat → Int32} {n : Nat} {x : Int32} (h : ∀ k, k < n → ∃ v : Int32, f k = v.toInt8.toInt32) : ∀ k, k < n + 4 → ∃ v : Int32, tpF f n x k = v.toInt8.toInt32 := fun k hk => by
  unfold tpF
  by_cases q : n ≤ k ∧ k < n + 4
  · rw [if_pos q]
    exact ⟨_, rfl⟩
  · rw [if_neg q]
    exact h k (by omega)
theorem op_feed (x1 x2 x3 x4 x5 : Int32) : opI (fun M => f_X11_feed M (some 0) x1 x2 x3 x4 x5) (fun M => f_X12_feed M (some 207) x1 x2 x3 x4 x5) := by
  intro M hR
  dsimp only
  obtain ⟨a, b, y, z, H⟩ := id hR
  have hL := H.1
  obtain ⟨⟨n, hn, e1, e2, e3⟩, -⟩ := H.2.2.2.2.2.2.1
  have D1 : mdL (sI M 207 1 0) := hL.2.2.1
  by_cases q : nI n + 20 ≤ 900
  · have hn2 : n + 20 ≤ 900 := by
      rw [show (20 : Int32) = nI 20 from rfl, show (900 : Int32) = nI 900 from rfl, nI_add, nI_leI' (by omega) (by omega)] at q
      exact q
    obtain ⟨A1, a1, ak1, ar1, al1, av1⟩ := t_put hL e1 (by omega) x1
    have H1 := LL_same hL ak1.1 ak1.2.1 ak1.2.2.1
    obtain ⟨A2, a2, ak2, ar2, al2, av2⟩ := t_put H1 al1 (by omega) x2
    have H2 := LL_same H1 ak2.1 ak2.2.1 ak2.2.2.1
    obtain ⟨A3, a3, ak3, ar3, al3, av3⟩ := t_put H2 al2 (by omega) x3
    have H3 := LL_same H2 ak3.1 ak3.2.1 ak3.2.2.1
    obtain ⟨A4, a4, ak4, ar4, al4, av4⟩ := t_put H3 al3 (by omega) x4
    have H4 := LL_same H3 ak4.1 ak4.2.1 ak4.2.2.1
    obtain ⟨A5, a5, ak5, ar5, al5, av5⟩ := t_put H4 al4 (by omega) x5
    have H5 := LL_same H4 ak5.1 ak5.2.1 ak5.2.2.1
    have cK : mK A5 = mK M ∧ mR A5 = mR M ∧ mT A5 = mT M ∧ mL A5 = mL M := ⟨by rw [ak5.1, ak4.1, ak3.1, ak2.1, ak1.1], by rw [ak5.2.1, ak4.2.1, ak3.2.1, ak2.2.1, ak1.2.1], by rw [ak5.2.2.1, ak4.2.2.1, ak3.2.2.1, ak2.2.2.1, ak1.2.2.1], by rw [ak5.2.2.2, ak4.2.2.2, ak3.2.2.2, ak2.2.2.2, ak1.2.2.2]⟩
    have cI : ∀ r, r ≠ 1 → r ≠ 2 → mI A5 r = mI M r := fun r h1 h2 => by rw [ar5 r h1 h2, ar4 r h1 h2, ar3 r h1 h2, ar2 r h1 h2, ar1 r h1 h2]
    have DA : mdL (sI A5 207 1 0) := H5.2.2.1
    have f0 : mI (sI A5 207 1 0) 207 8 = nI n := by rw [mI_f (by decide), cI 207 (by decide) (by decide), e2]
    have dS : ∀ {M M' : Mm}, mdL M → (mK M' = mK M ∧ mR M' = mR M ∧ mT M' = mT M ∧ mL M' = mL M) → mdL M' := fun D h => by
      unfold mdL at *
      rw [h.1, h.2.1]
      exact D
    obtain ⟨B1, b1, bk1, br1, bs1, bl1, bv1⟩ := n_lay DA f0 (by omega) x1
    have G1 := dS DA bk1
    obtain ⟨B2, b2, bk2, br2, bs2, bl2, bv2⟩ := n_lay G1 bl1 (by omega) x2
    have G2 := dS G1 bk2
    obtain ⟨B3, b3, bk3, br3, bs3, bl3, bv3⟩ := n_lay G2 bl2 (by omega) x3
    have G3 := dS G2 bk3
    obtain ⟨B4, b4, bk4, br4, bs4, bl4, bv4⟩ := n_lay G3 bl3 (by omega) x4
    have G4 := dS G3 bk4
    obtain ⟨B5, b5, bk5, br5, bs5, bl5, bv5⟩ := n_lay G4 bl4 (by omega) x5
    have G5 := dS G4 bk5
    have sK : mK (sI A5 207 1 0) = mK A5 ∧ mR (sI A5 207 1 0) = mR A5 ∧ mT (sI A5 207 1 0) = mT A5 ∧ mL (sI A5 207 1 0) = mL A5 := ⟨rfl, rfl, rfl, rfl⟩
    have bI : ∀ r, r ≠ 207 → r ≠ 211 → mI B5 r = mI A5 r := fun r h1 h2 => by rw [br5 r h1 h2, br4 r h1 h2, br3 r h1 h2, br2 r h1 h2, br1 r h1 h2, mI_o h1]
    refine ⟨nI (n + 4 + 4 + 4 + 4 + 4), A5, B5, ?_, ?_, a, b, y, z, RA_tp H (by rw [bk5.1, bk4.1, bk3.1, bk2.1, bk1.1, sK.1, cK.1]) (by rw [bk5.2.1, bk4.2.1, bk3.2.1, bk2.2.1, bk1.2.1, sK.2.1, cK.2.1]) (by rw [bk5.2.2.1, bk4.2.2.1, bk3.2.2.1, bk2.2.2.1, bk1.2.2.1, sK.2.2.1, cK.2.2.1]) (by rw [bk5.2.2.2, bk4.2.2.2, bk3.2.2.2, bk2.2.2.2, bk1.2.2.2, sK.2.2.2, cK.2.2.2]) (fun r h1 h2 h3 h4 => by rw [bI r h3 h4, cI r h1 h2]) (fun k hk => by rw [bs5 k (by omega), bs4 k (by omega), bs3 k (by omega), bs2 k (by omega), bs1 k (by omega), mI_f (by omega), cI 207 (by decide) (by decide)]) ⟨n + 4 + 4 + 4 + 4 + 4, by omega, by rw [bI 1 (by decide) (by decide)]; exact al5, bl5, fun k hk => ?_⟩⟩
    · unfold f_X11_feed
      rw [c_tp hL, t_gI hL, e1, if_pos q, c_tp hL, t_ck hL, a1, bv_s, c_tp H1, t_ck H1, a2, bv_s, c_tp H2, t_ck H2, a3, bv_s, c_tp H3, t_ck H3, a4, bv_s, c_tp H4, t_ck H4, a5, bv_s, c_tp H5, t_gI H5, al5]
    · unfold f_X12_feed
      rw [m_pI H5.2.2.1, m_gI DA, f0, if_pos q, m_ck DA, b1, bv_s, m_ck G1, b2, bv_s, m_ck G2, b3, bv_s, m_ck G3, b4, bv_s, m_ck G4, b5, bv_s, m_gI G5, bl5]
    · have i0 : mI (sI A5 207 1 0) 211 = mI M 211 := by rw [mI_o (by decide), cI 211 (by decide) (by decide)]
      rw [bI 2 (by decide) (by decide), av5, av4, av3, av2, av1, bv5, bv4, bv3, bv2, bv1, i0]
      exact ⟨tpF_cong (tpF_cong (tpF_cong (tpF_cong (tpF_cong (fun k hk => (e3 k hk).1))))) k hk, tpF_by (tpF_by (tpF_by (tpF_by (tpF_by (fun k hk => (e3 k hk).2))))) k hk⟩
  · refine ⟨-1, M, _, ?_, ?_, RR_t hR⟩
    · unfold f_X11_feed
      rw [c_tp hL, t_gI hL, e1, if_neg q]
    · unfold f_X12_feed
      rw [m_pI hL.2.2.1, m_gI D1, mI_f (by decide), e2, if_neg q]
