/-! TRAYS -/
theorem RA_ty {M M' : Mm} {a b y z : Nat} (H : RA M a b y z) (hK : mK M' = mK M) (hR : mR M' = mR M) (hT : mT M' = mT M) (hI : ∀ x, x ≠ 0 → x ≠ 207 → x ≠ 10 → x ≠ 11 → x ≠ 208 → x ≠ 209 → mI M' x = mI M x) (h0 : ∀ k, k ≠ 0 → mI M' 0 k = mI M 0 k) (h7 : ∀ k, k = 8 ∨ k = 10 ∨ k = 11 ∨ k = 23 ∨ k = 30 ∨ k = 33 ∨ k = 36 → mI M' 207 k = mI M 207 k) (hs : mI M' 0 0 = mI M' 207 0) (hL : ∀ x, x < 6 ∨ 10 ≤ x → x ≠ 210 → mL M' x = mL M x) (hTy : rTy M') : RA M' a b y z := by
  obtain ⟨hLL, hS, hN, -, h1, h2, h3, -, h5, h6, h7', h8⟩ := H
  have ha := ll_a hLL
  have hy := ll_y hLL
  have e2 : mI M' 212 = mI M 212 := hI 212 (by omega) (by omega) (by omega) (by omega) (by omega) (by omega)
  have ecb : ∀ i, cb M' (i + 1) = cb M (i + 1) := fun i => by unfold cb; rw [e2]
  have nmS : ∀ a' j c, okC c → (12 ≤ a' ∧ a' + 31 ≤ 207) → rNm M a' j c → rNm M' a' j c := fun a' j c O hr h => by
    have h8 := (ok_h O).2
    have g4 := (ok_g O).2
    have w6 := (ok_w O).2
    obtain ⟨h9, h1, h2, h3⟩ := h
    refine ⟨h9, fun i hi => ?_, fun i hi => ?_, fun i hi => ?_⟩
    · rw [hL _ (by omega) (by omega), hL 214 (by omega) (by omega)]; exact h1 i hi
    · rw [hL _ (by omega) (by omega), hL 214 (by omega) (by omega)]; exact h2 i hi
    · rw [hL _ (by omega) (by omega), hL 214 (by omega) (by omega)]; exact h3 i hi
  have hI2 : ∀ x, 12 ≤ x → x < 207 → mI M' x = mI M x := fun x h1 h2 => hI x (by omega) (by omega) (by omega) (by omega) (by omega) (by omega)
  rw [RA, e2]
  refine ⟨LL_same hLL hK hR hT, shO_same hS hK hR (fun x x1 x2 => hI2 x (by omega) (by omega)), nmS a 0 _ hS.2.2 (by omega) hN, hs, ?_, ?_, ?_, hTy, ?_, ?_, ?_, ?_⟩
  · unfold rFr at *; rw [hL 0 (by omega) (by omega), hL 207 (by omega) (by omega)]; exact h1
  · unfold rFa at *; rw [h0 3 (by omega), h0 4 (by omega), h7 10 (by omega), h7 11 (by omega)]; exact h2
  · unfold rTp at *; rw [hL 3 (by omega) (by omega), hI 1 (by omega) (by omega) (by omega) (by omega) (by omega) (by omega), hI 2 (by omega) (by omega) (by omega) (by omega) (by omega) (by omega), hI 211 (by omega) (by omega) (by omega) (by omega) (by omega) (by omega), h7 8 (by omega)]; exact h3
  · rw [e2]
    exact rYr_same (fun x x1 x2 => hI2 x (by omega) (by omega)) rfl rfl (fun k hk => rfl) h5
  · obtain ⟨n, n3, e1, e2, hm⟩ := h6
    refine ⟨n, n3, by rw [h0 13 (by omega)]; exact e1, by rw [h7 23 (by omega)]; exact e2, fun i hi => ?_⟩
    obtain ⟨m1, m2, m3⟩ := hm i hi
    rw [ecb i]
    exact ⟨shO_same m1 hK hR (fun x x1 x2 => hI2 x (by omega) (by omega)), nmS _ _ _ m1.2.2 (by omega) m2, rYr_same (fun x x1 x2 => hI2 x (by omega) (by omega)) rfl rfl (fun k hk => rfl) m3⟩
  · unfold rPl at *; rw [h0 15 (by omega), h7 30 (by omega), h7 33 (by omega), hI2 88 (by omega) (by omega), hI2 89 (by omega) (by omega), hI 218 (by omega) (by omega) (by omega) (by omega) (by omega) (by omega)]; exact h7'
  · unfold rLi at *; rw [h0 18 (by omega), h7 36 (by omega), hI2 92 (by omega) (by omega), hI 220 (by omega) (by omega) (by omega) (by omega) (by omega) (by omega)]; exact h8
section C
variable {ρ : Type} {M : Mm} {a b y z : Nat}
theorem y_ck (H : LL M a b y z) {x : Option ρ} : ck M (some 4) 7 x = x := ck_s (by rw [H.1.2.1.1])
theorem y_r (H : LL M a b y z) {K : Option Nat → Option ρ} : gfR M (some 4) 7 0 K = K (some 5) := by rw [gfR_s (by rw [H.1.2.1.1]), H.1.2.1.2.1]
theorem y_s (H : LL M a b y z) {K : Option Nat → Option ρ} : gfR M (some 4) 7 1 K = K (some 10) := by rw [gfR_s (by rw [H.1.2.1.1]), H.1.2.1.2.2.1]
theorem y_l (H : LL M a b y z) {K : Option Nat → Option ρ} : gfR M (some 4) 7 2 K = K (some 11) := by rw [gfR_s (by rw [H.1.2.1.1]), H.1.2.1.2.2.2.1]
theorem y_rr (H : LL M a b y z) {t : Nat} (ht : t < 4) {K : Option Nat → Option ρ} : alR M (some 5) 51 (nI t) K = K (some (6 + t)) := by rw [alR_s H.1.2.1.2.2.2.2.1 ht (by decide), (H.1.2.1.2.2.2.2.2.2.2 t ht).1]
theorem y_gs (H : LL M a b y z) {t : Nat} (ht : t < 4) {K : Int32 → Option ρ} : alI M (some 10) 21 (nI t) K = K (mI M 10 t) := alI_s H.1.2.1.2.2.2.2.2.1 ht (by decide)
theorem y_gl (H : LL M a b y z) {t : Nat} (ht : t < 4) {K : Int32 → Option ρ} : alI M (some 11) 21 (nI t) K = K (mI M 11 t) := alI_s H.1.2.1.2.2.2.2.2.2.1 ht (by decide)
theorem y_ps (H : LL M a b y z) {t : Nat} (ht : t < 4) {v : Int32} {K : Mm → Option ρ} : asI M (some 10) 21 (nI t) v K = K (sI M 10 t v) := asI_s H.1.2.1.2.2.2.2.2.1 ht (by decide)
theorem y_pl (H : LL M a b y z) {t : Nat} (ht : t < 4) {v : Int32} {K : Mm → Option ρ} : asI M (some 11) 21 (nI t) v K = K (sI M 11 t v) := asI_s H.1.2.1.2.2.2.2.2.2.1 ht (by decide)
theorem y_g (H : LL M a b y z) {t k : Nat} (ht : t < 4) (hk : k < 60) {K : Int64 → Option ρ} : alL M (some (6 + t)) 22 (nI k) K = K (mL M (6 + t) k) := alL_s (H.1.2.1.2.2.2.2.2.2.2 t ht).2 hk (by decide)
theorem y_p (H : LL M a b y z) {t k : Nat} (ht : t < 4) (hk : k < 60) {v : Int64} {K : Mm → Option ρ} : asL M (some (6 + t)) 22 (nI k) v K = K (sL M (6 + t) k v) := asL_s (H.1.2.1.2.2.2.2.2.2.2 t ht).2 hk (by decide)
theorem n_s (D : mdL M) {t : Nat} (ht : t < 4) {K : Int32 → Option ρ} : alI M (some 208) 21 (nI t) K = K (mI M 208 t) := alI_s D.2.1.2 ht (by decide)
theorem n_l (D : mdL M) {t : Nat} (ht : t < 4) {K : Int32 → Option ρ} : alI M (some 209) 21 (nI t) K = K (mI M 209 t) := alI_s D.2.2.1.2 ht (by decide)
theorem n_ps (D : mdL M) {t : Nat} (ht : t < 4) {v : Int32} {K : Mm → Option ρ} : asI M (some 208) 21 (nI t) v K = K (sI M 208 t v) := asI_s D.2.1.2 ht (by decide)
theorem n_pl (D : mdL M) {t : Nat} (ht : t < 4) {v : Int32} {K : Mm → Option ρ} : asI M (some 209) 21 (nI t) v K = K (sI M 209 t v) := asI_s D.2.2.1.2 ht (by decide)
theorem n_g (D : mdL M) {k : Nat} (hk : k < 240) {K : Int64 → Option ρ} : alL M (some 210) 22 (nI k) K = K (mL M 210 k) := alL_s D.2.2.2.1.2 hk (by decide)
theorem n_p (D : mdL M) {k : Nat} (hk : k < 240) {v : Int64} {K : Mm → Option ρ} : asL M (some 210) 22 (nI k) v K = K (sL M 210 k v) := asL_s D.2.2.2.1.2 hk (by decide)
theorem y_has (x : Int32) : f_X7_has M (some 4) x = some (if 0 ≤ x ∧ x < 4 then 1 else 0, M) := by
  unfold f_X7_has g_X7_has
  by_cases h1 : x < 0
  · rw [if_pos h1, zc0, if_neg (fun z => absurd z.1 (Int32.not_le.mpr h1))]
  · rw [if_neg h1]
    by_cases h2 : 4 ≤ x
    · rw [if_pos h2, zc0, if_neg (fun z => absurd z.2 (Int32.not_lt.mpr h2))]
    · rw [if_neg h2, zc1, if_pos ⟨Int32.not_lt.mp h1, Int32.not_le.mp h2⟩]
theorem y_miss (H : LL M a b y z) {t : Nat} (ht : t < 4) : f_X7_isMissing M (some 4) (nI t) = some (if mI M 11 t = -1 then 1 else 0, M) := by
  unfold f_X7_isMissing g_X7_isMissing
  rw [y_l H, y_gl H ht]
  exact zc_if
theorem y_reach (H : LL M a b y z) {t : Nat} (ht : t < 4) (p k : Int32) : f_X7_reaches M (some 4) (nI t) p k = some (if 0 ≤ p ∧ k ≤ mI M 11 t ∧ p ≤ mI M 11 t - k then 1 else 0, M) := by
  unfold f_X7_reaches g_X7_reaches
  by_cases h1 : p < 0
  · rw [if_pos h1, zc0, if_neg (fun z => absurd z.1 (Int32.not_le.mpr h1))]
  · rw [if_neg h1, y_l H, y_gl H ht]
    by_cases h2 : mI M 11 t < k
    · rw [if_pos h2, zc0, if_neg (fun z => absurd z.2.1 (Int32.not_le.mpr h2))]
    · rw [if_neg h2, y_l H, y_gl H ht]
      by_cases h3 : mI M 11 t - k < p
      · rw [if_pos h3, zc0, if_neg (fun z => absurd z.2.2 (Int32.not_le.mpr h3))]
      · rw [if_neg h3, zc1, if_pos ⟨Int32.not_lt.mp h1, Int32.not_lt.mp h2, Int32.not_lt.mp h3⟩]
theorem tIx {x : Int32} (h : 0 ≤ x ∧ x < 4) : ∃ t, t < 4 ∧ x = nI t := by
  obtain ⟨k, hk, rfl⟩ := nI_of (Int32.not_lt.mpr h.1)
  have := h.2
  rw [show (4 : Int32) = nI 4 from rfl, nI_ltI' hk (by omega)] at this
  exact ⟨k, this, rfl⟩
theorem y_why (H : LL M a b y z) (x p k : Int32) : f_X7_whyNot M (some 4) x p k = some (if 0 ≤ x ∧ x < 4 then (if mI M 11 x.toNatClampNeg = -1 then 3 else if 0 ≤ p ∧ k ≤ mI M 11 x.toNatClampNeg ∧ p ≤ mI M 11 x.toNatClampNeg - k then 0 else 4) else 1, M) := by
  unfold f_X7_whyNot
  rw [y_ck H, y_has, bd_s]
  by_cases q : 0 ≤ x ∧ x < 4
  · obtain ⟨t, ht, rfl⟩ := tIx q
    rw [if_pos q, if_pos q, if_neg (by decide), y_ck H, y_miss H ht, bd_s, nI_cl (by omega)]
    by_cases q2 : mI M 11 t = -1
    · rw [if_pos q2, if_pos q2, if_neg (by decide)]
    · rw [if_neg q2, if_neg q2, if_pos rfl, y_ck H, y_reach H ht, bd_s]
      by_cases q3 : 0 ≤ p ∧ k ≤ mI M 11 t ∧ p ≤ mI M 11 t - k
      · rw [if_pos q3, if_pos q3, if_neg (by decide)]
      · rw [if_neg q3, if_neg q3, if_pos rfl]
  · rw [if_neg q, if_neg q, if_pos rfl]
theorem n_trayed (D : mdL M) (x : Int32) : f_X12_trayed M (some 207) x = some (if 0 ≤ x ∧ x < 4 then (if 0 ≤ mI M 209 x.toNatClampNeg then 0 else 3) else 1, M) := by
  unfold f_X12_trayed
  by_cases h1 : x < 0
  · rw [if_pos h1, if_neg (fun z => absurd z.1 (Int32.not_le.mpr h1)), f_X12_trayed_9]
  · rw [if_neg h1]
    by_cases h2 : x < 4
    · have q : 0 ≤ x ∧ x < 4 := ⟨Int32.not_lt.mp h1, h2⟩
      obtain ⟨t, ht, rfl⟩ := tIx q
      rw [if_pos h2, if_pos q, m_r5 D, n_l D ht, nI_cl (by omega)]
      by_cases q2 : 0 ≤ mI M 209 t
      · rw [if_pos q2, if_pos q2]
      · rw [if_neg q2, if_neg q2]
    · rw [if_neg h2, if_neg (fun z => h2 z.2), f_X12_trayed_9]
theorem n_placed (D : mdL M) (x p : Int32) : f_X12_placed M (some 207) x p = some (if 0 ≤ x ∧ x < 4 then (if 0 ≤ mI M 209 x.toNatClampNeg then (if 0 ≤ p ∧ p < mI M 209 x.toNatClampNeg then 0 else 4) else 3) else 1, M) := by
  unfold f_X12_placed
  rw [m_ck D, n_trayed D, bd_s]
  by_cases q : 0 ≤ x ∧ x < 4
  · obtain ⟨t, ht, rfl⟩ := tIx q
    rw [if_pos q, if_pos q, nI_cl (by omega)]
    by_cases q2 : 0 ≤ mI M 209 t
    · rw [if_pos q2, if_pos q2, if_pos (by decide)]
      by_cases h1 : p < 0
      · rw [if_pos h1, if_neg (fun z => absurd z.1 (Int32.not_le.mpr h1)), f_X12_placed_28]
      · rw [if_neg h1, m_r5 D, n_l D ht]
        by_cases h2 : p < mI M 209 t
        · rw [if_pos h2, if_pos ⟨Int32.not_lt.mp h1, h2⟩]
        · rw [if_neg h2, if_neg (fun z => h2 z.2), f_X12_placed_28]
    · rw [if_neg q2, if_neg q2, if_neg (by decide)]
  · rw [if_neg q, if_neg q, if_neg (by decide)]
end C
/-- what a tray's row makes of a number -/
def cutV (s : Int32) (v : Int64) : Int64 := if s = 0 then Int32.toInt64 (Int8.toInt32 (Int32.toInt8 (Int64.toInt32 v))) else if s = 1 then Int32.toInt64 (Int16.toInt32 (Int32.toInt16 (Int64.toInt32 v))) else if s = 2 then Int32.toInt64 (Int64.toInt32 v) else v
/-- the two of a call that came to the same refusal -/
theorem why_eq {M : Mm} (hT : rTy M) (x p : Int32) : (if 0 ≤ x ∧ x < 4 then (if mI M 11 x.toNatClampNeg = -1 then (3 : Int32) else if 0 ≤ p ∧ 1 ≤ mI M 11 x.toNatClampNeg ∧ p ≤ mI M 11 x.toNatClampNeg - 1 then 0 else 4) else 1) = (if 0 ≤ x ∧ x < 4 then (if 0 ≤ mI M 209 x.toNatClampNeg then (if 0 ≤ p ∧ p < mI M 209 x.toNatClampNeg then 0 else 4) else 3) else 1) := by
  by_cases q : 0 ≤ x ∧ x < 4
  · obtain ⟨t, ht, rfl⟩ := tIx q
    rw [if_pos q, if_pos q, nI_cl (by omega)]
    rcases hT t ht with ⟨h1, h2⟩ | ⟨n, hn, h1, h2, -⟩
    · rw [h1, h2, if_pos rfl, if_neg (by decide)]
    · rw [h1, h2, if_neg (neg1_ne (by omega)), if_pos (nI_pos' (by omega))]
      have e : (0 ≤ p ∧ 1 ≤ nI n ∧ p ≤ nI n - 1) ↔ (0 ≤ p ∧ p < nI n) := by
        constructor
        · rintro ⟨z1, z2, z3⟩
          obtain ⟨k, hk, rfl⟩ := (in_ix (by omega)).mp ⟨z1, z3⟩
          exact ⟨z1, by rw [nI_ltI' (by omega) (by omega)]; exact hk⟩
        · rintro ⟨z1, z2⟩
          obtain ⟨k, hk, rfl⟩ := nI_of (Int32.not_lt.mpr z1)
          rw [nI_ltI' (by omega) (by omega)] at z2
          exact ⟨z1, by rw [show (1 : Int32) = nI 1 from rfl, nI_leI' (by omega) (by omega)]; omega, ((in_ix (by omega)).mpr ⟨k, z2, rfl⟩).2⟩
      by_cases r : 0 ≤ p ∧ p < nI n
      · rw [if_pos r, if_pos (e.mpr r)]
      · rw [if_neg r, if_neg (fun z => r (e.mp z))]
  · rw [if_neg q, if_neg q]
def opL (fx fm : Mm → Option (Int64 × Mm)) : Prop := ∀ M, RR M → ∃ r M1 M2, fx M = some (r, M1) ∧ fm M1 = some (r, M2) ∧ RR M2
theorem why_ok {M : Mm} (hT : rTy M) {x p : Int32} (h : (if 0 ≤ x ∧ x < 4 then (if 0 ≤ mI M 209 x.toNatClampNeg then (if 0 ≤ p ∧ p < mI M 209 x.toNatClampNeg then (0 : Int32) else 4) else 3) else 1) = 0) : ∃ t n k, t < 4 ∧ n ≤ 60 ∧ k < n ∧ x = nI t ∧ p = nI k ∧ mI M 11 t = nI n ∧ mI M 209 t = nI n ∧ mI M 10 t = mI M 208 t ∧ ∀ k, k < n → mL M (6 + t) k = mL M 210 (60 * t + k) := by
  by_cases q : 0 ≤ x ∧ x < 4
  · obtain ⟨t, ht, rfl⟩ := tIx q
    rw [if_pos q, nI_cl (by omega)] at h
    rcases hT t ht with ⟨h1, h2⟩ | ⟨n, hn, h1, h2, h3, h4⟩
    · rw [h2, if_neg (by decide)] at h
      exact absurd h (by decide)
    · rw [h2, if_pos (nI_pos' (by omega))] at h
      by_cases r : 0 ≤ p ∧ p < nI n
      · obtain ⟨k, hk, rfl⟩ := nI_of (Int32.not_lt.mpr r.1)
        have := r.2
        rw [nI_ltI' (by omega) (by omega)] at this
        exact ⟨t, n, k, ht, hn, this, rfl, rfl, h1, h2, h3, h4⟩
      · rw [if_neg r] at h
        exact absurd h (by decide)
  · rw [if_neg q] at h
    exact absurd h (by decide)
theorem op_read (x p : Int32) : opL (fun M => f_X11_read M (some 0) x p) (fun M => f_X12_read M (some 207) x p) := by
  intro M hR
  dsimp only
  obtain ⟨a, b, y, z, H⟩ := id hR
  have hL := H.1
  have hT := H.2.2.2.2.2.2.2.1
  obtain ⟨w, hw⟩ : ∃ w, (if 0 ≤ x ∧ x < 4 then (if 0 ≤ mI M 209 x.toNatClampNeg then (if 0 ≤ p ∧ p < mI M 209 x.toNatClampNeg then (0 : Int32) else 4) else 3) else 1) = w := ⟨_, rfl⟩
  have hc := y_why hL x p 1
  rw [why_eq hT, hw] at hc
  have D0 : ∀ s, mdL (sI (sI M 0 0 s) 207 1 0) := fun s => hL.2.2.1
  have hm : ∀ s, f_X12_placed (sI (sI M 0 0 s) 207 1 0) (some 207) x p = some (w, sI (sI M 0 0 s) 207 1 0) := fun s => by
    rw [n_placed (D0 s), mI_o (by decide), mI_o (by decide), hw]
  by_cases q : w = 0
  · subst q
    obtain ⟨t, n, k, ht, hn, hk, rfl, rfl, l1, l2, l3, l4⟩ := why_ok hT hw
    have hL1 : LL (sI M 0 0 0) a b y z := LL_same hL rfl rfl rfl
    have D1 : mdL (sI (sI (sI M 0 0 0) 207 1 0) 207 0 0) := hL.2.2.1
    refine ⟨mL M (6 + t) k, sI M 0 0 0, _, ?_, ?_, RR_st hR 0⟩
    · unfold f_X11_read
      rw [c_ty hL, y_ck hL, hc, bd_s, if_pos rfl, c_pI hL, c_ty hL1, y_r hL1, y_rr hL1 ht, y_g hL1 ht (by omega)]
      rfl
    · unfold f_X12_read
      rw [m_pI (M := sI M 0 0 0) hL.2.2.1, m_ck (D0 0), hm, bd_s, m_pI (D0 0), m_gI D1, mI_sI_s, if_pos (by decide), m_r6 D1]
      simp (disch := omega) only [i2, i3, i4, i5, i13, i21, i29, i37, i45, i53, i61, i69, i133, i137, i141, i145, i149, i153, i157, i161, i167, i4m, i6m, i8m, i9m, i18m, i60m, i256m, i450m, nI_add]
      rw [n_g D1 (by omega), l4 k hk]
      rfl
  · have q2 : ¬ w ≤ 0 := by
      rw [← hw] at q ⊢
      split at q
      · split at q
        · split at q
          · exact absurd rfl q
          · rw [if_pos ‹_›, if_pos ‹_›, if_neg ‹_›]; decide
        · rw [if_pos ‹_›, if_neg ‹_›]; decide
      · rw [if_neg ‹_›]; decide
    have D1 : mdL (sI (sI (sI M 0 0 w) 207 1 0) 207 0 w) := hL.2.2.1
    refine ⟨Int32.toInt64 (-1), sI M 0 0 w, _, ?_, ?_, RR_st hR w⟩
    · unfold f_X11_read
      rw [c_ty hL, y_ck hL, hc, bd_s, if_neg q, c_ck hL, c_none hL, bd_s]
    · unfold f_X12_read
      rw [m_pI (M := sI M 0 0 w) hL.2.2.1, m_ck (D0 w), hm, bd_s, m_pI (D0 w), m_gI D1, mI_sI_s, if_neg q2]
      rfl
