/-! THE REFERENCE: its object at 207, its rows at 208 to 220; c its row of cells -/
def mdL (M : Mm) : Prop := mK M 207 = (12, 45) ∧ (mR M 207 4 = some 208 ∧ mK M 208 = (21, 4)) ∧ (mR M 207 5 = some 209 ∧ mK M 209 = (21, 4)) ∧ (mR M 207 6 = some 210 ∧ mK M 210 = (22, 240)) ∧ (mR M 207 7 = some 211 ∧ mK M 211 = (20, 900)) ∧ (mR M 207 20 = some 212 ∧ mK M 212 = (21, 2250)) ∧ (mR M 207 21 = some 213 ∧ mK M 213 = (21, 173)) ∧ (mR M 207 22 = some 214 ∧ mK M 214 = (22, 90)) ∧ (mR M 207 27 = some 215 ∧ mK M 215 = (21, 2048)) ∧ (mR M 207 28 = some 216 ∧ mK M 216 = (21, 1024)) ∧ (mR M 207 29 = some 217 ∧ mK M 217 = (21, 256)) ∧ (mR M 207 31 = some 218 ∧ mK M 218 = (21, 8)) ∧ (mR M 207 32 = some 219 ∧ mK M 219 = (21, 8)) ∧ (mR M 207 35 = some 220 ∧ mK M 220 = (21, 5))
def md (M : Mm) (c : Nat → Int32) : Prop := mdL M ∧ mI M 212 = c
theorem i2 (n : Nat) : (2 : Int32) + nI n = nI (2 + n) := nI_add 2 n
theorem i3 (n : Nat) : (3 : Int32) + nI n = nI (3 + n) := nI_add 3 n
theorem i4 (n : Nat) : (4 : Int32) + nI n = nI (4 + n) := nI_add 4 n
theorem i5 (n : Nat) : (5 : Int32) + nI n = nI (5 + n) := nI_add 5 n
theorem i13 (n : Nat) : (13 : Int32) + nI n = nI (13 + n) := nI_add 13 n
theorem i21 (n : Nat) : (21 : Int32) + nI n = nI (21 + n) := nI_add 21 n
theorem i29 (n : Nat) : (29 : Int32) + nI n = nI (29 + n) := nI_add 29 n
theorem i37 (n : Nat) : (37 : Int32) + nI n = nI (37 + n) := nI_add 37 n
theorem i45 (n : Nat) : (45 : Int32) + nI n = nI (45 + n) := nI_add 45 n
theorem i53 (n : Nat) : (53 : Int32) + nI n = nI (53 + n) := nI_add 53 n
theorem i61 (n : Nat) : (61 : Int32) + nI n = nI (61 + n) := nI_add 61 n
theorem i69 (n : Nat) : (69 : Int32) + nI n = nI (69 + n) := nI_add 69 n
theorem i133 (n : Nat) : (133 : Int32) + nI n = nI (133 + n) := nI_add 133 n
theorem i137 (n : Nat) : (137 : Int32) + nI n = nI (137 + n) := nI_add 137 n
theorem i141 (n : Nat) : (141 : Int32) + nI n = nI (141 + n) := nI_add 141 n
theorem i145 (n : Nat) : (145 : Int32) + nI n = nI (145 + n) := nI_add 145 n
theorem i149 (n : Nat) : (149 : Int32) + nI n = nI (149 + n) := nI_add 149 n
theorem i153 (n : Nat) : (153 : Int32) + nI n = nI (153 + n) := nI_add 153 n
theorem i157 (n : Nat) : (157 : Int32) + nI n = nI (157 + n) := nI_add 157 n
theorem i161 (n : Nat) : (161 : Int32) + nI n = nI (161 + n) := nI_add 161 n
theorem i167 (n : Nat) : (167 : Int32) + nI n = nI (167 + n) := nI_add 167 n
theorem i4m (n : Nat) : (4 : Int32) * nI n = nI (4 * n) := pk_mul 4 n
theorem i6m (n : Nat) : (6 : Int32) * nI n = nI (6 * n) := pk_mul 6 n
theorem i8m (n : Nat) : (8 : Int32) * nI n = nI (8 * n) := pk_mul 8 n
theorem i9m (n : Nat) : (9 : Int32) * nI n = nI (9 * n) := pk_mul 9 n
theorem i18m (n : Nat) : (18 : Int32) * nI n = nI (18 * n) := pk_mul 18 n
theorem i60m (n : Nat) : (60 : Int32) * nI n = nI (60 * n) := pk_mul 60 n
theorem i256m (n : Nat) : (256 : Int32) * nI n = nI (256 * n) := pk_mul 256 n
theorem i450m (n : Nat) : (450 : Int32) * nI n = nI (450 * n) := pk_mul 450 n
section Md
variable {ρ : Type} {M : Mm} {c : Nat → Int32}
theorem m_ck (D : mdL M) {x : Option ρ} : ck M (some 207) 12 x = x := ck_s (by rw [D.1])
theorem m_gI (D : mdL M) {k : Nat} {K : Int32 → Option ρ} : gfI M (some 207) 12 k K = K (mI M 207 k) := gfI_s (by rw [D.1])
theorem m_gL (D : mdL M) {k : Nat} {K : Int64 → Option ρ} : gfL M (some 207) 12 k K = K (mL M 207 k) := gfL_s (by rw [D.1])
theorem m_pI (D : mdL M) {k : Nat} {v : Int32} {K : Mm → Option ρ} : pfI M (some 207) 12 k v K = K (sI M 207 k v) := pfI_s (by rw [D.1])
theorem m_pL (D : mdL M) {k : Nat} {v : Int64} {K : Mm → Option ρ} : pfL M (some 207) 12 k v K = K (sL M 207 k v) := pfL_s (by rw [D.1])
theorem m_pZ (D : mdL M) {k : Nat} {v : Int32} (hv : v = 0 ∨ v = 1) {K : Mm → Option ρ} : pfZ M (some 207) 12 k v K = K (sI M 207 k v) := pfZ_s (by rw [D.1]) hv
theorem m_r4 (D : mdL M) {K : Option Nat → Option ρ} : gfR M (some 207) 12 4 K = K (some 208) := by rw [gfR_s (by rw [D.1]), D.2.1.1]
theorem m_r5 (D : mdL M) {K : Option Nat → Option ρ} : gfR M (some 207) 12 5 K = K (some 209) := by rw [gfR_s (by rw [D.1]), D.2.2.1.1]
theorem m_r6 (D : mdL M) {K : Option Nat → Option ρ} : gfR M (some 207) 12 6 K = K (some 210) := by rw [gfR_s (by rw [D.1]), D.2.2.2.1.1]
theorem m_r7 (D : mdL M) {K : Option Nat → Option ρ} : gfR M (some 207) 12 7 K = K (some 211) := by rw [gfR_s (by rw [D.1]), D.2.2.2.2.1.1]
theorem m_r20 (D : mdL M) {K : Option Nat → Option ρ} : gfR M (some 207) 12 20 K = K (some 212) := by rw [gfR_s (by rw [D.1]), D.2.2.2.2.2.1.1]
theorem m_r21 (D : mdL M) {K : Option Nat → Option ρ} : gfR M (some 207) 12 21 K = K (some 213) := by rw [gfR_s (by rw [D.1]), D.2.2.2.2.2.2.1.1]
theorem m_r22 (D : mdL M) {K : Option Nat → Option ρ} : gfR M (some 207) 12 22 K = K (some 214) := by rw [gfR_s (by rw [D.1]), D.2.2.2.2.2.2.2.1.1]
theorem m_r27 (D : mdL M) {K : Option Nat → Option ρ} : gfR M (some 207) 12 27 K = K (some 215) := by rw [gfR_s (by rw [D.1]), D.2.2.2.2.2.2.2.2.1.1]
theorem m_r28 (D : mdL M) {K : Option Nat → Option ρ} : gfR M (some 207) 12 28 K = K (some 216) := by rw [gfR_s (by rw [D.1]), D.2.2.2.2.2.2.2.2.2.1.1]
theorem m_r29 (D : mdL M) {K : Option Nat → Option ρ} : gfR M (some 207) 12 29 K = K (some 217) := by rw [gfR_s (by rw [D.1]), D.2.2.2.2.2.2.2.2.2.2.1.1]
theorem m_r31 (D : mdL M) {K : Option Nat → Option ρ} : gfR M (some 207) 12 31 K = K (some 218) := by rw [gfR_s (by rw [D.1]), D.2.2.2.2.2.2.2.2.2.2.2.1.1]
theorem m_r32 (D : mdL M) {K : Option Nat → Option ρ} : gfR M (some 207) 12 32 K = K (some 219) := by rw [gfR_s (by rw [D.1]), D.2.2.2.2.2.2.2.2.2.2.2.2.1.1]
theorem m_r35 (D : mdL M) {K : Option Nat → Option ρ} : gfR M (some 207) 12 35 K = K (some 220) := by rw [gfR_s (by rw [D.1]), D.2.2.2.2.2.2.2.2.2.2.2.2.2.1]
theorem md_k (D : md M c) : mK M 212 = (21, 2250) := D.1.2.2.2.2.2.1.2
theorem m_c (D : md M c) {k : Nat} (hk : k < 2250) {K : Int32 → Option ρ} : alI M (some 212) 21 (nI k) K = K (c k) := by rw [alI_s (md_k D) hk (by decide), D.2]
theorem m_c0 (D : md M c) {K : Int32 → Option ρ} : alI M (some 212) 21 0 K = K (c 0) := m_c D (k := 0) (by decide)
theorem m_c1 (D : md M c) {K : Int32 → Option ρ} : alI M (some 212) 21 1 K = K (c 1) := m_c D (k := 1) (by decide)
theorem m_c2 (D : md M c) {K : Int32 → Option ρ} : alI M (some 212) 21 2 K = K (c 2) := m_c D (k := 2) (by decide)
theorem m_c3 (D : md M c) {K : Int32 → Option ρ} : alI M (some 212) 21 3 K = K (c 3) := m_c D (k := 3) (by decide)
theorem m_c4 (D : md M c) {K : Int32 → Option ρ} : alI M (some 212) 21 4 K = K (c 4) := m_c D (k := 4) (by decide)
theorem m_c173 (D : md M c) {K : Int32 → Option ρ} : alI M (some 212) 21 173 K = K (c 173) := m_c D (k := 173) (by decide)
theorem m_sc (D : md M c) {k : Nat} (hk : k < 2250) {v : Int32} {K : Mm → Option ρ} : asI M (some 212) 21 (nI k) v K = K (sA M 212 (upd c k v)) := by rw [asI_s (md_k D) hk (by decide), sI_sA, D.2]
theorem md_sA (D : md M c) (f : Nat → Int32) : md (sA M 212 f) f := ⟨D.1, mI_sA_s M 212 f⟩
theorem md_sI (D : md M c) {a k : Nat} {v : Int32} (h : a ≠ 212) : md (sI M a k v) c := ⟨D.1, (show mI (sI M a k v) 212 = mI M 212 from funext fun j => if_neg (fun z => h z.1.symm)).trans D.2⟩
theorem md_sL (D : md M c) {a k : Nat} {v : Int64} : md (sL M a k v) c := ⟨D.1, D.2⟩
theorem md_sAo (D : md M c) {a : Nat} {f : Nat → Int32} (h : a ≠ 212) : md (sA M a f) c := ⟨D.1, (mI_sA_o M f h.symm).trans D.2⟩
end Md
/-! tests -/
theorem zc_if {p : Prop} [Decidable p] {M : Mm} : zc (if p then some (1, M) else some (0, M)) = some (if p then 1 else 0, M) := by
  by_cases h : p
  · rw [if_pos h, if_pos h, zc1]
  · rw [if_neg h, if_neg h, zc0]
theorem q_isIn (M : Mm) (x l h : Int64) : f_X12_isIn M x l h = some (if l ≤ x ∧ x ≤ h then 1 else 0, M) := by
  unfold f_X12_isIn g_X12_isIn
  simp only [lg_cmp_lt, lg_cmp_gt]
  by_cases h1 : x < l
  · rw [if_pos h1, zc0, if_neg (fun z => absurd z.1 (Int64.not_le.mpr h1))]
  · rw [if_neg h1]
    by_cases h2 : h < x
    · rw [if_pos h2, zc0, if_neg (fun z => absurd z.2 (Int64.not_le.mpr h2))]
    · rw [if_neg h2, zc1, if_pos ⟨Int64.not_lt.mp h1, Int64.not_lt.mp h2⟩]
theorem le64 (x y : Int32) : Int32.toInt64 x ≤ Int32.toInt64 y ↔ x ≤ y := by
  rw [Int64.le_iff_toInt_le, Int32.le_iff_toInt_le, Int32.toInt_toInt64, Int32.toInt_toInt64]
theorem q_in32 (M : Mm) (x l h : Int32) : f_X12_isIn M (Int32.toInt64 x) (Int32.toInt64 l) (Int32.toInt64 h) = some (if l ≤ x ∧ x ≤ h then 1 else 0, M) := by
  rw [q_isIn]
  simp only [le64]
theorem q_within (M : Mm) (x l h : Int32) : f_X11_within M x l h = some (if l ≤ x ∧ x ≤ h then 1 else 0, M) := by
  unfold f_X11_within g_X11_within
  by_cases h1 : x < l
  · rw [if_pos h1, zc0, if_neg (fun z => absurd z.1 (Int32.not_le.mpr h1))]
  · rw [if_neg h1]
    by_cases h2 : h < x
    · rw [if_pos h2, zc0, if_neg (fun z => absurd z.2 (Int32.not_le.mpr h2))]
    · rw [if_neg h2, zc1, if_pos ⟨Int32.not_lt.mp h1, Int32.not_lt.mp h2⟩]
theorem q_has (M : Mm) (s k : Int32) : f_X12_has M s k = some (if ((s >>> (k &&& 31)) &&& 1) = 1 then 1 else 0, M) := by
  unfold f_X12_has g_X12_has
  exact zc_if
/-- a number of an index: within 0 .. n - 1 -/
theorem in_ix {x : Int32} {n : Nat} (hn : n < 2147483648) : (0 ≤ x ∧ x ≤ nI n - 1) ↔ ∃ k, k < n ∧ x = nI k := by
  constructor
  · rintro ⟨h1, h2⟩
    obtain ⟨k, hk, rfl⟩ := nI_of (Int32.not_lt.mpr h1)
    rcases Nat.eq_zero_or_pos n with h0 | h0
    · subst h0
      exact absurd (Int32.le_trans h1 h2) (by decide)
    · rw [show (1 : Int32) = nI 1 from rfl, nI_sub (by omega), nI_leI' (by omega) (by omega)] at h2
      exact ⟨k, by omega, rfl⟩
  · rintro ⟨k, hk, rfl⟩
    rw [show (1 : Int32) = nI 1 from rfl, nI_sub (by omega), nI_leI' (by omega) (by omega)]
    exact ⟨nI_pos' (by omega), by omega⟩
