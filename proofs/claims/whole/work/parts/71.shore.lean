/-! A SHORE of the class at address a (31 cells), and what it holds, said by the reference's cells c -/
def hN (c : Nat → Int32) : Nat := (c 0).toNatClampNeg
def gN (c : Nat → Int32) : Nat := (c 1).toNatClampNeg
def wN (c : Nat → Int32) : Nat := (c 2).toNatClampNeg
def na (c : Nat → Int32) (k : Nat) : Nat := (c k).toNatClampNeg
def bdd (c : Nat → Int32) (k lo hi : Nat) : Prop := c k = nI (na c k) ∧ lo ≤ na c k ∧ na c k ≤ hi
/-- a house that stands with its roof on -/
abbrev isOn (c : Nat → Int32) (h : Nat) : Prop := c (61 + h) = 1 ∧ 0 < c (53 + h)
def okH (c : Nat → Int32) (i : Nat) : Prop := bdd c (5 + i) 0 60 ∧ bdd c (13 + i) 0 999 ∧ bdd c (21 + i) 1 9 ∧ bdd c (29 + i) 1 20 ∧ bdd c (37 + i) 1 20 ∧ bdd c (45 + i) 0 9 ∧ bdd c (53 + i) 0 9 ∧ bdd c (61 + i) 0 1 ∧ na c (53 + i) ≤ na c (21 + i) ∧ (na c (61 + i) = 0 → 1 ≤ na c (53 + i))
/-- a gang: its house at hand is none, or one that stands with its roof on -/
def okG (c : Nat → Int32) (g : Nat) : Prop := (bdd c (133 + g) 0 7 ∧ na c (133 + g) < hN c) ∧ bdd c (137 + g) 1 40 ∧ bdd c (141 + g) 0 9 ∧ bdd c (145 + g) 0 60 ∧ bdd c (153 + g) 0 540 ∧ bdd c (157 + g) 0 116 ∧ ((c (149 + g) = -1 ∧ na c (153 + g) = 0 ∧ na c (157 + g) = 0) ∨ (bdd c (149 + g) 0 7 ∧ na c (149 + g) < hN c ∧ isOn c (na c (149 + g))))
def okC (c : Nat → Int32) : Prop := bdd c 0 0 8 ∧ bdd c 1 0 4 ∧ bdd c 2 0 6 ∧ bdd c 3 0 3 ∧ bdd c 4 0 10239 ∧ (∀ i, i < hN c → okH c i) ∧ (∀ i j, i < hN c → j < hN c → bdd c (69 + 8 * i + j) 0 9999) ∧ (∀ g, g < gN c → okG c g) ∧ (∀ w, w < wN c → bdd c (161 + w) 0 99 ∧ bdd c (167 + w) 1 99) ∧ ∀ g g', g < gN c → g' < gN c → g ≠ g' → c (149 + g) = c (149 + g') → c (149 + g) = -1
/-- the minutes of a piece, of a way -/
def takes (c : Nat → Int32) (g h : Nat) : Int32 := mxI 1 (((4 * (c (29 + h) + c (45 + h)) + c (137 + g)) - 1) / c (137 + g))
def walk (c : Nat → Int32) (g h : Nat) : Int32 := c (141 + g) * abI (c (145 + g) - c (5 + h))
/-- what is left of a gang's piece, as the class holds it -/
def pcs (c : Nat → Int32) (g : Nat) : Int32 := if c (149 + g) = -1 then 0 else if c (157 + g) = 0 then takes c g (na c (149 + g)) else c (157 + g)
def shL (M : Mm) (a : Nat) : Prop := mK M a = (4, 9) ∧ mK M (a + 1) = (31, 8) ∧ mK M (a + 2) = (30, 4) ∧ mK M (a + 3) = (38, 6) ∧ mK M (a + 4) = (50, 8) ∧ mR M a 0 = some (a + 1) ∧ mR M a 1 = some (a + 2) ∧ mR M a 2 = some (a + 3) ∧ mR M a 6 = some (a + 4) ∧
  (∀ i, i < 8 → mR M (a + 1) i = some (a + 13 + i) ∧ mK M (a + 13 + i) = (1, 9) ∧ mR M (a + 4) i = some (a + 5 + i) ∧ mK M (a + 5 + i) = (21, 8)) ∧ (∀ g, g < 4 → mR M (a + 2) g = some (a + 21 + g) ∧ mK M (a + 21 + g) = (0, 8)) ∧ ∀ w, w < 6 → mR M (a + 3) w = some (a + 25 + w) ∧ mK M (a + 25 + w) = (8, 3)
def shH (M : Mm) (a : Nat) (c : Nat → Int32) (i : Nat) : Prop := mI M (a + 13 + i) 1 = c (5 + i) ∧ mI M (a + 13 + i) 2 = c (13 + i) ∧ mI M (a + 13 + i) 3 = c (21 + i) ∧ mI M (a + 13 + i) 4 = c (29 + i) ∧ mI M (a + 13 + i) 5 = c (37 + i) ∧ mI M (a + 13 + i) 6 = c (45 + i) ∧ mI M (a + 13 + i) 7 = c (53 + i) ∧ mI M (a + 13 + i) 8 = c (61 + i)
def shG (M : Mm) (a : Nat) (c : Nat → Int32) (g : Nat) : Prop := mI M (a + 21 + g) 1 = c (133 + g) ∧ mI M (a + 21 + g) 2 = c (137 + g) ∧ mI M (a + 21 + g) 3 = c (141 + g) ∧ mI M (a + 21 + g) 4 = c (145 + g) ∧ mI M (a + 21 + g) 5 = c (149 + g) ∧ mI M (a + 21 + g) 6 = c (153 + g) ∧ mI M (a + 21 + g) 7 = pcs c g
def shR (M : Mm) (a : Nat) (c : Nat → Int32) : Prop := (mI M a 3 = c 0 ∧ mI M a 4 = c 1 ∧ mI M a 5 = c 2 ∧ mI M a 7 = c 3 ∧ mI M a 8 = c 4) ∧ (∀ i, i < hN c → shH M a c i) ∧ (∀ i j, i < hN c → j < hN c → mI M (a + 5 + i) j = c (69 + 8 * i + j)) ∧ (∀ g, g < gN c → shG M a c g) ∧ ∀ w, w < wN c → mI M (a + 25 + w) 1 = c (161 + w) ∧ mI M (a + 25 + w) 2 = c (167 + w)
/-- all that a reading of a shore rests on -/
def shO (M : Mm) (a : Nat) (c : Nat → Int32) : Prop := shL M a ∧ shR M a c ∧ okC c
section Sh
variable {ρ : Type} {M : Mm} {a : Nat} {c : Nat → Int32}
theorem ok_h (h : okC c) : c 0 = nI (hN c) ∧ hN c ≤ 8 := ⟨h.1.1, h.1.2.2⟩
theorem ok_g (h : okC c) : c 1 = nI (gN c) ∧ gN c ≤ 4 := ⟨h.2.1.1, h.2.1.2.2⟩
theorem ok_w (h : okC c) : c 2 = nI (wN c) ∧ wN c ≤ 6 := ⟨h.2.2.1.1, h.2.2.1.2.2⟩
theorem hc_in (h : okC c) {k : Nat} (hk : k < hN c) : ¬ c 0 ≤ nI k := by rw [(ok_h h).1, nI_leI' (by have := (ok_h h).2; omega) (by have := (ok_h h).2; omega)]; omega
theorem hc_out (h : okC c) : c 0 ≤ nI (hN c) := by rw [(ok_h h).1]; exact Int32.le_refl _
theorem gc_in (h : okC c) {k : Nat} (hk : k < gN c) : ¬ c 1 ≤ nI k := by rw [(ok_g h).1, nI_leI' (by have := (ok_g h).2; omega) (by have := (ok_g h).2; omega)]; omega
theorem gc_out (h : okC c) : c 1 ≤ nI (gN c) := by rw [(ok_g h).1]; exact Int32.le_refl _
theorem wc_in (h : okC c) {k : Nat} (hk : k < wN c) : ¬ c 2 ≤ nI k := by rw [(ok_w h).1, nI_leI' (by have := (ok_w h).2; omega) (by have := (ok_w h).2; omega)]; omega
theorem wc_out (h : okC c) : c 2 ≤ nI (wN c) := by rw [(ok_w h).1]; exact Int32.le_refl _
theorem e_hc (S : shO M a c) {k : Int32 → Option ρ} : gfI M (some a) 4 3 k = k (c 0) := by rw [gfI_s (by rw [S.1.1]), S.2.1.1.1]
theorem e_gc (S : shO M a c) {k : Int32 → Option ρ} : gfI M (some a) 4 4 k = k (c 1) := by rw [gfI_s (by rw [S.1.1]), S.2.1.1.2.1]
theorem e_wc (S : shO M a c) {k : Int32 → Option ρ} : gfI M (some a) 4 5 k = k (c 2) := by rw [gfI_s (by rw [S.1.1]), S.2.1.1.2.2.1]
theorem e_law (S : shO M a c) {k : Int32 → Option ρ} : gfI M (some a) 4 7 k = k (c 3) := by rw [gfI_s (by rw [S.1.1]), S.2.1.1.2.2.2.1]
theorem e_min (S : shO M a c) {k : Int32 → Option ρ} : gfI M (some a) 4 8 k = k (c 4) := by rw [gfI_s (by rw [S.1.1]), S.2.1.1.2.2.2.2]
theorem e_hs (S : shO M a c) {k : Option Nat → Option ρ} : gfR M (some a) 4 0 k = k (some (a + 1)) := by rw [gfR_s (by rw [S.1.1]), S.1.2.2.2.2.2.1]
theorem e_gs (S : shO M a c) {k : Option Nat → Option ρ} : gfR M (some a) 4 1 k = k (some (a + 2)) := by rw [gfR_s (by rw [S.1.1]), S.1.2.2.2.2.2.2.1]
theorem e_ws (S : shO M a c) {k : Option Nat → Option ρ} : gfR M (some a) 4 2 k = k (some (a + 3)) := by rw [gfR_s (by rw [S.1.1]), S.1.2.2.2.2.2.2.2.1]
theorem e_ds (S : shO M a c) {k : Option Nat → Option ρ} : gfR M (some a) 4 6 k = k (some (a + 4)) := by rw [gfR_s (by rw [S.1.1]), S.1.2.2.2.2.2.2.2.2.1]
theorem e_h (S : shO M a c) {i : Nat} (hi : i < 8) {k : Option Nat → Option ρ} : alR M (some (a + 1)) 31 (nI i) k = k (some (a + 13 + i)) := by rw [alR_s S.1.2.1 hi (by decide), (S.1.2.2.2.2.2.2.2.2.2.1 i hi).1]
theorem e_d (S : shO M a c) {i : Nat} (hi : i < 8) {k : Option Nat → Option ρ} : alR M (some (a + 4)) 50 (nI i) k = k (some (a + 5 + i)) := by rw [alR_s S.1.2.2.2.2.1 hi (by decide), (S.1.2.2.2.2.2.2.2.2.2.1 i hi).2.2.1]
theorem e_g (S : shO M a c) {i : Nat} (hi : i < 4) {k : Option Nat → Option ρ} : alR M (some (a + 2)) 30 (nI i) k = k (some (a + 21 + i)) := by rw [alR_s S.1.2.2.1 hi (by decide), (S.1.2.2.2.2.2.2.2.2.2.2.1 i hi).1]
theorem e_w (S : shO M a c) {i : Nat} (hi : i < 6) {k : Option Nat → Option ρ} : alR M (some (a + 3)) 38 (nI i) k = k (some (a + 25 + i)) := by rw [alR_s S.1.2.2.2.1 hi (by decide), (S.1.2.2.2.2.2.2.2.2.2.2.2 i hi).1]
theorem k_h (S : shO M a c) {i : Nat} (hi : i < 8) : mK M (a + 13 + i) = (1, 9) := (S.1.2.2.2.2.2.2.2.2.2.1 i hi).2.1
theorem k_d (S : shO M a c) {i : Nat} (hi : i < 8) : mK M (a + 5 + i) = (21, 8) := (S.1.2.2.2.2.2.2.2.2.2.1 i hi).2.2.2
theorem k_g (S : shO M a c) {i : Nat} (hi : i < 4) : mK M (a + 21 + i) = (0, 8) := (S.1.2.2.2.2.2.2.2.2.2.2.1 i hi).2
theorem k_w (S : shO M a c) {i : Nat} (hi : i < 6) : mK M (a + 25 + i) = (8, 3) := (S.1.2.2.2.2.2.2.2.2.2.2.2 i hi).2
theorem h_8 (S : shO M a c) {i : Nat} (hi : i < hN c) : i < 8 := by have := (ok_h S.2.2).2; omega
theorem g_4 (S : shO M a c) {i : Nat} (hi : i < gN c) : i < 4 := by have := (ok_g S.2.2).2; omega
theorem w_6 (S : shO M a c) {i : Nat} (hi : i < wN c) : i < 6 := by have := (ok_w S.2.2).2; omega
theorem e_db (S : shO M a c) {i j : Nat} (hi : i < hN c) (hj : j < hN c) {k : Int32 → Option ρ} : alI M (some (a + 5 + i)) 21 (nI j) k = k (c (69 + 8 * i + j)) := by rw [alI_s (k_d S (h_8 S hi)) (h_8 S hj) (by decide), S.2.1.2.2.1 i j hi hj]
theorem e_hat (S : shO M a c) {i : Nat} (hi : i < hN c) {k : Int32 → Option ρ} : gfI M (some (a + 13 + i)) 1 1 k = k (c (5 + i)) := by rw [gfI_s (by rw [k_h S (h_8 S hi)]), (S.2.1.2.1 i hi).1]
theorem e_hwo (S : shO M a c) {i : Nat} (hi : i < hN c) {k : Int32 → Option ρ} : gfI M (some (a + 13 + i)) 1 2 k = k (c (13 + i)) := by rw [gfI_s (by rw [k_h S (h_8 S hi)]), (S.2.1.2.1 i hi).2.1]
theorem e_hpi (S : shO M a c) {i : Nat} (hi : i < hN c) {k : Int32 → Option ρ} : gfI M (some (a + 13 + i)) 1 3 k = k (c (21 + i)) := by rw [gfI_s (by rw [k_h S (h_8 S hi)]), (S.2.1.2.1 i hi).2.2.1]
theorem e_hwe (S : shO M a c) {i : Nat} (hi : i < hN c) {k : Int32 → Option ρ} : gfI M (some (a + 13 + i)) 1 4 k = k (c (29 + i)) := by rw [gfI_s (by rw [k_h S (h_8 S hi)]), (S.2.1.2.1 i hi).2.2.2.1]
theorem e_hlo (S : shO M a c) {i : Nat} (hi : i < hN c) {k : Int32 → Option ρ} : gfI M (some (a + 13 + i)) 1 5 k = k (c (37 + i)) := by rw [gfI_s (by rw [k_h S (h_8 S hi)]), (S.2.1.2.1 i hi).2.2.2.2.1]
theorem e_hpe (S : shO M a c) {i : Nat} (hi : i < hN c) {k : Int32 → Option ρ} : gfI M (some (a + 13 + i)) 1 6 k = k (c (45 + i)) := by rw [gfI_s (by rw [k_h S (h_8 S hi)]), (S.2.1.2.1 i hi).2.2.2.2.2.1]
theorem e_hon (S : shO M a c) {i : Nat} (hi : i < hN c) {k : Int32 → Option ρ} : gfI M (some (a + 13 + i)) 1 7 k = k (c (53 + i)) := by rw [gfI_s (by rw [k_h S (h_8 S hi)]), (S.2.1.2.1 i hi).2.2.2.2.2.2.1]
theorem e_hsd (S : shO M a c) {i : Nat} (hi : i < hN c) {k : Int32 → Option ρ} : gfI M (some (a + 13 + i)) 1 8 k = k (c (61 + i)) := by rw [gfI_s (by rw [k_h S (h_8 S hi)]), (S.2.1.2.1 i hi).2.2.2.2.2.2.2]
theorem e_gho (S : shO M a c) {g : Nat} (hg : g < gN c) {k : Int32 → Option ρ} : gfI M (some (a + 21 + g)) 0 1 k = k (c (133 + g)) := by rw [gfI_s (by rw [k_g S (g_4 S hg)]), (S.2.1.2.2.2.1 g hg).1]
theorem e_gha (S : shO M a c) {g : Nat} (hg : g < gN c) {k : Int32 → Option ρ} : gfI M (some (a + 21 + g)) 0 2 k = k (c (137 + g)) := by rw [gfI_s (by rw [k_g S (g_4 S hg)]), (S.2.1.2.2.2.1 g hg).2.1]
theorem e_gpa (S : shO M a c) {g : Nat} (hg : g < gN c) {k : Int32 → Option ρ} : gfI M (some (a + 21 + g)) 0 3 k = k (c (141 + g)) := by rw [gfI_s (by rw [k_g S (g_4 S hg)]), (S.2.1.2.2.2.1 g hg).2.2.1]
theorem e_gat (S : shO M a c) {g : Nat} (hg : g < gN c) {k : Int32 → Option ρ} : gfI M (some (a + 21 + g)) 0 4 k = k (c (145 + g)) := by rw [gfI_s (by rw [k_g S (g_4 S hg)]), (S.2.1.2.2.2.1 g hg).2.2.2.1]
theorem e_ghd (S : shO M a c) {g : Nat} (hg : g < gN c) {k : Int32 → Option ρ} : gfI M (some (a + 21 + g)) 0 5 k = k (c (149 + g)) := by rw [gfI_s (by rw [k_g S (g_4 S hg)]), (S.2.1.2.2.2.1 g hg).2.2.2.2.1]
theorem e_gwa (S : shO M a c) {g : Nat} (hg : g < gN c) {k : Int32 → Option ρ} : gfI M (some (a + 21 + g)) 0 6 k = k (c (153 + g)) := by rw [gfI_s (by rw [k_g S (g_4 S hg)]), (S.2.1.2.2.2.1 g hg).2.2.2.2.2.1]
theorem e_gpc (S : shO M a c) {g : Nat} (hg : g < gN c) {k : Int32 → Option ρ} : gfI M (some (a + 21 + g)) 0 7 k = k (pcs c g) := by rw [gfI_s (by rw [k_g S (g_4 S hg)]), (S.2.1.2.2.2.1 g hg).2.2.2.2.2.2]
theorem e_wst (S : shO M a c) {w : Nat} (hw : w < wN c) {k : Int32 → Option ρ} : gfI M (some (a + 25 + w)) 8 1 k = k (c (161 + w)) := by rw [gfI_s (by rw [k_w S (w_6 S hw)]), (S.2.1.2.2.2.2 w hw).1]
theorem e_wch (S : shO M a c) {w : Nat} (hw : w < wN c) {k : Int32 → Option ρ} : gfI M (some (a + 25 + w)) 8 2 k = k (c (167 + w)) := by rw [gfI_s (by rw [k_w S (w_6 S hw)]), (S.2.1.2.2.2.2 w hw).2]
theorem k_s (S : shO M a c) : (mK M a).1 = 4 := by rw [S.1.1]
theorem sd_ne (S : shO M a c) {i : Nat} (hi : i < hN c) : c (61 + i) = 0 ↔ ¬ c (61 + i) = 1 := by
  obtain ⟨-, -, -, -, -, -, -, ⟨h1, -, h2⟩, -⟩ := S.2.2.2.2.2.2.2.1 i hi
  rw [h1, lit_nI 0, lit_nI 1, nI_eq' (by omega) (by omega), nI_eq' (by omega) (by omega)]
  omega
/-- House.isOpen -/
theorem p_isOpen (S : shO M a c) {i : Nat} (hi : i < hN c) : f_X1_isOpen M (some (a + 13 + i)) = some (if isOn c i then 1 else 0, M) := by
  unfold f_X1_isOpen g_X1_isOpen
  rw [e_hsd S hi, e_hon S hi]
  by_cases h1 : c (61 + i) = 0
  · have : ¬ isOn c i := fun z => (sd_ne S hi).mp h1 z.1
    rw [if_pos h1, if_neg this, zc0]
  · rw [if_neg h1]
    have e1 : c (61 + i) = 1 := Decidable.byContradiction fun z => h1 ((sd_ne S hi).mpr z)
    by_cases h2 : c (53 + i) ≤ 0
    · have : ¬ isOn c i := fun z => absurd h2 (Int32.not_le.mpr z.2)
      rw [if_pos h2, if_neg this, zc0]
    · have : isOn c i := ⟨e1, Int32.not_le.mp h2⟩
      rw [if_neg h2, if_pos this, zc1]
def holds (c : Nat → Int32) (h : Nat) : Int32 := (11 + c (29 + h)) + (3 * c (45 + h))
theorem p_least (S : shO M a c) {i : Nat} (hi : i < hN c) : f_X1_leastStrength M (some (a + 13 + i)) = some (holds c i, M) := by
  unfold f_X1_leastStrength
  rw [e_hwe S hi, e_hpe S hi]
  rfl
/-- dueOf -/
def due (c : Nat → Int32) (h : Nat) : Int32 := sm (fun o => c (69 + 8 * o + h) - c (69 + 8 * h + o)) (hN c)
theorem p_due (S : shO M a c) {h : Nat} (hh : h < hN c) : f_X4_dueOf M (some a) (nI h) = some (due c h, M) := by
  have h8 := (ok_h S.2.2).2
  refine lup0 (fun f k => f_X4_dueOf_4 f M (some a) (nI h) (sm (fun o => c (69 + 8 * o + h) - c (69 + 8 * h + o)) k) (nI k)) (hN c) _ (by omega) (fun f k hk => ?_) (fun f => ?_)
  · rw [f_X4_dueOf_4, e_hc S, if_neg (hc_in S.2.2 hk), e_ds S, e_d S (h_8 S hk), e_db S hk hh, e_ds S, e_d S (h_8 S hh), e_db S hh hk, nmI_s, nI_1]
    rfl
  · rw [f_X4_dueOf_4, e_hc S, if_pos (hc_out S.2.2)]
    rfl
/-- allChances -/
def allCh (c : Nat → Int32) : Int32 := sm (fun w => c (167 + w)) (wN c)
theorem p_allCh (S : shO M a c) : f_X4_allChances M (some a) = some (allCh c, M) := by
  have h8 := (ok_w S.2.2).2
  refine lup0 (fun f k => f_X4_allChances_4 f M (some a) (sm (fun w => c (167 + w)) k) (nI k)) (wN c) _ (by omega) (fun f k hk => ?_) (fun f => ?_)
  · rw [f_X4_allChances_4, e_wc S, if_neg (wc_in S.2.2 hk), e_ws S, e_w S (w_6 S hk), e_wch S hk, nmI_s, nI_1]
    rfl
  · rw [f_X4_allChances_4, e_wc S, if_pos (wc_out S.2.2)]
    rfl
end Sh
