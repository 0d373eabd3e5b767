/-! THE CLASS'S OBJECT at 0, and all that it holds: how it lies -/
def yrL (M : Mm) (y : Nat) : Prop := mK M y = (9, 8) ∧ ∀ j, j < 5 → mR M y (3 + j) = some (y + 1 + j) ∧ mK M (y + 1 + j) = (21, 60)
def cl1 (M : Mm) : Prop := mK M 0 = (11, 19) ∧ mR M 0 5 = some 1 ∧ mR M 0 6 = some 4 ∧ mR M 0 11 = some 86 ∧ mR M 0 12 = some 87 ∧ mR M 0 14 = some 88 ∧ mR M 0 16 = some 92 ∧ mR M 0 17 = some 94
def cl2 (M : Mm) : Prop := mK M 4 = (7, 3) ∧ mR M 4 0 = some 5 ∧ mR M 4 1 = some 10 ∧ mR M 4 2 = some 11 ∧ mK M 5 = (51, 4) ∧ mK M 10 = (21, 4) ∧ mK M 11 = (21, 4) ∧ ∀ i, i < 4 → mR M 5 i = some (6 + i) ∧ mK M (6 + i) = (22, 60)
def cl3 (M : Mm) : Prop := mK M 1 = (6, 14) ∧ mR M 1 0 = some 2 ∧ mR M 1 2 = some 3 ∧ mK M 2 = (20, 900) ∧ mK M 3 = (22, 30)
def cl4 (M : Mm) : Prop := shL M 12 ∧ shL M 43 ∧ (∀ i, i < 3 → shL M (96 + 37 * i) ∧ yrL M (127 + 37 * i)) ∧ yrL M 74 ∧ yrL M 80
def cl5 (M : Mm) : Prop := mK M 86 = (34, 3) ∧ mK M 87 = (39, 3) ∧ ∀ i, i < 3 → mR M 86 i = some (96 + 37 * i) ∧ mR M 87 i = some (127 + 37 * i)
def cl6 (M : Mm) : Prop := (mK M 88 = (3, 4) ∧ mR M 88 0 = some 89 ∧ mR M 88 2 = some 90 ∧ mR M 88 3 = some 91 ∧ mK M 89 = (21, 8) ∧ mK M 90 = (21, 256) ∧ mK M 91 = (21, 256)) ∧ mK M 92 = (2, 8) ∧ mR M 92 7 = some 93 ∧ mK M 93 = (21, 60) ∧ mK M 94 = (2, 8) ∧ mR M 94 7 = some 95 ∧ mK M 95 = (21, 60)
def clS (M : Mm) : Prop := cl1 M ∧ cl2 M ∧ cl3 M ∧ cl4 M ∧ cl5 M ∧ cl6 M
def clD (M : Mm) (a b y z : Nat) : Prop := mR M 0 7 = some a ∧ mR M 0 8 = some b ∧ mR M 0 9 = some y ∧ mR M 0 10 = some z ∧ ((a = 12 ∧ b = 43) ∨ (a = 43 ∧ b = 12)) ∧ ((y = 74 ∧ z = 80) ∨ (y = 80 ∧ z = 74))
/-- what lies where -/
def LL (M : Mm) (a b y z : Nat) : Prop := clS M ∧ clD M a b y z ∧ mdL M ∧ 221 ≤ mT M
theorem LL_same {M M' : Mm} {a b y z : Nat} (h : LL M a b y z) (hK : mK M' = mK M) (hR : mR M' = mR M) (hT : mT M' = mT M) : LL M' a b y z := by
  unfold LL clS cl1 cl2 cl3 cl4 cl5 cl6 clD mdL yrL shL at *
  rw [hK, hR, hT]
  exact h
section C
variable {ρ : Type} {M : Mm} {a b y z : Nat}
theorem c_ck (H : LL M a b y z) {x : Option ρ} : ck M (some 0) 11 x = x := ck_s (by rw [H.1.1.1])
theorem c_gI (H : LL M a b y z) {k : Nat} {K : Int32 → Option ρ} : gfI M (some 0) 11 k K = K (mI M 0 k) := gfI_s (by rw [H.1.1.1])
theorem c_gL (H : LL M a b y z) {k : Nat} {K : Int64 → Option ρ} : gfL M (some 0) 11 k K = K (mL M 0 k) := gfL_s (by rw [H.1.1.1])
theorem c_pI (H : LL M a b y z) {k : Nat} {v : Int32} {K : Mm → Option ρ} : pfI M (some 0) 11 k v K = K (sI M 0 k v) := pfI_s (by rw [H.1.1.1])
theorem c_pL (H : LL M a b y z) {k : Nat} {v : Int64} {K : Mm → Option ρ} : pfL M (some 0) 11 k v K = K (sL M 0 k v) := pfL_s (by rw [H.1.1.1])
theorem c_pZ (H : LL M a b y z) {k : Nat} {v : Int32} (hv : v = 0 ∨ v = 1) {K : Mm → Option ρ} : pfZ M (some 0) 11 k v K = K (sI M 0 k v) := pfZ_s (by rw [H.1.1.1]) hv
theorem c_tp (H : LL M a b y z) {K : Option Nat → Option ρ} : gfR M (some 0) 11 5 K = K (some 1) := by rw [gfR_s (by rw [H.1.1.1]), H.1.1.2.1]
theorem c_ty (H : LL M a b y z) {K : Option Nat → Option ρ} : gfR M (some 0) 11 6 K = K (some 4) := by rw [gfR_s (by rw [H.1.1.1]), H.1.1.2.2.1]
theorem c_ms (H : LL M a b y z) {K : Option Nat → Option ρ} : gfR M (some 0) 11 11 K = K (some 86) := by rw [gfR_s (by rw [H.1.1.1]), H.1.1.2.2.2.1]
theorem c_my (H : LL M a b y z) {K : Option Nat → Option ρ} : gfR M (some 0) 11 12 K = K (some 87) := by rw [gfR_s (by rw [H.1.1.1]), H.1.1.2.2.2.2.1]
theorem c_pl (H : LL M a b y z) {K : Option Nat → Option ρ} : gfR M (some 0) 11 14 K = K (some 88) := by rw [gfR_s (by rw [H.1.1.1]), H.1.1.2.2.2.2.2.1]
theorem c_l1 (H : LL M a b y z) {K : Option Nat → Option ρ} : gfR M (some 0) 11 16 K = K (some 92) := by rw [gfR_s (by rw [H.1.1.1]), H.1.1.2.2.2.2.2.2.1]
theorem c_l2 (H : LL M a b y z) {K : Option Nat → Option ρ} : gfR M (some 0) 11 17 K = K (some 94) := by rw [gfR_s (by rw [H.1.1.1]), H.1.1.2.2.2.2.2.2.2]
theorem c_sh (H : LL M a b y z) {K : Option Nat → Option ρ} : gfR M (some 0) 11 7 K = K (some a) := by rw [gfR_s (by rw [H.1.1.1]), H.2.1.1]
theorem c_dr (H : LL M a b y z) {K : Option Nat → Option ρ} : gfR M (some 0) 11 8 K = K (some b) := by rw [gfR_s (by rw [H.1.1.1]), H.2.1.2.1]
theorem c_yr (H : LL M a b y z) {K : Option Nat → Option ρ} : gfR M (some 0) 11 9 K = K (some y) := by rw [gfR_s (by rw [H.1.1.1]), H.2.1.2.2.1]
theorem c_dy (H : LL M a b y z) {K : Option Nat → Option ρ} : gfR M (some 0) 11 10 K = K (some z) := by rw [gfR_s (by rw [H.1.1.1]), H.2.1.2.2.2.1]
theorem ll_a (H : LL M a b y z) : a = 12 ∨ a = 43 := by rcases H.2.1.2.2.2.2.1 with h | h <;> omega
theorem ll_b (H : LL M a b y z) : (b = 12 ∨ b = 43) ∧ (a + 31 ≤ b ∨ b + 31 ≤ a) := by rcases H.2.1.2.2.2.2.1 with h | h <;> omega
theorem ll_y (H : LL M a b y z) : (y = 74 ∨ y = 80) ∧ (z = 74 ∨ z = 80) ∧ (y + 6 ≤ z ∨ z + 6 ≤ y) := by rcases H.2.1.2.2.2.2.2 with h | h <;> omega
theorem ll_sa (H : LL M a b y z) : shL M a := by rcases ll_a H with h | h <;> subst h; exact H.1.2.2.2.1.1; exact H.1.2.2.2.1.2.1
theorem ll_sb (H : LL M a b y z) : shL M b := by rcases (ll_b H).1 with h | h <;> subst h; exact H.1.2.2.2.1.1; exact H.1.2.2.2.1.2.1
theorem ll_yy (H : LL M a b y z) : yrL M y := by rcases (ll_y H).1 with h | h <;> subst h; exact H.1.2.2.2.1.2.2.2.1; exact H.1.2.2.2.1.2.2.2.2
theorem ll_yz (H : LL M a b y z) : yrL M z := by rcases (ll_y H).2.1 with h | h <;> subst h; exact H.1.2.2.2.1.2.2.2.1; exact H.1.2.2.2.1.2.2.2.2
theorem c_answer (H : LL M a b y z) (v : Int32) : f_X11_answer M (some 0) v = some (v, sI M 0 0 0) := by
  unfold f_X11_answer
  rw [c_pI H]
theorem c_none (H : LL M a b y z) (w : Int32) : f_X11_none M (some 0) w = some (-1, sI M 0 0 w) := by
  unfold f_X11_none
  rw [c_pI H]
theorem c_no (H : LL M a b y z) (w : Int32) : f_X11_no M (some 0) w = some (0, sI M 0 0 w) := by
  unfold f_X11_no g_X11_no
  rw [c_pI H, zc0]
theorem c_yes (H : LL M a b y z) : f_X11_yes M (some 0) = some (1, sI M 0 0 0) := by
  unfold f_X11_yes g_X11_yes
  rw [c_pI H, zc1]
theorem zc_v {x : Int32} {M : Mm} (h : x = 0 ∨ x = 1) : zc (some (x, M)) = some (x, M) := by
  rcases h with h | h <;> subst h
  · exact zc0
  · exact zc1
theorem ite01 {p : Prop} [Decidable p] : (if p then (1 : Int32) else 0) = 0 ∨ (if p then (1 : Int32) else 0) = 1 := by
  by_cases h : p
  · rw [if_pos h]; exact Or.inr rfl
  · rw [if_neg h]; exact Or.inl rfl
theorem ite01z {p : Prop} [Decidable p] : ((if p then (1 : Int32) else 0) = 0) = ¬ p := by
  by_cases h : p <;> simp [h]
theorem c_isHouse (H : LL M a b y z) {c : Nat → Int32} (S : shO M a c) (x : Int32) : f_X11_isHouse M (some 0) x = some (if 0 ≤ x ∧ x ≤ c 0 - 1 then 1 else 0, M) := by
  unfold f_X11_isHouse g_X11_isHouse
  rw [c_sh H, e_hc S, q_within, bd_s, zc_v ite01]
theorem c_isGang (H : LL M a b y z) {c : Nat → Int32} (S : shO M a c) (x : Int32) : f_X11_isGang M (some 0) x = some (if 0 ≤ x ∧ x ≤ c 1 - 1 then 1 else 0, M) := by
  unfold f_X11_isGang g_X11_isGang
  rw [c_sh H, e_gc S, q_within, bd_s, zc_v ite01]
end C
/-- behind a status of the class, as the reference begins; and its end where nothing but the status came -/
def pre (M : Mm) (s : Int32) : Mm := sI (sI (sI M 0 0 s) 207 1 0) 207 0 0
def stM (M : Mm) (s : Int32) : Mm := sI (sI (sI M 0 0 s) 207 1 0) 207 0 s
theorem pre0 (M : Mm) : pre M 0 = stM M 0 := rfl
section C
variable {ρ : Type} {M : Mm} {a b y z : Nat} {s : Int32}
theorem pre_md (H : LL M a b y z) (s : Int32) : md (pre M s) (mI M 212) := md_sI (md_sI (md_sI ⟨H.2.2.1, rfl⟩ (by decide)) (by decide)) (by decide)
theorem m_pre (H : LL M a b y z) (s : Int32) {K : Mm → Option ρ} : (pfI (sI M 0 0 s) (some 207) 12 1 0 fun M2 => pfI M2 (some 207) 12 0 0 K) = K (pre M s) := by
  rw [m_pI (M := sI M 0 0 s) H.2.2.1, m_pI (M := sI (sI M 0 0 s) 207 1 0) H.2.2.1]
  rfl
theorem m_refuse (H : LL M a b y z) (s w : Int32) : f_X12_refuse (pre M s) (some 207) w = some (-1, sI (sI (sI M 0 0 s) 207 1 0) 207 0 w) := by
  unfold f_X12_refuse
  rw [m_pI (M := pre M s) H.2.2.1]
  unfold pre
  rw [sI_sI]
theorem m_no (H : LL M a b y z) (s w : Int32) : f_X12_no (pre M s) (some 207) w = some (0, sI (sI (sI M 0 0 s) 207 1 0) 207 0 w) := by
  unfold f_X12_no g_X12_no
  rw [m_pI (M := pre M s) H.2.2.1, zc0]
  unfold pre
  rw [sI_sI]
end C
