/-! THE MINUTES OF A SET for a gang: the class's, the reference's -/
theorem lupE {β : Type} (L : Nat → Mm → Nat → β) (Inv : Nat → Mm → Prop) (n : Nat) (K : Mm → β) (hs : ∀ f k x, k < n → Inv k x → ∃ y, L (f + 1) x k = L f y (k + 1) ∧ Inv (k + 1) y) (he : ∀ f x, Inv n x → L (f + 1) x n = K x) : ∀ f k x, k ≤ n → n - k < f → Inv k x → ∃ y, L f x k = K y ∧ Inv n y := by
  intro f
  induction f with
  | zero => intro k x _ h; omega
  | succ f ih =>
    intro k x hk h hi
    rcases Nat.lt_or_ge k n with q | q
    · obtain ⟨y, h1, h2⟩ := hs f k x q hi
      obtain ⟨z, h3, h4⟩ := ih (k + 1) y q (by omega) h2
      exact ⟨z, h1.trans h3, h4⟩
    · have e : k = n := by omega
      subst e
      exact ⟨x, he f x hi, hi⟩
theorem lupE0 {β : Type} (L : Nat → Mm → Nat → β) (Inv : Nat → Mm → Prop) (n : Nat) (K : Mm → β) (hn : n < 65536) (hs : ∀ f k x, k < n → Inv k x → ∃ y, L (f + 1) x k = L f y (k + 1) ∧ Inv (k + 1) y) (he : ∀ f x, Inv n x → L (f + 1) x n = K x) (x : Mm) (h : Inv 0 x) : ∃ y, L fu x 0 = K y ∧ Inv n y := lupE L Inv n K hs he fu 0 x (Nat.zero_le _) (by unfold fu; omega) h
theorem ldnE {β : Type} (L : Nat → Mm → Nat → β) (Inv : Nat → Mm → Prop) (n : Nat) (K : Mm → β) (hs : ∀ f k x, k < n → Inv (k + 1) x → ∃ y, L (f + 1) x (k + 1) = L f y k ∧ Inv k y) (he : ∀ f x, Inv 0 x → L (f + 1) x 0 = K x) : ∀ f k x, k ≤ n → k < f → Inv k x → ∃ y, L f x k = K y ∧ Inv 0 y := by
  intro f
  induction f with
  | zero => intro k x _ h; omega
  | succ f ih =>
    intro k x hk h hi
    cases k with
    | zero => exact ⟨x, he f x hi, hi⟩
    | succ k =>
      obtain ⟨y, h1, h2⟩ := hs f k x (by omega) hi
      obtain ⟨z, h3, h4⟩ := ih k y (by omega) (by omega) h2
      exact ⟨z, h1.trans h3, h4⟩
theorem ldnE0 {β : Type} (L : Nat → Mm → Nat → β) (Inv : Nat → Mm → Prop) (n : Nat) (K : Mm → β) (hn : n < 65536) (hs : ∀ f k x, k < n → Inv (k + 1) x → ∃ y, L (f + 1) x (k + 1) = L f y k ∧ Inv k y) (he : ∀ f x, Inv 0 x → L (f + 1) x 0 = K x) (x : Mm) (h : Inv n x) : ∃ y, L fu x n = K y ∧ Inv 0 y := ldnE L Inv n K hs he fu n x (Nat.le_refl _) (by unfold fu; omega) h
/-- only ints of some rows changed -/
def FS (P : Nat → Prop) (M M' : Mm) : Prop := mK M' = mK M ∧ mL M' = mL M ∧ mR M' = mR M ∧ mT M' = mT M ∧ ∀ x, ¬ P x → mI M' x = mI M x
theorem FS.rf {P : Nat → Prop} {M : Mm} : FS P M M := ⟨rfl, rfl, rfl, rfl, fun _ _ => rfl⟩
theorem FS.tr {P : Nat → Prop} {M M' M'' : Mm} (h : FS P M M') (h2 : FS P M' M'') : FS P M M'' := ⟨h2.1.trans h.1, h2.2.1.trans h.2.1, h2.2.2.1.trans h.2.2.1, h2.2.2.2.1.trans h.2.2.2.1, fun x hx => (h2.2.2.2.2 x hx).trans (h.2.2.2.2 x hx)⟩
theorem FS.sI {P : Nat → Prop} {M M' : Mm} (h : FS P M M') {a : Nat} (hP : P a) (k : Nat) (v : Int32) : FS P M (sI M' a k v) := ⟨h.1, h.2.1, h.2.2.1, h.2.2.2.1, fun x hx => by
  rw [mI_o (fun e => hx (by rw [e]; exact hP))]
  exact h.2.2.2.2 x hx⟩
theorem FS.mo {P Q : Nat → Prop} {M M' : Mm} (h : FS P M M') (hPQ : ∀ x, P x → Q x) : FS Q M M' := ⟨h.1, h.2.1, h.2.2.1, h.2.2.2.1, fun x hx => h.2.2.2.2 x (fun z => hx (hPQ x z))⟩
theorem FS.mdl {P : Nat → Prop} {M M' : Mm} (h : FS P M M') (D : mdL M) : mdL M' := by
  unfold mdL at *
  rw [h.1, h.2.2.1]
  exact D
theorem FS.mdc {P : Nat → Prop} {M M' : Mm} {c : Nat → Int32} (h : FS P M M') (hP : ¬ P 212) (D : md M c) : md M' c := ⟨h.mdl D.1, (h.2.2.2.2 212 hP).trans D.2⟩
theorem FS.sho {P : Nat → Prop} {M M' : Mm} {a : Nat} {c : Nat → Int32} (h : FS P M M') (hP : ∀ x, a ≤ x → x < a + 31 → ¬ P x) (S : shO M a c) : shO M' a c := shO_same S h.1 h.2.2.1 fun x h1 h2 => h.2.2.2.2 x (hP x h1 h2)
def P6 (x : Nat) : Prop := x = 215 ∨ x = 216 ∨ x = 217
def P9 (x : Nat) : Prop := x = 90 ∨ x = 91
section R
variable {ρ : Type} {M : Mm} {k : Nat}
theorem r215 (D : mdL M) (hk : k < 2048) {K : Int32 → Option ρ} : alI M (some 215) 21 (nI k) K = K (mI M 215 k) := alI_s D.2.2.2.2.2.2.2.2.1.2 hk (by decide)
theorem s215 (D : mdL M) (hk : k < 2048) {v : Int32} {K : Mm → Option ρ} : asI M (some 215) 21 (nI k) v K = K (sI M 215 k v) := asI_s D.2.2.2.2.2.2.2.2.1.2 hk (by decide)
theorem r216 (D : mdL M) (hk : k < 1024) {K : Int32 → Option ρ} : alI M (some 216) 21 (nI k) K = K (mI M 216 k) := alI_s D.2.2.2.2.2.2.2.2.2.1.2 hk (by decide)
theorem s216 (D : mdL M) (hk : k < 1024) {v : Int32} {K : Mm → Option ρ} : asI M (some 216) 21 (nI k) v K = K (sI M 216 k v) := asI_s D.2.2.2.2.2.2.2.2.2.1.2 hk (by decide)
theorem r217 (D : mdL M) (hk : k < 256) {K : Int32 → Option ρ} : alI M (some 217) 21 (nI k) K = K (mI M 217 k) := alI_s D.2.2.2.2.2.2.2.2.2.2.1.2 hk (by decide)
theorem s217 (D : mdL M) (hk : k < 256) {v : Int32} {K : Mm → Option ρ} : asI M (some 217) 21 (nI k) v K = K (sI M 217 k v) := asI_s D.2.2.2.2.2.2.2.2.2.2.1.2 hk (by decide)
theorem q_hasN (M : Mm) {s k : Nat} (hs : s < 2147483648) (hk : k < 31) : f_X12_has M (nI s) (nI k) = some (if s.testBit k = true then 1 else 0, M) := by
  rw [q_has]
  by_cases q : s.testBit k = true
  · rw [if_pos q, if_pos ((hasB_nI hs hk).mpr q)]
  · rw [if_neg q, if_neg (fun z => q ((hasB_nI hs hk).mp z))]
end R
/-! sets without a member -/
def rmB (s l : Nat) : Nat := s &&& ((2 ^ l) ^^^ 4294967295)
theorem rm_nI {s l : Nat} (hl : l < 31) : nI s &&& (((1 : Int32) <<< (nI l &&& 31)) ^^^ (-1)) = nI (rmB s l) := by
  have h : (1 : Int32) <<< (nI l &&& 31) = nI (2 ^ l) := bitB_nI hl
  rw [h, nI_not, nI_and]
  rfl
theorem rm_le {s l : Nat} : rmB s l ≤ s := Nat.and_le_left
theorem bit_8 {s k : Nat} (hs : s < 256) (h : s.testBit k = true) : k < 8 := by
  refine Classical.byContradiction fun z => ?_
  have h2 : 2 ^ 8 ≤ 2 ^ k := Nat.pow_le_pow_right (by omega) (by omega)
  rw [Nat.testBit_lt_two_pow (by omega)] at h
  exact absurd h (by decide)
theorem rm_bit {s l : Nat} (hs : s < 256) : ∀ k, (rmB s l).testBit k = true ↔ s.testBit k = true ∧ k ≠ l := fun k => by
  have hle : rmB s l ≤ s := rm_le
  by_cases hk : k < 32
  · unfold rmB
    rw [andn_bit hk, Nat.testBit_two_pow, Bool.and_eq_true]
    constructor
    · rintro ⟨h1, h2⟩
      refine ⟨h1, fun e => ?_⟩
      rw [e] at h2
      simp at h2
    · rintro ⟨h1, h2⟩
      refine ⟨h1, ?_⟩
      have : ¬ l = k := fun e => h2 e.symm
      simp [this]
  · constructor
    · intro h
      have := bit_8 (show rmB s l < 256 by omega) h
      omega
    · rintro ⟨h, -⟩
      have := bit_8 hs h
      omega
theorem rm_lt {s l : Nat} (hs : s < 256) (hl : s.testBit l = true) : rmB s l < s := by
  have hle : rmB s l ≤ s := rm_le
  refine Nat.lt_of_le_of_ne hle fun e => ?_
  have h := (rm_bit (l := l) hs l).mp (by rw [e]; exact hl)
  exact h.2 rfl
/-! a gang's minutes -/
def ppc (c : Nat → Int32) : Nat → Nat := fun h => na c (5 + h)
def wwc (c : Nat → Int32) (g : Nat) : Nat → Nat := fun h => na c (53 + h) * takesN c g h
def sSm (c : Nat → Int32) (g s : Nat) : Nat := mS (ppc c) (wwc c g) (na c (145 + g)) (na c (141 + g)) (hN c) s
def sEm (c : Nat → Int32) (g s l : Nat) : Nat := mE (ppc c) (wwc c g) (na c (145 + g)) (na c (141 + g)) (hN c) s l
def uN (c : Nat → Int32) : Nat := stN (isOn c) (hN c)
abbrev sub (c : Nat → Int32) (s : Nat) : Prop := s &&& (uN c ^^^ 4294967295) = 0
def sV (c : Nat → Int32) (g s : Nat) : Nat := if s &&& (uN c ^^^ 4294967295) = 0 then sSm c g s else 99999
def eV (c : Nat → Int32) (g s l : Nat) : Nat := if s &&& (uN c ^^^ 4294967295) = 0 then (if s.testBit l = true then sEm c g s l else 99999) else 99999
section G
variable {M : Mm} {c : Nat → Int32} {a g : Nat}
theorem u_set (O : okC c) : st (isOn c) (hN c) = nI (uN c) ∧ uN c < 256 := st_256 (isOn c) (ok_h O).2
theorem sub_nI {s u : Nat} (hs : s < 256) : (nI s &&& (nI u ^^^ (-1)) = 0) ↔ (s &&& (u ^^^ 4294967295) = 0) := by
  have h : s &&& (u ^^^ 4294967295) ≤ s := Nat.and_le_left
  rw [nI_not, nI_and, nI_z (by omega)]
theorem sub_bit {s : Nat} (hs : s < 256) : sub c s ↔ ∀ k, s.testBit k = true → k < hN c ∧ isOn c k := by
  unfold sub
  rw [andn0 (by omega)]
  constructor
  · intro h k hb
    have h8 := bit_8 hs hb
    have h2 := h k (by omega) hb
    unfold uN at h2
    rw [stN_bit] at h2
    simpa using h2
  · intro h k hk hb
    unfold uN
    rw [stN_bit]
    simpa using h k hb
theorem sub_rm {s l : Nat} (hs : s < 256) (h : sub c s) : sub c (rmB s l) := by
  have hle : rmB s l ≤ s := rm_le
  rw [sub_bit (by omega)]
  intro k hk
  exact (sub_bit hs).mp h k ((rm_bit hs k).mp hk).1
theorem sub_0 : sub c 0 := by
  unfold sub
  rw [Nat.zero_and]
theorem gb (O : okC c) (hg : g < gN c) : c (141 + g) = nI (na c (141 + g)) ∧ na c (141 + g) ≤ 9 ∧ c (145 + g) = nI (na c (145 + g)) ∧ na c (145 + g) ≤ 60 := by
  obtain ⟨-, -, ⟨a1, a2, a3⟩, ⟨b1, b2, b3⟩, -⟩ := O.2.2.2.2.2.2.2.1 g hg
  exact ⟨a1, a3, b1, b3⟩
theorem pb (O : okC c) {k : Nat} (hk : k < hN c) : c (5 + k) = nI (ppc c k) ∧ ppc c k ≤ 60 := ⟨(O.2.2.2.2.2.1 k hk).1.1, (O.2.2.2.2.2.1 k hk).1.2.2⟩
theorem wb (O : okC c) (hg : g < gN c) {k : Nat} (hk : k < hN c) : c (53 + k) = nI (na c (53 + k)) ∧ takes c g k = nI (takesN c g k) ∧ wwc c g k ≤ 1044 := by
  obtain ⟨-, -, -, -, -, -, ⟨a1, a2, a3⟩, -⟩ := O.2.2.2.2.2.1 k hk
  obtain ⟨b1, b2, b3⟩ := takes_nI c O hg hk
  exact ⟨a1, b1, Nat.mul_le_mul a3 b3⟩
theorem sSm_bd (O : okC c) (hg : g < gN c) (s : Nat) : sSm c g s ≤ 9972 := by
  have h8 := (ok_h O).2
  have h := mS_bd (p := ppc c) (w := wwc c g) (s := s) (n := hN c) (B := 1044) (fun k hk => (pb O hk).2) (fun k hk => (wb O hg hk).2.2) (gb O hg).2.2.2 (gb O hg).2.1
  unfold sSm
  omega
theorem sEm_bd (O : okC c) (hg : g < gN c) (s : Nat) {l : Nat} (hl : l < hN c) : sEm c g s l ≤ 9972 := by
  have h8 := (ok_h O).2
  have h := mE_bd (p := ppc c) (w := wwc c g) (s := s) (n := hN c) (B := 1044) (l := l) (fun k hk => (pb O hk).2) (fun k hk => (wb O hg hk).2.2) (gb O hg).2.2.2 (gb O hg).2.1 (pb O hl).2
  unfold sEm
  omega
theorem sV_le (O : okC c) (hg : g < gN c) (s : Nat) : sV c g s ≤ 99999 := by
  have h := sSm_bd O hg s
  unfold sV
  by_cases q : s &&& (uN c ^^^ 4294967295) = 0
  · rw [if_pos q]; omega
  · rw [if_neg q]; omega
theorem eV_le (O : okC c) (hg : g < gN c) {s : Nat} (hs : s < 256) (l : Nat) : eV c g s l ≤ 99999 := by
  unfold eV
  by_cases q : s &&& (uN c ^^^ 4294967295) = 0
  · rw [if_pos q]
    by_cases q2 : s.testBit l = true
    · rw [if_pos q2]
      have h := sEm_bd O hg s ((sub_bit hs).mp q l q2).1
      omega
    · rw [if_neg q2]; omega
  · rw [if_neg q]; omega
theorem sV_eq (O : okC c) (hg : g < gN c) {s : Nat} (hs : s < 256) : mnA (eV c g s) (if s = 0 then 0 else 99999) 8 = sV c g s := by
  have h8 := (ok_h O).2
  by_cases e : s = 0
  · subst e
    have h1 := mnA_i (t := eV c g 0) (i := 0) 8
    rw [if_pos rfl]
    have h2 : sV c g 0 = 0 := by
      unfold sV
      rw [if_pos sub_0]
      exact mS_0
    omega
  · rw [if_neg e]
    by_cases q : s &&& (uN c ^^^ 4294967295) = 0
    · have hsV : sV c g s = sSm c g s := by unfold sV; rw [if_pos q]
      have hb := sSm_bd O hg s
      have hsb := (sub_bit (c := c) hs).mp q
      rw [hsV]
      obtain ⟨k0, hk0⟩ := nz_bit e
      obtain ⟨k, k1, k2, k3⟩ := mS_at (p := ppc c) (w := wwc c g) (f := na c (145 + g)) (q := na c (141 + g)) (s := s) (n := hN c) ⟨k0, (hsb k0 hk0).1, hk0⟩
      refine Nat.le_antisymm ?_ (mnA_ge (by omega) 8 fun j hj => ?_)
      · refine Nat.le_trans (mnA_k (k := k) 8 (by omega)) (Nat.le_of_eq ?_)
        unfold eV
        rw [if_pos q, if_pos k2]
        exact k3.symm
      · unfold eV
        rw [if_pos q]
        by_cases q2 : s.testBit j = true
        · rw [if_pos q2]
          exact mS_le (hsb j q2).1 q2
        · rw [if_neg q2]; omega
    · have hsV : sV c g s = 99999 := by unfold sV; rw [if_neg q]
      rw [hsV]
      refine Nat.le_antisymm (mnA_i 8) (mnA_ge (Nat.le_refl _) 8 fun j hj => ?_)
      unfold eV
      rw [if_neg q]
      exact Nat.le_refl _
/-! the class's -/
theorem p_way (S : shO M a c) {f s : Nat} (hf : f ≤ 60) (hs : s < 256) (l0 : Option Nat) : f_X3_shortestWay M l0 (some a) (nI f) (nI s) = some (nI (dS (loS (ppc c) f s (hN c)) (hiS (ppc c) f s (hN c)) f), M) := by
  have h8 := (ok_h S.2.2).2
  have hp : ∀ k, k < hN c → ppc c k ≤ 60 := fun k hk => (pb S.2.2 hk).2
  refine lup0 (fun i k => f_X3_shortestWay_9 i M (some a) (nI f) (nI s) (nI (loS (ppc c) f s k)) (nI (hiS (ppc c) f s k)) (nI k)) (hN c) _ (by omega) (fun i k hk => ?_) (fun i => ?_)
  · have b1 := loS_f (p := ppc c) (f := f) (s := s) k
    have b2 := hiS_le (s := s) (p := ppc c) hf k (fun j hj => hp j (by omega))
    have b3 := hp k hk
    rw [f_X3_shortestWay_9, e_hc S, if_neg (hc_in S.2.2 hk), loS, hiS]
    by_cases q : s.testBit k = true
    · rw [if_pos ((hasB_nI (by omega) (by omega)).mpr q), if_pos q, if_pos q, e_hs S, e_h S (h_8 S hk), e_hat S hk, nmI_s, e_hs S, e_h S (h_8 S hk), e_hat S hk, nmI_s, (pb S.2.2 hk).1, mn_nI (by omega) (by omega), mx_nI (by omega) (by omega), f_X3_shortestWay_62, nI_1]
    · rw [if_neg (fun z => q ((hasB_nI (by omega) (by omega)).mp z)), if_neg q, if_neg q, f_X3_shortestWay_62, nI_1]
  · have a1 := loS_f (p := ppc c) (f := f) (s := s) (hN c)
    have a2 := hiS_f (p := ppc c) (f := f) (s := s) (hN c)
    have a3 := hiS_le (s := s) (p := ppc c) hf (hN c) hp
    rw [f_X3_shortestWay_9, e_hc S, if_pos (hc_out S.2.2), nI_sub (Nat.le_trans a1 a2), nI_sub a1, nI_sub a2, mn_nI (by omega) (by omega), nI_add]
    rfl
theorem p_minF (S : shO M a c) (hP : (mK M 88).1 = 3) (hg : g < gN c) {s : Nat} (hs : s < 256) : f_X3_minutesFor M (some 88) (some a) (nI g) (nI s) = some (nI (sSm c g s), M) := by
  have h8 := (ok_h S.2.2).2
  obtain ⟨b1, b2, b3, b4⟩ := gb S.2.2 hg
  unfold f_X3_minutesFor
  rw [e_gs S, e_g S (g_4 S hg), e_gpa S hg, e_gat S hg, ck_s hP, b1, b3, p_way S b4 hs, bd_s, nI_mul, nmI_s]
  refine lup0 (fun i k => f_X3_minutesFor_30 i M (some a) (nI s) (some (a + 21 + g)) (nI (na c (141 + g) * dS (loS (ppc c) (na c (145 + g)) s (hN c)) (hiS (ppc c) (na c (145 + g)) s (hN c)) (na c (145 + g)) + wkS (wwc c g) s k)) (nI k)) (hN c) _ (by omega) (fun i k hk => ?_) (fun i => ?_)
  · obtain ⟨w1, w2, w3⟩ := wb S.2.2 hg hk
    rw [f_X3_minutesFor_30, e_hc S, if_neg (hc_in S.2.2 hk), wkS]
    by_cases q : s.testBit k = true
    · rw [if_pos ((hasB_nI (by omega) (by omega)).mpr q), if_pos q, e_hs S, e_h S (h_8 S hk), e_hon S hk, e_hs S, e_h S (h_8 S hk), ck_s (by rw [k_g S (g_4 S hg)]), p_pieceMin S hg hk, bd_s, w1, w2, nI_mul, nI_add, nmI_s, f_X3_minutesFor_77, nI_1, ← Nat.add_assoc]
      rfl
    · rw [if_neg (fun z => q ((hasB_nI (by omega) (by omega)).mp z)), if_neg q, f_X3_minutesFor_77, nI_1]
  · rw [f_X3_minutesFor_30, e_hc S, if_pos (hc_out S.2.2)]
    rfl
/-! the reference's -/
theorem q_btw (D : md M c) (O : okC c) (hg : g < gN c) {h l : Nat} (hh : h < hN c) (hl : l < hN c) : f_X12_between M (some 207) (nI g) (nI h) (nI l) = some (nI (na c (141 + g) * dst (ppc c h) (ppc c l)), M) := by
  have h8 := (ok_h O).2
  have g4 := (ok_g O).2
  have p1 := pb O hh
  have p2 := pb O hl
  unfold f_X12_between
  simp (disch := omega) only [↓m_r4 D.1, ↓m_r5 D.1, ↓m_r6 D.1, ↓m_r7 D.1, ↓m_r20 D.1, ↓m_r21 D.1, ↓m_r22 D.1, ↓m_r27 D.1, ↓m_r28 D.1, ↓m_r29 D.1, ↓m_r31 D.1, ↓m_r32 D.1, ↓m_r35 D.1, ↓m_ck D.1, ↓m_c0 D, ↓m_c1 D, ↓m_c2 D, ↓m_c3 D, ↓m_c4 D, ↓m_c D, i2, i3, i4, i5, i13, i21, i29, i37, i45, i53, i61, i69, i133, i137, i141, i145, i149, i153, i157, i161, i167, i4m, i6m, i8m, i9m, i18m, i60m, i256m, i450m, nI_add, ↓nmI_s, ↓bd_s, ↓bv_s, nI_1, ↓reduceIte]
  rw [(gb O hg).1, p1.1, p2.1, abI_dst (by omega) (by omega), nI_mul]
theorem q_lift (D : md M c) (O : okC c) (hg : g < gN c) {l : Nat} (hl : l < hN c) : f_X12_liftOf M (some 207) (nI g) (nI l) = some (nI (wwc c g l), M) := by
  have h8 := (ok_h O).2
  have g4 := (ok_g O).2
  obtain ⟨w1, w2, w3⟩ := wb O hg hl
  unfold f_X12_liftOf
  simp (disch := omega) only [↓m_r4 D.1, ↓m_r5 D.1, ↓m_r6 D.1, ↓m_r7 D.1, ↓m_r20 D.1, ↓m_r21 D.1, ↓m_r22 D.1, ↓m_r27 D.1, ↓m_r28 D.1, ↓m_r29 D.1, ↓m_r31 D.1, ↓m_r32 D.1, ↓m_r35 D.1, ↓m_ck D.1, ↓m_c0 D, ↓m_c1 D, ↓m_c2 D, ↓m_c3 D, ↓m_c4 D, ↓m_c D, i2, i3, i4, i5, i13, i21, i29, i37, i45, i53, i61, i69, i133, i137, i141, i145, i149, i153, i157, i161, i167, i4m, i6m, i8m, i9m, i18m, i60m, i256m, i450m, nI_add, ↓nmI_s, ↓bd_s, ↓bv_s, nI_1, ↓reduceIte]
  rw [q_takes D O hg (by omega), bd_s, w1, w2, nI_mul]
  rfl
theorem q_104 (D : md M c) (O : okC c) (hg : g < gN c) {s l r u i : Nat} (hl : l < hN c) (hr : r < 256) (hsub : sub c r) (hi : i ≤ 99999) (hE : ∀ h, h < 8 → mI M 215 (8 * r + h) = nI (eV c g r h)) (k7 : Mm → Option Nat → Int32 → Int32 → Int32 → Option Mm) (k40 : Mm → Option Nat → Int32 → Int32 → Int32 → Int32 → Option Mm) : f_X12_fill_104 k7 k40 fu M (some 207) (nI g) (nI u) (nI s) (nI l) (nI i) (nI r) 0 = f_X12_fill_169 k7 k40 M (some 207) (nI g) (nI u) (nI s) (nI l) (nI (mnS (fun k => (sEm c g r k + na c (141 + g) * dst (ppc c k) (ppc c l)) + wwc c g l) r i (hN c))) := by
  have h8 := (ok_h O).2
  have g4 := (ok_g O).2
  refine lup0 (fun f k => f_X12_fill_104 k7 k40 f M (some 207) (nI g) (nI u) (nI s) (nI l) (nI (mnS (fun k => (sEm c g r k + na c (141 + g) * dst (ppc c k) (ppc c l)) + wwc c g l) r i k)) (nI r) (nI k)) (hN c) _ (by omega) (fun f k hk => ?_) (fun f => ?_)
  · have m1 := mnS_i (t := fun k => (sEm c g r k + na c (141 + g) * dst (ppc c k) (ppc c l)) + wwc c g l) (s := r) (i := i) k
    have m2 := sEm_bd O hg r hk
    have m3 := (wb O hg hl).2.2
    have m4 : na c (141 + g) * dst (ppc c k) (ppc c l) ≤ 9 * 60 := Nat.mul_le_mul (gb O hg).2.1 (by have := (pb O hk).2; have := (pb O hl).2; unfold dst; omega)
    rw [f_X12_fill_104, m_r20 D.1, m_c0 D, if_neg (hc_in O hk), q_hasN M (by omega) (by omega), bd_s, mnS]
    by_cases q : r.testBit k = true
    · have e1 : eV c g r k = sEm c g r k := by
        unfold eV
        rw [if_pos hsub, if_pos q]
      rw [if_pos q, if_neg (by decide), if_pos q, m_r27 D.1, i8m, nI_add, r215 D.1 (by omega), hE k (by omega), e1, m_ck D.1, q_btw D O hg hk hl, bd_s, m_ck D.1, q_lift D O hg hl, bd_s, nI_add, nI_add, mn_nI (by omega) (by omega), nmI_s, f_X12_fill_163, nI_1]
    · rw [if_neg q, if_pos rfl, if_neg q, f_X12_fill_163, nI_1]
  · rw [f_X12_fill_104, m_r20 D.1, m_c0 D, if_pos (hc_out O)]
theorem q_169 (D : mdL M) (g4 : g < 4) {s l u b v : Nat} (hs : s < 256) (hl : l < 8) (hv : mI M 216 (256 * g + s) = nI v) (v9 : v ≤ 99999) (b9 : b ≤ 99999) (k7 : Mm → Option Nat → Int32 → Int32 → Int32 → Option Mm) (k40 : Mm → Option Nat → Int32 → Int32 → Int32 → Int32 → Option Mm) : f_X12_fill_169 k7 k40 M (some 207) (nI g) (nI u) (nI s) (nI l) (nI b) = k40 (sI (sI M 215 (8 * s + l) (nI b)) 216 (256 * g + s) (nI (min v b))) (some 207) (nI g) (nI u) (nI s) (nI (l + 1)) := by
  have D2 : mdL (sI M 215 (8 * s + l) (nI b)) := D
  have e : mI (sI M 215 (8 * s + l) (nI b)) 216 (256 * g + s) = nI v := hv
  unfold f_X12_fill_169
  rw [m_r27 D, i8m, nI_add, s215 D (by omega), m_r28 D2, m_r28 D2, i256m, nI_add, r216 D2 (by omega), e, mn_nI (by omega) (by omega), s216 D2 (by omega), nI_1]
def I40 (M : Mm) (c : Nat → Int32) (g s l : Nat) (N : Mm) : Prop := FS P6 M N ∧ (∀ t j, t < s → j < 8 → mI N 215 (8 * t + j) = nI (eV c g t j)) ∧ (∀ j, j < l → mI N 215 (8 * s + j) = nI (eV c g s j)) ∧ (∀ t, t < s → mI N 216 (256 * g + t) = nI (sV c g t)) ∧ mI N 216 (256 * g + s) = nI (mnA (eV c g s) (if s = 0 then 0 else 99999) l) ∧ ∀ k, (k < 256 * g ∨ 256 * g + 256 ≤ k) → mI N 216 k = mI M 216 k
theorem I40_put {s l : Nat} {N : Mm} (hs : s < 256) (hl : l < 8) (h : I40 M c g s l N) : I40 M c g s (l + 1) (sI (sI N 215 (8 * s + l) (nI (eV c g s l))) 216 (256 * g + s) (nI (min (mnA (eV c g s) (if s = 0 then 0 else 99999) l) (eV c g s l)))) := by
  obtain ⟨h1, h2, h3, h4, h5, h6⟩ := h
  refine ⟨(h1.sI (Or.inl rfl) _ _).sI (Or.inr (Or.inl rfl)) _ _, fun t j ht hj => ?_, fun j hj => ?_, fun t ht => ?_, ?_, fun k hk => ?_⟩
  · rw [mI_o (by decide), mI_f (by omega)]
    exact h2 t j ht hj
  · rw [mI_o (by decide)]
    by_cases q : j = l
    · rw [q, mI_sI_s]
    · rw [mI_f (by omega)]
      exact h3 j (by omega)
  · rw [mI_f (by omega), mI_o (by decide)]
    exact h4 t ht
  · rw [mI_sI_s, mnA]
  · rw [mI_f (by omega), mI_o (by decide)]
    exact h6 k hk
theorem q_40 (D : md M c) (O : okC c) (hg : g < gN c) {s : Nat} (hs : s < 256) (k7 : Mm → Option Nat → Int32 → Int32 → Int32 → Option Mm) {N : Mm} (h : I40 M c g s 0 N) : ∃ N', f_X12_fill_40 k7 fu N (some 207) (nI g) (nI (uN c)) (nI s) 0 = k7 N' (some 207) (nI g) (nI (uN c)) (nI (s + 1)) ∧ I40 M c g s 8 N' := by
  have h8 := (ok_h O).2
  have g4 := (ok_g O).2
  refine lupE0 (fun f N l => f_X12_fill_40 k7 f N (some 207) (nI g) (nI (uN c)) (nI s) (nI l)) (fun l N => I40 M c g s l N) 8 _ (by omega) (fun f l N hl hI => ?_) (fun f N hI => ?_) N h
  · have hput := I40_put hs hl hI
    obtain ⟨h1, h2, h3, h4, h5, h6⟩ := hI
    have DN : md N c := h1.mdc (by unfold P6; omega) D
    have hA : mnA (eV c g s) (if s = 0 then 0 else 99999) l ≤ 99999 := by
      have := mnA_i (t := eV c g s) (i := if s = 0 then 0 else 99999) l
      by_cases q : s = 0
      · rw [if_pos q] at this ⊢; omega
      · rw [if_neg q] at this ⊢; omega
    have hE9 := eV_le O hg hs l
    have fin : ∀ b, b = eV c g s l → f_X12_fill_169 k7 (f_X12_fill_40 k7 f) N (some 207) (nI g) (nI (uN c)) (nI s) (nI l) (nI b) = f_X12_fill_40 k7 f (sI (sI N 215 (8 * s + l) (nI (eV c g s l))) 216 (256 * g + s) (nI (min (mnA (eV c g s) (if s = 0 then 0 else 99999) l) (eV c g s l)))) (some 207) (nI g) (nI (uN c)) (nI s) (nI (l + 1)) := fun b hb => by
      rw [hb]
      exact q_169 DN.1 (by omega) hs hl h5 hA hE9 _ _
    refine ⟨_, ?_, hput⟩
    rw [f_X12_fill_40, if_neg (by rw [show (8 : Int32) = nI 8 from rfl, nI_leI' (by omega) (by omega)]; omega)]
    by_cases q : s &&& (uN c ^^^ 4294967295) = 0
    · rw [if_pos ((sub_nI hs).mpr q), q_hasN N (by omega) (by omega), bd_s]
      by_cases q2 : s.testBit l = true
      · have hln := ((sub_bit hs).mp q l q2).1
        have hrl : rmB s l ≤ s := rm_le
        have hrs : rmB s l < s := rm_lt hs q2
        have hE : ∀ h, h < 8 → mI N 215 (8 * rmB s l + h) = nI (eV c g (rmB s l) h) := fun h hh => h2 _ _ hrs hh
        have hEV : eV c g s l = sEm c g s l := by
          unfold eV
          rw [if_pos q, if_pos q2]
        have hs2 : s < 2 ^ hN c := Nat.lt_of_not_le fun z => by
          have hb : ∀ k, s.testBit k = true → k < hN c := fun k hk => ((sub_bit hs).mp q k hk).1
          have e : s % 2 ^ hN c = s := Nat.eq_of_testBit_eq fun k => by
            rw [Nat.testBit_mod_two_pow]
            by_cases hk : k < hN c
            · simp [hk]
            · cases hb2 : s.testBit k
              · simp
              · exact absurd (hb k hb2) hk
          have := Nat.mod_lt s (Nat.two_pow_pos (hN c))
          omega
        have key := mE_eq (p := ppc c) (w := wwc c g) (f := na c (145 + g)) (q := na c (141 + g)) (n := hN c) (i := 99999) (rm_bit hs) q2 hln hs2 (by have := sEm_bd O hg s hln; unfold sEm at this; omega)
        have m3 := (wb O hg hln).2.2
        rw [if_pos q2, if_neg (by decide), rm_nI (by omega), nmI_s]
        by_cases q3 : rmB s l = 0
        · have hw := mul_nI3 c O hg hln
          rw [if_pos ((nI_z (by omega)).mpr q3), m_ck DN.1, q_walk DN (by omega) (by omega), bd_s, m_ck DN.1, q_lift DN O hg hln, bd_s, hw.1, nI_add, nmI_s, f_X12_fill_101, q_104 DN O hg hln (by omega) (sub_rm hs q) (by omega) hE]
          refine fin _ ?_
          rw [if_pos q3] at key
          rw [hEV]
          exact key
        · rw [if_neg (fun z => q3 ((nI_z (by omega)).mp z)), f_X12_fill_101, show (99999 : Int32) = nI 99999 from rfl, q_104 DN O hg hln (by omega) (sub_rm hs q) (by omega) hE]
          refine fin _ ?_
          rw [if_neg q3] at key
          rw [hEV]
          exact key
      · rw [if_neg q2, if_pos rfl, show (99999 : Int32) = nI 99999 from rfl]
        refine fin _ ?_
        unfold eV
        rw [if_pos q, if_neg q2]
    · rw [if_neg (fun z => q ((sub_nI hs).mp z)), show (99999 : Int32) = nI 99999 from rfl]
      refine fin _ ?_
      unfold eV
      rw [if_neg q]
  · show f_X12_fill_40 k7 (f + 1) N (some 207) (nI g) (nI (uN c)) (nI s) (nI 8) = _
    rw [f_X12_fill_40, if_pos (by decide), nI_1]
def I7 (M : Mm) (c : Nat → Int32) (g s : Nat) (N : Mm) : Prop := FS P6 M N ∧ (∀ t j, t < s → j < 8 → mI N 215 (8 * t + j) = nI (eV c g t j)) ∧ (∀ t, t < s → mI N 216 (256 * g + t) = nI (sV c g t)) ∧ ∀ k, (k < 256 * g ∨ 256 * g + 256 ≤ k) → mI N 216 k = mI M 216 k
theorem q_fill (D : md M c) (O : okC c) (hg : g < gN c) : ∃ N, f_X12_fill M (some 207) (nI g) = some N ∧ FS P6 M N ∧ (∀ t, t < 256 → mI N 216 (256 * g + t) = nI (sV c g t)) ∧ ∀ k, (k < 256 * g ∨ 256 * g + 256 ≤ k) → mI N 216 k = mI M 216 k := by
  have h8 := (ok_h O).2
  have g4 := (ok_g O).2
  have loop : ∃ N, f_X12_fill_7 fu M (some 207) (nI g) (nI (uN c)) 0 = some N ∧ I7 M c g 256 N := by
    refine lupE0 (fun f N s => f_X12_fill_7 f N (some 207) (nI g) (nI (uN c)) (nI s)) (fun s N => I7 M c g s N) 256 (fun N => some N) (by omega) (fun f s N hs hI => ?_) (fun f N hI => ?_) M ⟨FS.rf, fun t j ht => by omega, fun t ht => by omega, fun _ _ => rfl⟩
    · obtain ⟨h1, h2, h3, h4⟩ := hI
      have DN : md N c := h1.mdc (by unfold P6; omega) D
      have go : ∀ v, v = (if s = 0 then 0 else 99999) → ∃ N', f_X12_fill_36 (f_X12_fill_7 f) N (some 207) (nI g) (nI (uN c)) (nI s) (some 216) ((256 * nI g) + nI s) (nI v) = f_X12_fill_7 f N' (some 207) (nI g) (nI (uN c)) (nI (s + 1)) ∧ I7 M c g (s + 1) N' := fun v hv => by
        obtain ⟨N', e1, k1, k2, k3, k4, k5, k6⟩ := q_40 D O hg hs (f_X12_fill_7 f) (N := sI N 216 (256 * g + s) (nI v)) ⟨h1.sI (Or.inr (Or.inl rfl)) _ _, fun t j ht hj => by rw [mI_o (by decide)]; exact h2 t j ht hj, fun j hj => by omega, fun t ht => by rw [mI_f (by omega)]; exact h3 t ht, by rw [mI_sI_s, hv]; rfl, fun k hk => by rw [mI_f (by omega)]; exact h4 k hk⟩
        refine ⟨N', ?_, k1, fun t j ht hj => ?_, fun t ht => ?_, k6⟩
        · unfold f_X12_fill_36
          rw [i256m, nI_add, s216 DN.1 (by omega)]
          exact e1
        · by_cases q : t = s
          · rw [q]; exact k3 j hj
          · exact k2 t j (by omega) hj
        · by_cases q : t = s
          · rw [q, k5, sV_eq O hg hs]
          · exact k4 t (by omega)
      by_cases q : s = 0
      · obtain ⟨N', e1, e2⟩ := go 0 (by rw [if_pos q])
        refine ⟨N', ?_, e2⟩
        rw [f_X12_fill_7, if_neg (by rw [show (256 : Int32) = nI 256 from rfl, nI_leI' (by omega) (by omega)]; omega), m_r28 DN.1, if_pos ((nI_z (by omega)).mpr q)]
        exact e1
      · obtain ⟨N', e1, e2⟩ := go 99999 (by rw [if_neg q])
        refine ⟨N', ?_, e2⟩
        rw [f_X12_fill_7, if_neg (by rw [show (256 : Int32) = nI 256 from rfl, nI_leI' (by omega) (by omega)]; omega), m_r28 DN.1, if_neg (fun z => q ((nI_z (by omega)).mp z))]
        exact e1
    · show f_X12_fill_7 (f + 1) N (some 207) (nI g) (nI (uN c)) (nI 256) = _
      rw [f_X12_fill_7, if_pos (by decide)]
  obtain ⟨N, e1, e2, e3, e4, e5⟩ := loop
  refine ⟨N, ?_, e2, e4, e5⟩
  unfold f_X12_fill
  rw [m_ck D.1, q_onSet D O, bd_s, (u_set O).1]
  exact e1
def IA (M : Mm) (c : Nat → Int32) (n : Nat) (N : Mm) : Prop := FS P6 M N ∧ ∀ g t, g < n → t < 256 → mI N 216 (256 * g + t) = nI (sV c g t)
theorem q_fillAll (D : md M c) (O : okC c) : ∃ N, f_X12_fillAll M (some 207) = some N ∧ IA M c (gN c) N := by
  have g4 := (ok_g O).2
  refine lupE0 (fun f N g => f_X12_fillAll_2 f N (some 207) (nI g)) (fun g N => IA M c g N) (gN c) (fun N => some N) (by omega) (fun f g N hg hI => ?_) (fun f N hI => ?_) M ⟨FS.rf, fun g t hg => by omega⟩
  · obtain ⟨h1, h2⟩ := hI
    have DN : md N c := h1.mdc (by unfold P6; omega) D
    obtain ⟨N', e1, e2, e3, e4⟩ := q_fill DN O hg
    refine ⟨N', ?_, h1.tr e2, fun g' t hg' ht => ?_⟩
    · rw [f_X12_fillAll_2, m_r20 DN.1, m_c1 DN, if_neg (gc_in O hg), m_ck DN.1, e1, bv_s, nI_1]
    · by_cases q : g' = g
      · rw [q]; exact e3 t ht
      · rw [e4 _ (by omega)]
        exact h2 g' t (by omega) ht
  · have DN : md N c := hI.1.mdc (by unfold P6; omega) D
    rw [f_X12_fillAll_2, m_r20 DN.1, m_c1 DN, if_pos (gc_out O)]
end G
