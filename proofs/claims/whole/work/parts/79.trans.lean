/-! WHAT BECOMES OF A SHORE: on the reference's cells -/
def drops (c : Nat → Int32) (g : Nat) : Nat → Int32 := upd (upd (upd c (149 + g) (-1)) (153 + g) 0) (157 + g) 0
def takesUp (c : Nat → Int32) (g h : Nat) : Nat → Int32 := upd (upd (upd (upd c (153 + g) (walk c g h)) (157 + g) 0) (149 + g) (nI h)) (145 + g) (c (5 + h))
/-- a debt grows -/
def dbt (c : Nat → Int32) (g h : Nat) : Nat → Int32 := if c (133 + g) = nI h then c else upd c (69 + 8 * h + na c (133 + g)) (mnI 9999 (c (69 + 8 * h + na c (133 + g)) + 1))
def fin (c : Nat → Int32) (g h : Nat) : Nat → Int32 := upd (drops c g) (53 + h) (c (53 + h) - 1)
/-- a minute of lifting, the piece begun -/
def m98 (c : Nat → Int32) (g h : Nat) : (Nat → Int32) × Int32 := if c (157 + g) - 1 ≤ 0 then (if c (53 + h) - 1 ≤ 0 then (dbt (fin c g h) g h, 1) else (upd (upd c (157 + g) (c (157 + g) - 1)) (53 + h) (c (53 + h) - 1), 0)) else (upd c (157 + g) (c (157 + g) - 1), 0)
/-- the piece is begun -/
def bgn (c : Nat → Int32) (g h : Nat) : Nat → Int32 := if c (157 + g) = 0 then upd c (157 + g) (takes c g h) else c
def m30 (c : Nat → Int32) (g : Nat) : (Nat → Int32) × Int32 := if c (153 + g) ≤ 0 then m98 (bgn c g (na c (149 + g))) g (na c (149 + g)) else (upd c (153 + g) (c (153 + g) - 1), 0)
def minu (c : Nat → Int32) (g : Nat) : (Nat → Int32) × Int32 := if 0 ≤ c (149 + g) then m30 c g else if 0 ≤ (fb c g (hN c)).1 then m30 (takesUp c g ((fb c g (hN c)).1.toNatClampNeg)) g else (c, 0)
theorem upd_comm {f : Nat → Int32} {j k : Nat} (h : j ≠ k) (x y : Int32) : upd (upd f j x) k y = upd (upd f k y) j x := by
  funext i
  unfold upd
  by_cases h1 : i = k
  · have : i ≠ j := fun z => h (z.symm.trans h1)
    simp [h1, Ne.symm h]
  · simp [h1]
theorem upd_upd {f : Nat → Int32} {k : Nat} (x y : Int32) : upd (upd f k x) k y = upd f k y := by
  funext i
  unfold upd
  by_cases h1 : i = k <;> simp [h1]
theorem upd_self {f : Nat → Int32} {k : Nat} : upd f k (f k) = f := by
  funext i
  unfold upd
  by_cases h1 : i = k <;> simp [h1]
theorem sI_sI (M : Mm) (a k : Nat) (v w : Int32) : sI (sI M a k v) a k w = sI M a k w := by
  unfold sI
  refine congrArg (fun z => (mK M, z, mL M, mR M, mT M)) (funext fun x => funext fun j => ?_)
  by_cases e : x = a ∧ j = k <;> simp [u2, mI, e]
theorem sI_self (M : Mm) (a k : Nat) : sI M a k (mI M a k) = M := by
  unfold sI
  have e : u2 (mI M) a k (mI M a k) = mI M := by
    funext x j
    unfold u2
    by_cases e : x = a ∧ j = k
    · rw [if_pos e, e.1, e.2]
    · rw [if_neg e]
  rw [e]
  exact mm_eta M
theorem sI_sA_c (M : Mm) {a b k : Nat} (h : a ≠ b) (v : Int32) (f : Nat → Int32) : sI (sA M b f) a k v = sA (sI M a k v) b f := by
  unfold sI sA
  refine congrArg (fun z => (mK M, z, mL M, mR M, mT M)) (funext fun x => funext fun j => ?_)
  by_cases e : x = b
  · have : ¬ (x = a ∧ j = k) := fun z => h (z.1.symm.trans e)
    simp [u2, mI, e, Ne.symm h]
  · simp [u2, mI, e]
theorem sA_comm (M : Mm) {a b : Nat} (h : a ≠ b) (f g : Nat → Int32) : sA (sA M a f) b g = sA (sA M b g) a f := by
  unfold sA
  refine congrArg (fun z => (mK M, z, mL M, mR M, mT M)) (funext fun x => funext fun j => ?_)
  by_cases e : x = b
  · simp [mI, e, Ne.symm h]
  · simp [mI, e]
section F
variable {ρ : Type} {M : Mm} {f : Nat → Int32}
theorem md_f (D : mdL M) (f : Nat → Int32) : md (sA M 212 f) f := ⟨D, mI_sA_s M 212 f⟩
theorem f_ck (D : mdL M) {x : Option ρ} : ck (sA M 212 f) (some 207) 12 x = x := m_ck (M := sA M 212 f) D
theorem f_r20 (D : mdL M) {K : Option Nat → Option ρ} : gfR (sA M 212 f) (some 207) 12 20 K = K (some 212) := m_r20 (M := sA M 212 f) D
theorem f_gI (D : mdL M) {k : Nat} {K : Int32 → Option ρ} : gfI (sA M 212 f) (some 207) 12 k K = K (mI M 207 k) := m_gI (M := sA M 212 f) D
theorem f_pI (D : mdL M) {k : Nat} {v : Int32} {K : Mm → Option ρ} : pfI (sA M 212 f) (some 207) 12 k v K = K (sA (sI M 207 k v) 212 f) := by rw [m_pI (M := sA M 212 f) D, sI_sA_c M (by decide)]
theorem f_c (D : mdL M) {k : Nat} (hk : k < 2250) {K : Int32 → Option ρ} : alI (sA M 212 f) (some 212) 21 (nI k) K = K (f k) := m_c (md_f D f) hk
theorem f_c0 (D : mdL M) {K : Int32 → Option ρ} : alI (sA M 212 f) (some 212) 21 0 K = K (f 0) := m_c0 (md_f D f)
theorem f_c1 (D : mdL M) {K : Int32 → Option ρ} : alI (sA M 212 f) (some 212) 21 1 K = K (f 1) := m_c1 (md_f D f)
theorem f_c2 (D : mdL M) {K : Int32 → Option ρ} : alI (sA M 212 f) (some 212) 21 2 K = K (f 2) := m_c2 (md_f D f)
theorem f_c4 (D : mdL M) {K : Int32 → Option ρ} : alI (sA M 212 f) (some 212) 21 4 K = K (f 4) := m_c4 (md_f D f)
theorem f_sc (D : mdL M) {k : Nat} (hk : k < 2250) {v : Int32} {K : Mm → Option ρ} : asI (sA M 212 f) (some 212) 21 (nI k) v K = K (sA M 212 (upd f k v)) := by rw [m_sc (md_f D f) hk, sA_sA]
theorem f_sc4 (D : mdL M) {v : Int32} {K : Mm → Option ρ} : asI (sA M 212 f) (some 212) 21 4 v K = K (sA M 212 (upd f 4 v)) := f_sc D (k := 4) (by decide)
theorem q_drops (D : mdL M) {g : Nat} (hg : g < 4) : f_X12_drops (sA M 212 f) (some 207) (nI g) = some (sA M 212 (drops f g)) := by
  unfold f_X12_drops
  simp (disch := omega) only [↓f_r20 D, ↓f_ck D, ↓f_c0 D, ↓f_c1 D, ↓f_c2 D, ↓f_c4 D, ↓f_c D, ↓f_sc D, ↓f_sc4 D, ↓f_gI D, ↓f_pI D, i2, i3, i4, i5, i13, i21, i29, i37, i45, i53, i61, i69, i133, i137, i141, i145, i149, i153, i157, i161, i167, i4m, i6m, i8m, i9m, i18m, i60m, i256m, i450m, nI_add, ↓nmI_s, ↓bd_s, ↓bv_s, nI_1, ↓reduceIte]
  rfl
theorem q_takesUp (D : mdL M) {g h : Nat} (hg : g < 4) (hh : h < 8) : f_X12_takesUp (sA M 212 f) (some 207) (nI g) (nI h) = some (sA M 212 (takesUp f g h)) := by
  unfold f_X12_takesUp
  simp (disch := omega) only [↓f_r20 D, ↓f_ck D, ↓f_c0 D, ↓f_c1 D, ↓f_c2 D, ↓f_c4 D, ↓f_c D, ↓f_sc D, ↓f_sc4 D, ↓f_gI D, ↓f_pI D, i2, i3, i4, i5, i13, i21, i29, i37, i45, i53, i61, i69, i133, i137, i141, i145, i149, i153, i157, i161, i167, i4m, i6m, i8m, i9m, i18m, i60m, i256m, i450m, nI_add, ↓nmI_s, ↓bd_s, ↓bv_s, nI_1, ↓reduceIte, q_walk (md_f D f), pk_un]
  rfl
end F
theorem mx_nI {a b : Nat} (ha : a < 2147483648) (hb : b < 2147483648) : mxI (nI a) (nI b) = nI (max a b) := by
  unfold mxI
  by_cases q : nI a < nI b
  · rw [if_pos q]
    rw [nI_ltI' ha hb] at q
    rw [Nat.max_eq_right (by omega)]
  · rw [if_neg q]
    rw [nI_ltI' ha hb] at q
    rw [Nat.max_eq_left (by omega)]
theorem mn_nI {a b : Nat} (ha : a < 2147483648) (hb : b < 2147483648) : mnI (nI a) (nI b) = nI (min a b) := by
  unfold mnI
  by_cases q : nI b < nI a
  · rw [if_pos q]
    rw [nI_ltI' hb ha] at q
    rw [Nat.min_eq_right (by omega)]
  · rw [if_neg q]
    rw [nI_ltI' hb ha] at q
    rw [Nat.min_eq_left (by omega)]
theorem mul_nI3 (c : Nat → Int32) (O : okC c) {g h : Nat} (hg : g < gN c) (hh : h < hN c) : walk c g h = nI (na c (141 + g) * dst (na c (145 + g)) (na c (5 + h))) ∧ na c (141 + g) * dst (na c (145 + g)) (na c (5 + h)) ≤ 540 := by
  obtain ⟨e, b⟩ := near_int O hg hh
  obtain ⟨-, -, ⟨a1, a2, a3⟩, -⟩ := O.2.2.2.2.2.2.2.1 g hg
  unfold walk
  rw [e, a1, nI_mul]
  exact ⟨rfl, Nat.le_trans (Nat.mul_le_mul a3 b) (by decide)⟩
/-- the minutes of a piece -/
def takesN (c : Nat → Int32) (g h : Nat) : Nat := max 1 ((4 * (na c (29 + h) + na c (45 + h)) + na c (137 + g) - 1) / na c (137 + g))
theorem takes_nI (c : Nat → Int32) (O : okC c) {g h : Nat} (hg : g < gN c) (hh : h < hN c) : takes c g h = nI (takesN c g h) ∧ 1 ≤ takesN c g h ∧ takesN c g h ≤ 116 := by
  obtain ⟨-, ⟨a1, a2, a3⟩, -⟩ := O.2.2.2.2.2.2.2.1 g hg
  obtain ⟨-, -, -, ⟨b1, b2, b3⟩, -, ⟨d1, d2, d3⟩, -⟩ := O.2.2.2.2.2.1 h hh
  have h116 : (4 * (na c (29 + h) + na c (45 + h)) + na c (137 + g) - 1) / na c (137 + g) < 117 := by
    rw [Nat.div_lt_iff_lt_mul (by omega)]
    omega
  refine ⟨?_, by unfold takesN; omega, by unfold takesN; omega⟩
  unfold takes takesN
  have e : ((4 * (c (29 + h) + c (45 + h)) + c (137 + g)) - 1) / c (137 + g) = nI ((4 * (na c (29 + h) + na c (45 + h)) + na c (137 + g) - 1) / na c (137 + g)) := by
    conv => lhs; rw [b1, d1, a1]
    rw [nI_add, show (4 : Int32) = nI 4 from rfl, nI_mul, nI_add, show (1 : Int32) = nI 1 from rfl, nI_sub (by omega), pk_div (by omega) (by omega) (by omega)]
  rw [e, show (1 : Int32) = nI 1 from rfl, mx_nI (by omega) (by omega)]
theorem drops_o {c : Nat → Int32} {g k : Nat} (h1 : k ≠ 149 + g) (h2 : k ≠ 153 + g) (h3 : k ≠ 157 + g) : drops c g k = c k := by
  unfold drops
  rw [pk_un h3, pk_un h2, pk_un h1]
theorem drops_9 (c : Nat → Int32) (g : Nat) : drops c g (149 + g) = -1 := by
  unfold drops
  rw [pk_un (by omega), pk_un (by omega), pk_us]
theorem drops_3 (c : Nat → Int32) (g : Nat) : drops c g (153 + g) = 0 := by
  unfold drops
  rw [pk_un (by omega), pk_us]
theorem drops_7 (c : Nat → Int32) (g : Nat) : drops c g (157 + g) = 0 := by
  unfold drops
  rw [pk_us]
theorem okC_drops {c : Nat → Int32} {g : Nat} (O : okC c) (hg : g < gN c) : okC (drops c g) := by
  have h8 := (ok_h O).2
  have g4 := (ok_g O).2
  obtain ⟨⟨h1, h2⟩, h3, h4, h5, h6, h7, -⟩ := O.2.2.2.2.2.2.2.1 g hg
  refine okC_gang O hg (fun k k1 k2 k3 k4 => drops_o k2 k3 k4) ?_ (Or.inl (drops_9 c g))
  have e : ∀ k, k < 149 → drops c g k = c k := fun k hk => drops_o (by omega) (by omega) (by omega)
  refine ⟨⟨bdd_same (e _ (by omega)) h1, ?_⟩, bdd_same (e _ (by omega)) h3, bdd_same (e _ (by omega)) h4, bdd_same (e _ (by omega)) h5, bdd_of (n := 0) (drops_3 c g) (by omega) (by omega) (by omega), bdd_of (n := 0) (drops_7 c g) (by omega) (by omega) (by omega), Or.inl ⟨drops_9 c g, na_of (n := 0) (drops_3 c g) (by omega), na_of (n := 0) (drops_7 c g) (by omega)⟩⟩
  rw [na_same (e _ (by omega)), show hN (drops c g) = hN c from na_same (e 0 (by omega))]
  exact h2
theorem take_o {c : Nat → Int32} {g h k : Nat} (h0 : k ≠ 145 + g) (h1 : k ≠ 149 + g) (h2 : k ≠ 153 + g) (h3 : k ≠ 157 + g) : takesUp c g h k = c k := by
  unfold takesUp
  rw [pk_un h0, pk_un h1, pk_un h3, pk_un h2]
theorem take_5 (c : Nat → Int32) (g h : Nat) : takesUp c g h (145 + g) = c (5 + h) := by
  unfold takesUp
  rw [pk_us]
theorem take_9 (c : Nat → Int32) (g h : Nat) : takesUp c g h (149 + g) = nI h := by
  unfold takesUp
  rw [pk_un (by omega), pk_us]
theorem take_3 (c : Nat → Int32) (g h : Nat) : takesUp c g h (153 + g) = walk c g h := by
  unfold takesUp
  rw [pk_un (by omega), pk_un (by omega), pk_un (by omega), pk_us]
theorem take_7 (c : Nat → Int32) (g h : Nat) : takesUp c g h (157 + g) = 0 := by
  unfold takesUp
  rw [pk_un (by omega), pk_un (by omega), pk_us]
theorem okC_take {c : Nat → Int32} {g h : Nat} (O : okC c) (hg : g < gN c) (hh : h < hN c) (hc : canT c g h) : okC (takesUp c g h) := by
  have h8 := (ok_h O).2
  have g4 := (ok_g O).2
  obtain ⟨⟨h1, h2⟩, h3, h4, h5, h6, h7, -⟩ := O.2.2.2.2.2.2.2.1 g hg
  have pH := O.2.2.2.2.2.1 h hh
  obtain ⟨w1, w2⟩ := mul_nI3 c O hg hh
  have e : ∀ k, k < 145 → takesUp c g h k = c k := fun k hk => take_o (by omega) (by omega) (by omega) (by omega)
  have e9 := take_9 c g h
  refine okC_gang O hg (fun k k1 k2 k3 k4 => take_o k1 k2 k3 k4) ?_ (Or.inr fun g' hg' hne => by rw [e9]; exact hc.2 g' hg' hne)
  refine ⟨⟨bdd_same (e _ (by omega)) h1, ?_⟩, bdd_same (e _ (by omega)) h3, bdd_same (e _ (by omega)) h4, bdd_of ((take_5 c g h).trans pH.1.1) pH.1.2.1 pH.1.2.2 (by omega), bdd_of ((take_3 c g h).trans w1) (by omega) w2 (by omega), bdd_of (n := 0) (take_7 c g h) (by omega) (by omega) (by omega), Or.inr ⟨bdd_of e9 (by omega) (by omega) (by omega), ?_, ?_⟩⟩
  · rw [na_same (e _ (by omega)), show hN (takesUp c g h) = hN c from na_same (e 0 (by omega))]
    exact h2
  · rw [na_of e9 (by omega), show hN (takesUp c g h) = hN c from na_same (e 0 (by omega))]
    exact hh
  · rw [na_of e9 (by omega)]
    exact ⟨(e _ (by omega)).trans hc.1.1, by rw [e _ (by omega)]; exact hc.1.2⟩
