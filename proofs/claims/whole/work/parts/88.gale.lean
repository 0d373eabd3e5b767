/-! A GALE, a dawn -/
/-- houses of P don't stand any more, gangs of Q have nothing at hand -/
def gal (c : Nat → Int32) (P Q : Nat → Bool) : Nat → Int32 := fun k => if 61 ≤ k ∧ k < 69 ∧ P (k - 61) = true then 0 else if 149 ≤ k ∧ k < 153 ∧ Q (k - 149) = true then -1 else if 153 ≤ k ∧ k < 157 ∧ Q (k - 153) = true then 0 else if 157 ≤ k ∧ k < 161 ∧ Q (k - 157) = true then 0 else c k
section G
variable {c : Nat → Int32} {P Q : Nat → Bool}
theorem gal_o {k : Nat} (h : k < 61 ∨ (69 ≤ k ∧ k < 149) ∨ 161 ≤ k) : gal c P Q k = c k := by
  unfold gal
  rw [if_neg (by omega), if_neg (by omega), if_neg (by omega), if_neg (by omega)]
theorem gal_s {i : Nat} (h : i < 8) : gal c P Q (61 + i) = if P i = true then 0 else c (61 + i) := by
  unfold gal
  rw [show 61 + i - 61 = i by omega]
  by_cases q : P i = true
  · rw [if_pos ⟨by omega, by omega, q⟩, if_pos q]
  · rw [if_neg (fun z => q z.2.2), if_neg (by omega), if_neg (by omega), if_neg (by omega), if_neg q]
theorem gal_9 {i : Nat} (h : i < 4) : gal c P Q (149 + i) = if Q i = true then -1 else c (149 + i) := by
  unfold gal
  rw [show 149 + i - 149 = i by omega, if_neg (by omega)]
  by_cases q : Q i = true
  · rw [if_pos ⟨by omega, by omega, q⟩, if_pos q]
  · rw [if_neg (fun z => q z.2.2), if_neg (by omega), if_neg (by omega), if_neg q]
theorem gal_3 {i : Nat} (h : i < 4) : gal c P Q (153 + i) = if Q i = true then 0 else c (153 + i) := by
  unfold gal
  rw [show 153 + i - 153 = i by omega, if_neg (by omega), if_neg (by omega)]
  by_cases q : Q i = true
  · rw [if_pos ⟨by omega, by omega, q⟩, if_pos q]
  · rw [if_neg (fun z => q z.2.2), if_neg (by omega), if_neg q]
theorem gal_7 {i : Nat} (h : i < 4) : gal c P Q (157 + i) = if Q i = true then 0 else c (157 + i) := by
  unfold gal
  rw [show 157 + i - 157 = i by omega, if_neg (by omega), if_neg (by omega), if_neg (by omega)]
  by_cases q : Q i = true
  · rw [if_pos ⟨by omega, by omega, q⟩, if_pos q]
  · rw [if_neg (fun z => q z.2.2), if_neg q]
theorem gal_cases (k : Nat) : (k < 61 ∨ (69 ≤ k ∧ k < 149) ∨ 161 ≤ k) ∨ (∃ i, i < 8 ∧ k = 61 + i) ∨ (∃ i, i < 4 ∧ k = 149 + i) ∨ (∃ i, i < 4 ∧ k = 153 + i) ∨ ∃ i, i < 4 ∧ k = 157 + i := by
  by_cases h1 : k < 61 ∨ (69 ≤ k ∧ k < 149) ∨ 161 ≤ k
  · exact Or.inl h1
  · by_cases h2 : k < 69
    · exact Or.inr (Or.inl ⟨k - 61, by omega, by omega⟩)
    · by_cases h3 : k < 153
      · exact Or.inr (Or.inr (Or.inl ⟨k - 149, by omega, by omega⟩))
      · by_cases h4 : k < 157
        · exact Or.inr (Or.inr (Or.inr (Or.inl ⟨k - 153, by omega, by omega⟩)))
        · exact Or.inr (Or.inr (Or.inr (Or.inr ⟨k - 157, by omega, by omega⟩)))
theorem gal_ext {e : Nat → Int32} (h0 : ∀ k, (k < 61 ∨ (69 ≤ k ∧ k < 149) ∨ 161 ≤ k) → e k = c k) (hs : ∀ i, i < 8 → e (61 + i) = if P i = true then 0 else c (61 + i)) (h9 : ∀ i, i < 4 → e (149 + i) = if Q i = true then -1 else c (149 + i)) (h3 : ∀ i, i < 4 → e (153 + i) = if Q i = true then 0 else c (153 + i)) (h7 : ∀ i, i < 4 → e (157 + i) = if Q i = true then 0 else c (157 + i)) : e = gal c P Q := by
  funext k
  rcases gal_cases k with h | ⟨i, h, rfl⟩ | ⟨i, h, rfl⟩ | ⟨i, h, rfl⟩ | ⟨i, h, rfl⟩
  · rw [h0 k h, gal_o h]
  · rw [hs i h, gal_s h]
  · rw [h9 i h, gal_9 h]
  · rw [h3 i h, gal_3 h]
  · rw [h7 i h, gal_7 h]
theorem gal_cong {P' Q' : Nat → Bool} (hP : ∀ i, i < 8 → P i = P' i) (hQ : ∀ i, i < 4 → Q i = Q' i) : gal c P Q = gal c P' Q' :=
  gal_ext (fun k h => gal_o h) (fun i h => by rw [gal_s h, hP i h]) (fun i h => by rw [gal_9 h, hQ i h]) (fun i h => by rw [gal_3 h, hQ i h]) (fun i h => by rw [gal_7 h, hQ i h])
theorem gal_none (hP : ∀ i, i < 8 → P i = false) (hQ : ∀ i, i < 4 → Q i = false) : gal c P Q = c :=
  (gal_ext (fun k h => rfl) (fun i h => by rw [hP i h]; rfl) (fun i h => by rw [hQ i h]; rfl) (fun i h => by rw [hQ i h]; rfl) (fun i h => by rw [hQ i h]; rfl)).symm
theorem gal_stand {h : Nat} (h8 : h < 8) : upd (gal c P Q) (61 + h) 0 = gal c (fun i => P i || i == h) Q := by
  refine gal_ext (fun k hk => by rw [pk_un (by omega), gal_o hk]) (fun i hi => ?_) (fun i hi => by rw [pk_un (by omega), gal_9 hi]) (fun i hi => by rw [pk_un (by omega), gal_3 hi]) (fun i hi => by rw [pk_un (by omega), gal_7 hi])
  by_cases q : i = h
  · subst q
    rw [pk_us, if_pos (by simp)]
  · rw [pk_un (by omega), gal_s hi]
    have : (i == h) = false := by simpa using q
    simp [this]
theorem gal_drop {g : Nat} (g4 : g < 4) : drops (gal c P Q) g = gal c P (fun i => Q i || i == g) := by
  refine gal_ext (fun k hk => by rw [drops_o (by omega) (by omega) (by omega), gal_o hk]) (fun i hi => by rw [drops_o (by omega) (by omega) (by omega), gal_s hi]) (fun i hi => ?_) (fun i hi => ?_) (fun i hi => ?_)
  all_goals
    by_cases q : i = g
    · subst q
      first | rw [drops_9, if_pos (by simp)] | rw [drops_3, if_pos (by simp)] | rw [drops_7, if_pos (by simp)]
    · rw [drops_o (by omega) (by omega) (by omega)]
      have : (i == g) = false := by simpa using q
      first | (rw [gal_9 hi]; simp [this]) | (rw [gal_3 hi]; simp [this]) | (rw [gal_7 hi]; simp [this])
theorem okC_gal (O : okC c) (hP : ∀ i, P i = true → i < hN c ∧ isOn c i) (hQ : ∀ g, g < gN c → ∀ h, h < hN c → c (149 + g) = nI h → P h = true → Q g = true) : okC (gal c P Q) := by
  have h8 := (ok_h O).2
  have g4 := (ok_g O).2
  have w6 := (ok_w O).2
  have e0 : ∀ k, (k < 61 ∨ (69 ≤ k ∧ k < 149) ∨ 161 ≤ k) → gal c P Q k = c k := fun k hk => gal_o hk
  have hH : hN (gal c P Q) = hN c := na_same (e0 0 (by omega))
  have hG' : gN (gal c P Q) = gN c := na_same (e0 1 (by omega))
  have hW : wN (gal c P Q) = wN c := na_same (e0 2 (by omega))
  obtain ⟨o0, o1, o2, o3, o4, o5, o6, o7, o8, o9⟩ := id O
  refine ⟨bdd_same (e0 0 (by omega)) o0, bdd_same (e0 1 (by omega)) o1, bdd_same (e0 2 (by omega)) o2, bdd_same (e0 3 (by omega)) o3, bdd_same (e0 4 (by omega)) o4, fun i hi => ?_, fun i j hi hj => ?_, fun g hg => ?_, fun w hw => ?_, fun g1 g2 h1 h2 hne heq => ?_⟩
  · rw [hH] at hi
    obtain ⟨p1, p2, p3, p4, p5, p6, p7, p8, p9, p10⟩ := o5 i hi
    have e7 := e0 (53 + i) (by omega)
    refine ⟨bdd_same (e0 _ (by omega)) p1, bdd_same (e0 _ (by omega)) p2, bdd_same (e0 _ (by omega)) p3, bdd_same (e0 _ (by omega)) p4, bdd_same (e0 _ (by omega)) p5, bdd_same (e0 _ (by omega)) p6, bdd_same e7 p7, ?_, ?_, ?_⟩
    · by_cases q : P i = true
      · exact bdd_of (n := 0) (by rw [gal_s (by omega), if_pos q]; rfl) (by omega) (by omega) (by omega)
      · exact bdd_same (by rw [gal_s (by omega), if_neg q]) p8
    · rw [na_same (e0 (21 + i) (by omega)), na_same e7]
      exact p9
    · rw [na_same e7]
      by_cases q : P i = true
      · intro _
        exact (on_pos O hi (hP i q).2).2.1
      · rw [na_same (show gal c P Q (61 + i) = c (61 + i) by rw [gal_s (by omega), if_neg q])]
        exact p10
  · rw [hH] at hi hj
    exact bdd_same (e0 _ (by omega)) (o6 i j hi hj)
  · rw [hG'] at hg
    obtain ⟨⟨h1, h2⟩, h3, h4, h5, h6, h7, -⟩ := o7 g hg
    by_cases q : Q g = true
    · have x9 : gal c P Q (149 + g) = -1 := by rw [gal_9 (by omega), if_pos q]
      have x3 : gal c P Q (153 + g) = nI 0 := by rw [gal_3 (by omega), if_pos q]; rfl
      have x7 : gal c P Q (157 + g) = nI 0 := by rw [gal_7 (by omega), if_pos q]; rfl
      exact ⟨⟨bdd_same (e0 _ (by omega)) h1, by rw [na_same (e0 (133 + g) (by omega)), hH]; exact h2⟩, bdd_same (e0 _ (by omega)) h3, bdd_same (e0 _ (by omega)) h4, bdd_same (e0 _ (by omega)) h5, bdd_of x3 (by omega) (by omega) (by omega), bdd_of x7 (by omega) (by omega) (by omega), Or.inl ⟨x9, na_of x3 (by omega), na_of x7 (by omega)⟩⟩
    · refine okG_same hH h8 (fun i hi hi2 z => ?_) (e0 _ (by omega)) (e0 _ (by omega)) (e0 _ (by omega)) (e0 _ (by omega)) (by rw [gal_9 (by omega), if_neg q]) (by rw [gal_3 (by omega), if_neg q]) (by rw [gal_7 (by omega), if_neg q]) (o7 g hg)
      have hPi : ¬ P i = true := fun y => q (hQ g hg i hi hi2 y)
      exact ⟨by rw [gal_s (by omega), if_neg hPi]; exact z.1, by rw [e0 _ (by omega)]; exact z.2⟩
  · rw [hW] at hw
    exact ⟨bdd_same (e0 _ (by omega)) (o8 w hw).1, bdd_same (e0 _ (by omega)) (o8 w hw).2⟩
  · rw [hG'] at h1 h2
    rw [gal_9 (by omega), gal_9 (by omega)] at heq
    rw [gal_9 (by omega)]
    by_cases q1 : Q g1 = true
    · rw [if_pos q1]
    · rw [if_neg q1] at heq ⊢
      by_cases q2 : Q g2 = true
      · rw [if_pos q2] at heq
        exact heq
      · rw [if_neg q2] at heq
        exact o9 g1 g2 h1 h2 hne heq
end G
/-- which houses fall, which gangs lose theirs -/
def fP (c : Nat → Int32) (s : Int32) (i : Nat) : Bool := decide (i < hN c) && decide (falls c s i)
def fQ (c : Nat → Int32) (s : Int32) (g : Nat) : Bool := decide (g < gN c) && (decide (0 ≤ c (149 + g)) && fP c s (na c (149 + g)))
def galS (c : Nat → Int32) (s : Int32) : Nat → Int32 := gal c (fP c s) (fQ c s)
theorem fP_t {c : Nat → Int32} {s : Int32} {i : Nat} : fP c s i = true ↔ i < hN c ∧ falls c s i := by
  unfold fP
  rw [Bool.and_eq_true, decide_eq_true_eq, decide_eq_true_eq]
theorem fQ_t {c : Nat → Int32} {s : Int32} {g : Nat} : fQ c s g = true ↔ g < gN c ∧ 0 ≤ c (149 + g) ∧ fP c s (na c (149 + g)) = true := by
  unfold fQ
  rw [Bool.and_eq_true, Bool.and_eq_true, decide_eq_true_eq, decide_eq_true_eq]
theorem okC_galS {c : Nat → Int32} (O : okC c) (s : Int32) : okC (galS c s) := by
  have h8 := (ok_h O).2
  refine okC_gal O (fun i h => ?_) (fun g hg h hh e hP => ?_)
  · rw [fP_t] at h
    exact ⟨h.1, h.2.1⟩
  · rw [fQ_t, na_of e (by omega)]
    exact ⟨hg, by rw [e]; exact nI_pos' (by omega), hP⟩
/-- the number of a set's members -/
def pop (s : Int32) : Int32 := sm (fun k => if hasB s k then 1 else 0) 8
theorem p_bits (M : Mm) {s : Nat} (hs : s < 256) : f_J6_bitCount_0f7a4 M (nI s) = some (pop (nI s), M) := by
  have key : ∀ s, s < 256 → (fun l0 : Int32 => (fun x9 : Int32 => (fun x23 : Int32 => (fun x33 : Int32 => (fun x40 : Int32 => (fun x47 : Int32 => x47 &&& 63) (x40 + ((Int32.toUInt32 x40 >>> (Int32.toUInt32 16 &&& Int32.toUInt32 31)).toInt32))) (x33 + ((Int32.toUInt32 x33 >>> (Int32.toUInt32 8 &&& Int32.toUInt32 31)).toInt32))) ((x23 + ((Int32.toUInt32 x23 >>> (Int32.toUInt32 4 &&& Int32.toUInt32 31)).toInt32)) &&& 252645135)) ((x9 &&& 858993459) + (((Int32.toUInt32 x9 >>> (Int32.toUInt32 2 &&& Int32.toUInt32 31)).toInt32) &&& 858993459))) (l0 - (((Int32.toUInt32 l0 >>> (Int32.toUInt32 1 &&& Int32.toUInt32 31)).toInt32) &&& 1431655765))) (nI s) = pop (nI s) := by decide +kernel
  exact congrArg (fun z => some (z, M)) (key s hs)
theorem q_size (M : Mm) (s : Int32) : f_X12_sizeOf M s = some (pop s, M) := by
  refine lup0 (fun f k => f_X12_sizeOf_4 f M s (sm (fun k => if hasB s k then 1 else 0) k) (nI k)) 8 _ (by omega) (fun f k hk => ?_) (fun f => ?_)
  · rw [f_X12_sizeOf_4, if_neg (by rw [show (8 : Int32) = nI 8 from rfl, nI_leI' (by omega) (by omega)]; omega), q_has, bd_s, sm]
    by_cases q : hasB s k
    · rw [if_pos q, if_neg (by decide), f_X12_sizeOf_24, nmI_s, nI_1]
    · rw [if_neg q, if_pos rfl, f_X12_sizeOf_24, nmI_s, nI_1]
  · rw [f_X12_sizeOf_4, if_pos (by decide)]
    rfl
theorem st_256 (p : Nat → Prop) [DecidablePred p] {n : Nat} (hn : n ≤ 8) : st p n = nI (stN p n) ∧ stN p n < 256 := by
  have h1 := stN_lt p n
  have h2 : 2 ^ n ≤ 2 ^ 8 := Nat.pow_le_pow_right (by omega) hn
  exact ⟨st_nI p (by omega), by omega⟩
section F
variable {M : Mm} {f : Nat → Int32}
/-- the reference's gale -/
theorem q_blows (D : mdL M) (O : okC f) (s : Int32) : f_X12_blows (sA M 212 f) (some 207) s = some (pop (st (falls f s) (hN f)), sA M 212 (galS f s)) := by
  have g4 := (ok_g O).2
  have h8 := (ok_h O).2
  unfold f_X12_blows
  rw [f_ck D, q_fallSet (md_f D f) O, bd_s]
  have hz : ∀ j, j ≤ hN f → ∀ Q, hN (gal f (fun i => decide (i < j) && fP f s i) Q) = hN f := fun j _ Q => na_same (gal_o (by omega))
  have hg : ∀ P Q, gN (gal f P Q) = gN f := fun P Q => na_same (gal_o (by omega))
  have c0 : ∀ P Q, gal f P Q 0 = f 0 := fun P Q => gal_o (by omega)
  have c1 : ∀ P Q, gal f P Q 1 = f 1 := fun P Q => gal_o (by omega)
  have main := lup0 (fun i j => f_X12_blows_8 i (sA M 212 (gal f (fun h => decide (h < j) && fP f s h) (fun g => fQ f s g && decide (na f (149 + g) < j)))) (some 207) (st (falls f s) (hN f)) (nI j)) (hN f) (some (pop (st (falls f s) (hN f)), sA M 212 (galS f s))) (by omega) (fun i j hj => ?_) (fun i => ?_)
  · rw [gal_none (fun i _ => by simp) (fun i _ => by simp)] at main
    exact main
  · rw [f_X12_blows_8, f_r20 D, f_c0 D, c0, if_neg (hc_in O hj), q_has, bd_s]
    by_cases q : falls f s j
    · have hf : hasB (st (falls f s) (hN f)) j := (hasB_st _ (by omega) (by omega)).mpr ⟨hj, q⟩
      have fj : fP f s j = true := fP_t.mpr ⟨hj, q⟩
      rw [if_pos hf, if_neg (by decide), f_r20 D]
      simp (disch := omega) only [i2, i3, i4, i5, i13, i21, i29, i37, i45, i53, i61, i69, i133, i137, i141, i145, i149, i153, i157, i161, i167, i4m, i6m, i8m, i9m, i18m, i60m, i256m, i450m, nI_add]
      rw [f_sc D (by omega), gal_stand (by omega)]
      have inner := lup0 (fun n g => f_X12_blows_42 (f_X12_blows_8 i) n (sA M 212 (gal f (fun h => decide (h < j + 1) && fP f s h) (fun g' => fQ f s g' && (decide (na f (149 + g') < j) || (decide (g' < g) && decide (na f (149 + g') = j)))))) (some 207) (st (falls f s) (hN f)) (nI j) (nI g)) (gN f) (f_X12_blows_8 i (sA M 212 (gal f (fun h => decide (h < j + 1) && fP f s h) (fun g => fQ f s g && decide (na f (149 + g) < j + 1)))) (some 207) (st (falls f s) (hN f)) (nI (j + 1))) (by omega) (fun n g hgg => ?_) (fun n => ?_)
      · rw [← inner]
        refine congrArg (fun z => f_X12_blows_42 (f_X12_blows_8 i) fu (sA M 212 z) (some 207) (st (falls f s) (hN f)) (nI j) 0) (gal_cong (fun h hh => ?_) (fun g hh => by simp))
        by_cases z : h = j
        · subst z
          simp [fj]
        · have : decide (h < j + 1) = decide (h < j) := decide_eq_decide.mpr (by omega)
          have z2 : (h == j) = false := by simpa using z
          simp [this, z2]
      · rw [f_X12_blows_42, f_r20 D, f_c1 D, c1, if_neg (gc_in O hgg), f_r20 D]
        simp (disch := omega) only [i2, i3, i4, i5, i13, i21, i29, i37, i45, i53, i61, i69, i133, i137, i141, i145, i149, i153, i157, i161, i167, i4m, i6m, i8m, i9m, i18m, i60m, i256m, i450m, nI_add]
        rw [f_c D (by omega), gal_9 (by omega)]
        have nxt : ∀ X, X = f_X12_blows_42 (f_X12_blows_8 i) n (sA M 212 (gal f (fun h => decide (h < j + 1) && fP f s h) (fun g' => fQ f s g' && (decide (na f (149 + g') < j) || (decide (g' < g + 1) && decide (na f (149 + g') = j)))))) (some 207) (st (falls f s) (hN f)) (nI j) (nI (g + 1)) → X = f_X12_blows_42 (f_X12_blows_8 i) n (sA M 212 (gal f (fun h => decide (h < j + 1) && fP f s h) (fun g' => fQ f s g' && (decide (na f (149 + g') < j) || (decide (g' < g + 1) && decide (na f (149 + g') = j)))))) (some 207) (st (falls f s) (hN f)) (nI j) (nI (g + 1)) := fun _ h => h
        by_cases qh : f (149 + g) = nI j
        · have nh : na f (149 + g) = j := na_of qh (by omega)
          have fq : fQ f s g = true := fQ_t.mpr ⟨hgg, by rw [qh]; exact nI_pos' (by omega), by rw [nh]; exact fj⟩
          have b1 : ¬ (fQ f s g && (decide (na f (149 + g) < j) || (decide (g < g) && decide (na f (149 + g) = j)))) = true := by simp [nh]
          rw [if_neg b1, if_pos qh, f_ck D, q_drops D (by omega), bv_s, f_X12_blows_74, gal_drop (by omega), nI_1]
          refine congrArg (fun z => f_X12_blows_42 (f_X12_blows_8 i) n (sA M 212 z) (some 207) (st (falls f s) (hN f)) (nI j) (nI (g + 1))) (gal_cong (fun h hh => rfl) (fun g' hh => ?_))
          by_cases z : g' = g
          · subst z
            simp [fq, nh]
          · have : decide (g' < g + 1) = decide (g' < g) := decide_eq_decide.mpr (by omega)
            have z2 : (g' == g) = false := by simpa using z
            simp [this, z2]
        · have x : ¬ (if (fQ f s g && (decide (na f (149 + g) < j) || (decide (g < g) && decide (na f (149 + g) = j)))) = true then (-1 : Int32) else f (149 + g)) = nI j := by
            by_cases y : (fQ f s g && (decide (na f (149 + g) < j) || (decide (g < g) && decide (na f (149 + g) = j)))) = true
            · rw [if_pos y]
              exact fun z => neg1_ne (by omega) z.symm
            · rw [if_neg y]
              exact qh
          rw [if_neg x, f_X12_blows_74, nI_1]
          refine congrArg (fun z => f_X12_blows_42 (f_X12_blows_8 i) n (sA M 212 z) (some 207) (st (falls f s) (hN f)) (nI j) (nI (g + 1))) (gal_cong (fun h hh => rfl) (fun g' hh => ?_))
          by_cases z : g' = g
          · subst z
            have : fQ f s g' = true → ¬ na f (149 + g') = j := fun y z => by
              rcases hand_cases O hgg with ⟨h1, -⟩ | ⟨h, h1, h2, -, h3⟩
              · have := (fQ_t.mp y).2.1
                rw [h1] at this
                exact absurd this (by decide)
              · exact qh (by rw [h2, ← h3, z])
            by_cases y : fQ f s g' = true
            · simp [this y]
            · simp at y
              simp [y]
          · have : decide (g' < g + 1) = decide (g' < g) := decide_eq_decide.mpr (by omega)
            simp [this]
      · rw [f_X12_blows_42, f_r20 D, f_c1 D, c1, if_pos (gc_out O), f_X12_blows_80, nI_1]
        refine congrArg (fun z => f_X12_blows_8 i (sA M 212 z) (some 207) (st (falls f s) (hN f)) (nI (j + 1))) (gal_cong (fun h hh => rfl) (fun g' hh => ?_))
        by_cases y : fQ f s g' = true
        · have hg' := (fQ_t.mp y).1
          have e1 : decide (na f (149 + g') < j + 1) = (decide (na f (149 + g') < j) || decide (na f (149 + g') = j)) := by
            rw [← Bool.decide_or]
            exact decide_eq_decide.mpr (by omega)
          simp [y, hg', e1]
        · simp at y
          simp [y]
    · have hf : ¬ hasB (st (falls f s) (hN f)) j := fun z => q ((hasB_st _ (by omega) (by omega)).mp z).2
      have fj : fP f s j = false := by
        rw [← Bool.not_eq_true]
        exact fun z => q (fP_t.mp z).2
      rw [if_neg hf, if_pos rfl, f_X12_blows_80, nI_1]
      refine congrArg (fun z => f_X12_blows_8 i (sA M 212 z) (some 207) (st (falls f s) (hN f)) (nI (j + 1))) (gal_cong (fun h hh => ?_) (fun g' hh => ?_))
      · by_cases z : h = j
        · subst z
          simp [fj]
        · have : decide (h < j + 1) = decide (h < j) := decide_eq_decide.mpr (by omega)
          simp [this]
      · by_cases y : fQ f s g' = true
        · have hn : na f (149 + g') ≠ j := fun z => by
            have := (fQ_t.mp y).2.2
            rw [z, fj] at this
            exact absurd this (by decide)
          have : decide (na f (149 + g') < j + 1) = decide (na f (149 + g') < j) := decide_eq_decide.mpr (by omega)
          simp [this]
        · simp at y
          simp [y]
  · rw [f_X12_blows_8, f_r20 D, f_c0 D, c0, if_pos (hc_out O), q_size, bd_s]
    refine congrArg (fun z => some (pop (st (falls f s) (hN f)), sA M 212 z)) (gal_cong (fun h hh => ?_) (fun g' hh => ?_))
    · by_cases y : fP f s h = true
      · simp [(fP_t.mp y).1]
      · simp at y
        simp [y]
    · by_cases y : fQ f s g' = true
      · simp [(fP_t.mp (fQ_t.mp y).2.2).1]
      · simp at y
        simp [y]
end F
