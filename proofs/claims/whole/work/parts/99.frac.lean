/-! FRACTIONS -/
theorem gcd_step (A B : Nat) : Nat.gcd A B = Nat.gcd B (A % B) := by
  rw [Nat.gcd_comm A B, Nat.gcd_rec B A, Nat.gcd_comm]
theorem lN_ne0 {n : Nat} (h : 1 ≤ n) (h2 : n < 2 ^ 63) : ¬ lN n = 0 := by
  rw [show (0 : Int64) = lN 0 from rfl, pk_lEQ h2 (by omega)]
  omega
theorem cmp0 {n : Nat} (h2 : n < 2 ^ 63) : (lg_cmp (lN n) 0 ≤ 0) ↔ n = 0 := by
  rw [lg_cmp_le, show (0 : Int64) = lN 0 from rfl, pk_lLE h2 (by omega)]
  omega
theorem cmp0e {n : Nat} (h2 : n < 2 ^ 63) : (lg_cmp (lN n) 0 = 0) ↔ n = 0 := by
  rw [lg_cmp_eq, show (0 : Int64) = lN 0 from rfl, pk_lEQ h2 (by omega)]
theorem half_lt {B C k : Nat} (h : B < 2 ^ (k + 1)) (h0 : 0 < C) (h1 : C < B) : B % C < 2 ^ k := by
  have h2 := Nat.mod_lt B h0
  have h3 : B % C + C ≤ B := by
    have := Nat.div_add_mod B C
    have h4 : 1 ≤ B / C := (Nat.le_div_iff_mul_le h0).mpr (by omega)
    have h5 : C * 1 ≤ C * (B / C) := Nat.mul_le_mul_left _ h4
    omega
  rw [Nat.pow_succ] at h
  omega
section C
variable {M : Mm} {t bb : Int64}
theorem c_frac12 : ∀ (k A B r f : Nat), B < 2 ^ k → k ≤ 31 → r + 2 * k ≤ 100 → 2 * k < f → A < 2 ^ 62 → f_X11_tellFraction_12 f M (some 0) t bb (lN A) (lN B) (nI r) = f_X11_tellFraction_47 M (some 0) t bb (lN (Nat.gcd A B))
  | 0, A, B, r, f, hB, _, hr, hf, hA => by
    have b0 : B = 0 := by simpa using hB
    subst b0
    obtain ⟨f', rfl⟩ : ∃ f', f = f' + 1 := ⟨f - 1, by omega⟩
    rw [f_X11_tellFraction_12, Nat.gcd_zero_right]
    by_cases q : (100 : Int32) ≤ nI r
    · rw [if_pos q]
    · rw [if_neg q, if_pos ((cmp0 (by omega)).mpr rfl)]
  | k + 1, A, B, r, f, hB, hk, hr, hf, hA => by
    have hB31 : 2 ^ (k + 1) ≤ 2 ^ 31 := Nat.pow_le_pow_right (by omega) hk
    obtain ⟨f', rfl⟩ : ∃ f', f = f' + 1 + 1 := ⟨f - 2, by omega⟩
    have q : ¬ (100 : Int32) ≤ nI r := by rw [show (100 : Int32) = nI 100 from rfl, nI_leI' (by omega) (by omega)]; omega
    rw [f_X11_tellFraction_12, if_neg q]
    by_cases b0 : B = 0
    · subst b0
      rw [if_pos ((cmp0 (by omega)).mpr rfl), Nat.gcd_zero_right]
    · rw [if_neg (fun z => b0 ((cmp0 (by omega)).mp z)), dvL_s (lN_ne0 (by omega) (by omega)), nmL_s, pk_lRem (by omega) (by omega) (by omega), nI_1, gcd_step A B]
      have h1 := Nat.mod_lt A (show 0 < B by omega)
      generalize A % B = C at h1
      have q2 : ¬ (100 : Int32) ≤ nI (r + 1) := by rw [show (100 : Int32) = nI 100 from rfl, nI_leI' (by omega) (by omega)]; omega
      rw [f_X11_tellFraction_12, if_neg q2]
      by_cases c0 : C = 0
      · subst c0
        rw [if_pos ((cmp0 (by omega)).mpr rfl), Nat.gcd_zero_right]
      · rw [if_neg (fun z => c0 ((cmp0 (by omega)).mp z)), dvL_s (lN_ne0 (by omega) (by omega)), nmL_s, pk_lRem (by omega) (by omega) (by omega), nI_1, gcd_step B C]
        exact c_frac12 k C (B % C) (r + 1 + 1) f' (half_lt hB (by omega) h1) (by omega) (by omega) (by omega) (by omega)
theorem m_frac9 (D : mdL M) : ∀ (k A B f : Nat), B < 2 ^ k → k ≤ 31 → 2 * k < f → A < 2 ^ 62 → 1 ≤ Nat.gcd A B → Nat.gcd A B < 2 ^ 62 → f_X12_fraction_9 f M (some 207) t bb (lN A) (lN B) = some (1, sL (sL M 207 2 (t / lN (Nat.gcd A B))) 207 3 (bb / lN (Nat.gcd A B)))
  | 0, A, B, f, hB, _, hf, hA, hG, hG2 => by
    have b0 : B = 0 := by simpa using hB
    subst b0
    obtain ⟨f', rfl⟩ : ∃ f', f = f' + 1 := ⟨f - 1, by omega⟩
    rw [Nat.gcd_zero_right] at hG ⊢
    have D1 : mdL (sL M 207 2 (t / lN A)) := D
    rw [f_X12_fraction_9, if_pos ((cmp0e (by omega)).mpr rfl), dvL_s (lN_ne0 (by omega) (by omega)), m_pL D, dvL_s (lN_ne0 (by omega) (by omega)), m_pL D1]
  | k + 1, A, B, f, hB, hk, hf, hA, hG, hG2 => by
    have hB31 : 2 ^ (k + 1) ≤ 2 ^ 31 := Nat.pow_le_pow_right (by omega) hk
    obtain ⟨f', rfl⟩ : ∃ f', f = f' + 1 + 1 := ⟨f - 2, by omega⟩
    have done : ∀ A, 1 ≤ A → A < 2 ^ 62 → ∀ f, f_X12_fraction_9 (f + 1) M (some 207) t bb (lN A) (lN 0) = some (1, sL (sL M 207 2 (t / lN A)) 207 3 (bb / lN A)) := fun A h1 h2 f => by
      have D1 : mdL (sL M 207 2 (t / lN A)) := D
      rw [f_X12_fraction_9, if_pos ((cmp0e (by omega)).mpr rfl), dvL_s (lN_ne0 (by omega) (by omega)), m_pL D, dvL_s (lN_ne0 (by omega) (by omega)), m_pL D1]
    by_cases b0 : B = 0
    · subst b0
      rw [Nat.gcd_zero_right] at hG ⊢
      exact done A hG hA _
    · rw [f_X12_fraction_9, if_neg (fun z => b0 ((cmp0e (by omega)).mp z)), dvL_s (lN_ne0 (by omega) (by omega)), nmL_s, pk_lRem (by omega) (by omega) (by omega)]
      rw [gcd_step A B] at hG hG2 ⊢
      have h1 := Nat.mod_lt A (show 0 < B by omega)
      generalize A % B = C at h1 hG hG2
      by_cases c0 : C = 0
      · subst c0
        rw [Nat.gcd_zero_right] at hG hG2 ⊢
        exact done B hG hG2 _
      · rw [f_X12_fraction_9, if_neg (fun z => c0 ((cmp0e (by omega)).mp z)), dvL_s (lN_ne0 (by omega) (by omega)), nmL_s, pk_lRem (by omega) (by omega) (by omega)]
        rw [gcd_step B C] at hG hG2 ⊢
        exact m_frac9 D k C (B % C) f' (half_lt hB (by omega) h1) (by omega) (by omega) (by omega) hG hG2
end C
/-- the parts of a fraction -/
def frT (t : Int64) (A B : Nat) : Int64 := t / lN (Nat.gcd A B)
def frB (A B : Nat) : Int64 := lN B / lN (Nat.gcd A B)
section C
variable {M : Mm} {a b y z : Nat} {t : Int64}
theorem gcd_b {A B : Nat} (h1 : 1 ≤ B) (h2 : B < 2 ^ 31) : 1 ≤ Nat.gcd A B ∧ Nat.gcd A B < 2 ^ 62 := by
  have h3 := Nat.gcd_pos_of_pos_right A (show 0 < B by omega)
  have h4 := Nat.gcd_le_right A (show 0 < B by omega)
  omega
theorem c_frac (H : LL M a b y z) {A B : Nat} (ht : abL t = lN A) (hA : A < 2 ^ 62) (h1 : 1 ≤ B) (h2 : B < 2 ^ 31) : f_X11_tellFraction M (some 0) t (lN B) = some (1, sI (sL (sL M 0 1 (frT t A B)) 0 2 (frB A B)) 0 0 0) := by
  obtain ⟨g1, g2⟩ := gcd_b (A := A) h1 h2
  unfold f_X11_tellFraction g_X11_tellFraction
  rw [nmL_s, ht, show (0 : Int32) = nI 0 from rfl, c_frac12 31 A B 0 fu h2 (by omega) (by omega) (by unfold fu; omega) hA]
  have em : mxL 1 (lN (Nat.gcd A B)) = lN (Nat.gcd A B) := by
    unfold mxL
    rw [show (1 : Int64) = lN 1 from rfl, if_neg (by rw [pk_lLT (by omega) (by omega)]; omega)]
  have H1 : LL (sL M 0 1 (frT t A B)) a b y z := LL_same H rfl rfl rfl
  have H2 : LL (sL (sL M 0 1 (frT t A B)) 0 2 (frB A B)) a b y z := LL_same H rfl rfl rfl
  unfold f_X11_tellFraction_47
  rw [nmL_s, em, dvL_s (lN_ne0 g1 (by omega)), c_pL H, dvL_s (lN_ne0 g1 (by omega))]
  show zc (pfL (sL M 0 1 (frT t A B)) (some 0) 11 2 (frB A B) _) = _
  rw [c_pL H1, c_ck H2, c_yes H2, bd_s, zc1]
  rfl
theorem m_frac (D : mdL M) {A B : Nat} (ht : abL t = lN A) (hA : A < 2 ^ 62) (h1 : 1 ≤ B) (h2 : B < 2 ^ 31) : f_X12_fraction M (some 207) t (lN B) = some (1, sL (sL M 207 2 (frT t A B)) 207 3 (frB A B)) := by
  obtain ⟨g1, g2⟩ := gcd_b (A := A) h1 h2
  unfold f_X12_fraction g_X12_fraction
  rw [nmL_s, ht, m_frac9 D 31 A B fu h2 (by omega) (by unfold fu; omega) hA g1 g2, zc1]
  rfl
theorem abL_lN {t : Int64} (h1 : -4611686018427387904 < t.toInt) (h2 : t.toInt < 4611686018427387904) : abL t = lN t.toInt.natAbs ∧ t.toInt.natAbs < 2 ^ 62 := by
  refine ⟨?_, by omega⟩
  unfold abL
  by_cases q : 0 < t
  · rw [if_pos q]
    rw [Int64.lt_iff_toInt_lt, Int64.toInt_zero] at q
    apply Int64.toInt_inj.mp
    rw [pk_lT (by omega)]
    omega
  · rw [if_neg q]
    rw [Int64.lt_iff_toInt_lt, Int64.toInt_zero] at q
    apply Int64.toInt_inj.mp
    rw [pk_lT (by omega), Int64.toInt_neg, Int.bmod_eq_of_le (by simp; omega) (by simp; omega)]
    omega
end C
theorem rNm_row {M M' : Mm} {a j : Nat} {c : Nat → Int32} (h : rNm M a j c) (O : okC c) (ha : 1 ≤ a) (ha2 : a + 31 ≤ 207) (hL : ∀ x, x ≠ 0 → x ≠ 207 → mL M' x = mL M x) : rNm M' a j c := by
  have h8 := (ok_h O).2
  have g4 := (ok_g O).2
  have w6 := (ok_w O).2
  obtain ⟨h9, h1, h2, h3⟩ := h
  refine ⟨h9, fun i hi => ?_, fun i hi => ?_, fun i hi => ?_⟩
  · rw [hL _ (by omega) (by omega), hL 214 (by omega) (by omega)]; exact h1 i hi
  · rw [hL _ (by omega) (by omega), hL 214 (by omega) (by omega)]; exact h2 i hi
  · rw [hL _ (by omega) (by omega), hL 214 (by omega) (by omega)]; exact h3 i hi
/-- a fraction was told: nothing else -/
theorem RA_fr {M M' : Mm} {a b y z : Nat} (H : RA M a b y z) (hK : mK M' = mK M) (hR : mR M' = mR M) (hT : mT M' = mT M) (hL : ∀ x, x ≠ 0 → x ≠ 207 → mL M' x = mL M x) (hI : ∀ x, x ≠ 0 → x ≠ 207 → x ≠ 213 → mI M' x = mI M x) (h0 : ∀ k, k ≠ 0 → mI M' 0 k = mI M 0 k) (h7 : ∀ k, k = 8 ∨ k = 10 ∨ k = 11 ∨ k = 23 ∨ k = 30 ∨ k = 33 ∨ k = 36 → mI M' 207 k = mI M 207 k) (hs : mI M' 0 0 = mI M' 207 0) (hf : rFr M') : RA M' a b y z := by
  obtain ⟨hLL, hS, hN, -, -, h2, h3, h4, h5, h6, h7', h8⟩ := H
  have ha := ll_a hLL
  have hy := ll_y hLL
  have e2 : mI M' 212 = mI M 212 := hI 212 (by omega) (by omega) (by omega)
  have ecb : ∀ i, cb M' (i + 1) = cb M (i + 1) := fun i => by unfold cb; rw [e2]
  rw [RA, e2]
  refine ⟨LL_same hLL hK hR hT, shO_same hS hK hR (fun x x1 x2 => hI x (by omega) (by omega) (by omega)), rNm_row hN hS.2.2 (by omega) (by omega) hL, hs, hf, ?_, ?_, ?_, ?_, ?_, ?_, ?_⟩
  · unfold rFa at *; rw [h0 3 (by omega), h0 4 (by omega), h7 10 (by omega), h7 11 (by omega)]; exact h2
  · unfold rTp at *; rw [hL 3 (by omega) (by omega), hI 1 (by omega) (by omega) (by omega), hI 2 (by omega) (by omega) (by omega), hI 211 (by omega) (by omega) (by omega), h7 8 (by omega)]; exact h3
  · unfold rTy at *
    intro t ht
    rw [hL (6 + t) (by omega) (by omega), hL 210 (by omega) (by omega), hI 11 (by omega) (by omega) (by omega), hI 10 (by omega) (by omega) (by omega), hI 209 (by omega) (by omega) (by omega), hI 208 (by omega) (by omega) (by omega)]
    exact h4 t ht
  · rw [e2]
    exact rYr_same (fun x x1 x2 => hI x (by omega) (by omega) (by omega)) rfl rfl (fun k hk => rfl) h5
  · obtain ⟨n, n3, e1, e2, hm⟩ := h6
    refine ⟨n, n3, by rw [h0 13 (by omega)]; exact e1, by rw [h7 23 (by omega)]; exact e2, fun i hi => ?_⟩
    obtain ⟨m1, m2, m3⟩ := hm i hi
    rw [ecb i]
    exact ⟨shO_same m1 hK hR (fun x x1 x2 => hI x (by omega) (by omega) (by omega)), rNm_row m2 m1.2.2 (by omega) (by omega) hL, rYr_same (fun x x1 x2 => hI x (by omega) (by omega) (by omega)) rfl rfl (fun k hk => rfl) m3⟩
  · unfold rPl at *; rw [h0 15 (by omega), h7 30 (by omega), h7 33 (by omega), hI 88 (by omega) (by omega) (by omega), hI 89 (by omega) (by omega) (by omega), hI 218 (by omega) (by omega) (by omega)]; exact h7'
  · unfold rLi at *; rw [h0 18 (by omega), h7 36 (by omega), hI 92 (by omega) (by omega) (by omega), hI 220 (by omega) (by omega) (by omega)]; exact h8
theorem mL_o {M : Mm} {a k x : Nat} {v : Int64} (h : x ≠ a) : mL (sL M a k v) x = mL M x := funext fun j => if_neg (fun z => h z.1)
theorem mL_f {M : Mm} {a k j : Nat} {v : Int64} (h : j ≠ k) : mL (sL M a k v) a j = mL M a j := if_neg (fun z => h z.2)
theorem mL_s (M : Mm) (a k : Nat) (v : Int64) : mL (sL M a k v) a k = v := if_pos ⟨rfl, rfl⟩
/-- both tell the same fraction, the reference from a memory X that only its own cells set off -/
theorem RR_fr {M X : Mm} {a b y z : Nat} (H : RA M a b y z) (u v : Int64) (hK : mK X = mK M) (hR : mR X = mR M) (hT : mT X = mT M) (hL : mL X = mL (sL (sL M 0 1 u) 0 2 v)) (hI : ∀ x, x ≠ 0 → x ≠ 207 → x ≠ 213 → mI X x = mI M x) (h0 : ∀ k, k ≠ 0 → mI X 0 k = mI M 0 k) (h7 : ∀ k, k = 8 ∨ k = 10 ∨ k = 11 ∨ k = 23 ∨ k = 30 ∨ k = 33 ∨ k = 36 → mI X 207 k = mI M 207 k) (hs : mI X 0 0 = mI X 207 0) : RR (sL (sL X 207 2 u) 207 3 v) := by
  refine ⟨a, b, y, z, RA_fr H hK hR hT (fun x h1 h2 => ?_) hI h0 h7 hs ?_⟩
  · rw [mL_o h2, mL_o h2, hL, mL_o h1, mL_o h1]
  · refine ⟨?_, ?_⟩
    · rw [mL_o (by decide), mL_o (by decide), hL, mL_f (by decide), mL_s, mL_f (by decide), mL_s]
    · rw [mL_o (by decide), mL_o (by decide), hL, mL_s, mL_s]
def allChN (c : Nat → Int32) : Nat := smN (fun w => na c (167 + w)) (wN c)
theorem allCh_nI {c : Nat → Int32} (O : okC c) : allCh c = nI (allChN c) ∧ allChN c ≤ 594 ∧ (1 ≤ wN c → 1 ≤ allChN c) := by
  have w6 := (ok_w O).2
  refine ⟨sm_nI fun w hw => (O.2.2.2.2.2.2.2.2.1 w hw).2.1, ?_, fun h => ?_⟩
  · have := smN_le (g := fun w => na c (167 + w)) (B := 99) (n := wN c) (fun w hw => (O.2.2.2.2.2.2.2.2.1 w hw).2.2.2)
    unfold allChN
    omega
  · unfold allChN
    obtain ⟨n, hn⟩ : ∃ n, wN c = n + 1 := ⟨wN c - 1, by omega⟩
    rw [hn, smN]
    have := (O.2.2.2.2.2.2.2.2.1 n (by omega)).2.2.1
    omega
def lssN (c : Nat → Int32) : Nat := smN (fun h => na c (13 + h) * rskN c h) (hN c)
theorem lss_nI {c : Nat → Int32} (O : okC c) : lss c = nI (lssN c) ∧ lssN c ≤ 4747248 := by
  have h8 := (ok_h O).2
  refine ⟨sm_nI fun h hh => ?_, ?_⟩
  · rw [(rsk_nI O h).1, (O.2.2.2.2.2.1 h hh).2.1.1, nI_mul]
  · have := smN_le (g := fun h => na c (13 + h) * rskN c h) (B := 593406) (n := hN c) (fun h hh => Nat.le_trans (Nat.mul_le_mul (O.2.2.2.2.2.1 h hh).2.1.2.2 (rsk_nI O h).2) (by decide))
    unfold lssN
    omega
theorem w_pos {c : Nat → Int32} (O : okC c) : ¬ c 2 = 0 ↔ 1 ≤ wN c := by
  have := ok_w O
  rw [this.1, show (0 : Int32) = nI 0 from rfl, nI_eq' (by omega) (by omega)]
  omega
