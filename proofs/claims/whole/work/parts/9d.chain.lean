/-! CHAIN, FREE RIDERS, HELP -/
def chO (c : Nat → Int32) (t : Nat) : Nat → Nat
  | 0 => t
  | n + 1 => if t.testBit n = true then chO c t n ||| stN (fun k => 0 < c (69 + 8 * k + n)) (hN c) else chO c t n
def chF (c : Nat → Int32) (t : Nat) : Nat := chO c t (hN c)
def chI (c : Nat → Int32) (t : Nat) : Nat → Nat
  | 0 => t
  | n + 1 => chF c (chI c t n)
theorem chO_lt {c : Nat → Int32} {t : Nat} (ht : t < 2 ^ hN c) : ∀ n, chO c t n < 2 ^ hN c
  | 0 => ht
  | n + 1 => by
    have ih := chO_lt ht n
    unfold chO
    by_cases q : t.testBit n = true
    · rw [if_pos q]
      exact Nat.or_lt_two_pow ih (stN_lt _ _)
    · rw [if_neg q]
      exact ih
theorem chI_lt {c : Nat → Int32} {t : Nat} (ht : t < 2 ^ hN c) : ∀ n, chI c t n < 2 ^ hN c
  | 0 => ht
  | n + 1 => chO_lt (chI_lt ht n) _
theorem chO_sub {c : Nat → Int32} {t : Nat} {k : Nat} (h : t.testBit k = true) : ∀ n, (chO c t n).testBit k = true
  | 0 => h
  | n + 1 => by
    have ih := chO_sub (c := c) h n
    unfold chO
    by_cases q : t.testBit n = true
    · rw [if_pos q, Nat.testBit_or, ih]; rfl
    · rw [if_neg q]; exact ih
def card (t : Nat) : Nat := smN (fun k => if t.testBit k = true then 1 else 0) 8
theorem smN_lt {f g : Nat → Nat} : ∀ {n : Nat}, (∀ k, k < n → f k ≤ g k) → (∃ i, i < n ∧ f i < g i) → smN f n < smN g n
  | 0, _, ⟨i, h, _⟩ => absurd h (by omega)
  | n + 1, h, ⟨i, h1, h2⟩ => by
    have hle : ∀ m, m ≤ n → smN f m ≤ smN g m := fun m => by
      induction m with
      | zero => intro _; exact Nat.le_refl _
      | succ m ih =>
        intro hm
        have := h m (by omega)
        have := ih (by omega)
        rw [smN, smN]
        omega
    rw [smN, smN]
    by_cases q : i = n
    · subst q
      have := hle i (Nat.le_refl _)
      omega
    · have := smN_lt (n := n) (fun k hk => h k (by omega)) ⟨i, by omega, h2⟩
      have := h n (by omega)
      omega
theorem card_lt {a b : Nat} (hb : b < 256) (ha : a < 256) (hs : ∀ k, a.testBit k = true → b.testBit k = true) (hne : b ≠ a) : card a < card b := by
  have hex : ∃ k, k < 8 ∧ ¬ a.testBit k = true ∧ b.testBit k = true := by
    refine Classical.byContradiction fun hn => hne (bit_ext (n := 8) hb ha fun k hk => ?_)
    by_cases q : a.testBit k = true
    · rw [q, hs k q]
    · by_cases q2 : b.testBit k = true
      · exact absurd ⟨k, hk, q, q2⟩ hn
      · simp at q q2
        rw [q, q2]
  obtain ⟨i, i1, i2, i3⟩ := hex
  refine smN_lt (fun k hk => ?_) ⟨i, i1, ?_⟩
  · show (if a.testBit k = true then 1 else 0) ≤ (if b.testBit k = true then 1 else 0)
    by_cases q : a.testBit k = true
    · rw [if_pos q, if_pos (hs k q)]; exact Nat.le_refl _
    · rw [if_neg q]; exact Nat.zero_le _
  · show (if a.testBit i = true then 1 else 0) < (if b.testBit i = true then 1 else 0)
    rw [if_neg i2, if_pos i3]; omega
theorem card_le {t n : Nat} (hn : n ≤ 8) (ht : t < 2 ^ n) : card t ≤ n := by
  have h : ∀ m, smN (fun k => if t.testBit k = true then 1 else 0) m ≤ min m n := fun m => by
    induction m with
    | zero => exact Nat.zero_le _
    | succ m ih =>
      rw [smN]
      show smN (fun k => if t.testBit k = true then 1 else 0) m + (if t.testBit m = true then 1 else 0) ≤ _
      by_cases q : t.testBit m = true
      · rw [if_pos q]
        have : m < n := by
          refine Decidable.byContradiction fun z => ?_
          rw [Nat.testBit_lt_two_pow (Nat.lt_of_lt_of_le ht (Nat.pow_le_pow_right (by omega) (by omega)))] at q
          exact absurd q (by decide)
        omega
      · rw [if_neg q]; omega
  have := h 8
  unfold card
  omega
/-- the rounds come to an end -/
theorem chI_end {c : Nat → Int32} {t : Nat} (h8 : hN c ≤ 8) (ht : t < 2 ^ hN c) (h0 : 1 ≤ card t) : ∃ j, j < hN c ∧ chI c t (j + 1) = chI c t j ∧ ∀ i, i < j → chI c t (i + 1) ≠ chI c t i := by
  have p2 : 2 ^ hN c ≤ 2 ^ 8 := Nat.pow_le_pow_right (by omega) h8
  have hex : ∃ j, j < hN c ∧ chI c t (j + 1) = chI c t j := by
    refine Classical.byContradiction fun hn => ?_
    have grow : ∀ n, n ≤ hN c → n + 1 ≤ card (chI c t n) := fun n => by
      induction n with
      | zero => intro _; exact h0
      | succ n ih =>
        intro hnn
        have h1 := ih (by omega)
        have h2 := card_lt (a := chI c t n) (b := chI c t (n + 1)) (Nat.lt_of_lt_of_le (chI_lt ht _) p2) (Nat.lt_of_lt_of_le (chI_lt ht _) p2) (fun k hk => chO_sub hk _) (fun z => hn ⟨n, by omega, z⟩)
        omega
    have h3 := grow (hN c) (Nat.le_refl _)
    have h4 := card_le h8 (chI_lt ht (hN c))
    omega
  obtain ⟨j, ⟨h1, h2⟩, h3⟩ := pk_least (fun j => j < hN c ∧ chI c t (j + 1) = chI c t j) hex
  exact ⟨j, h1, h2, fun i hi z => h3 i hi ⟨by omega, z⟩⟩
theorem chI_stay {c : Nat → Int32} {t j : Nat} (h : chI c t (j + 1) = chI c t j) : ∀ d, chI c t (j + d) = chI c t j
  | 0 => rfl
  | d + 1 => by
    show chF c (chI c t (j + d)) = _
    rw [chI_stay h d]
    exact h
theorem cin_nI {c : Nat → Int32} (h8 : hN c ≤ 8) {t s y : Nat} (ht : t < 2147483648) (hy : y < 8) : ∀ n, n ≤ 8 → cin c (nI t) y (nI s) n = nI (if t.testBit y = true then s ||| stN (fun k => 0 < c (69 + 8 * k + y)) n else s)
  | 0, _ => by
    unfold cin stN
    rw [Nat.or_zero, ite_self]
  | n + 1, hn => by
    have ih := cin_nI h8 ht hy (s := s) n (by omega)
    unfold cin
    rw [ih, stN]
    by_cases q : t.testBit y = true
    · rw [if_pos q, if_pos q]
      by_cases q2 : 0 < c (69 + 8 * n + y)
      · rw [if_pos ⟨(hasB_nI ht (by omega)).mpr q, q2⟩, if_pos q2, bitB_nI (by omega), nI_or, Nat.or_assoc]
      · rw [if_neg (fun z => q2 z.2), if_neg q2]
    · rw [if_neg (fun z => q ((hasB_nI ht (by omega)).mp z.1)), if_neg q, if_neg q]
theorem cmid_nI {c : Nat → Int32} (h8 : hN c ≤ 8) {t : Nat} (ht : t < 2147483648) : ∀ n, n ≤ 8 → cmid c (nI t) (nI t) n = nI (chO c t n)
  | 0, _ => rfl
  | n + 1, hn => by
    unfold cmid chO
    rw [cmid_nI h8 ht n (by omega), cin_nI h8 ht (by omega) _ h8]
theorem crnd_nI {c : Nat → Int32} (h8 : hN c ≤ 8) {t : Nat} (ht : t < 2 ^ hN c) : ∀ n, crnd c (nI t) n = nI (chI c t n)
  | 0 => rfl
  | n + 1 => by
    have p2 : 2 ^ hN c ≤ 2 ^ 8 := Nat.pow_le_pow_right (by omega) h8
    have := chI_lt ht n
    unfold crnd
    rw [crnd_nI h8 ht n, cmid_nI h8 (by omega) _ h8]
    rfl
theorem q_chain30 {M : Mm} {c : Nat → Int32} (D : md M c) (O : okC c) {t s : Nat} (ht : t < 2 ^ hN c) (hs : s < 256) (hne : t ≠ s) (x : Int32) (f : Nat) : f_X12_chain_30 (f + 1) M (some 207) x (nI s) (nI t) = f_X12_chain_30 f M (some 207) x (nI t) (nI (chF c t)) := by
  have h8 := (ok_h O).2
  have p2 : 2 ^ hN c ≤ 2 ^ 8 := Nat.pow_le_pow_right (by omega) h8
  rw [f_X12_chain_30, if_neg (by rw [nI_eq' (by omega) (by omega)]; exact hne)]
  refine lup0 (fun i k => f_X12_chain_40 (f_X12_chain_30 f) i M (some 207) x (nI t) (nI (chO c t k)) (nI k)) (hN c) _ (by omega) (fun i k hk => ?_) (fun i => ?_)
  · rw [f_X12_chain_40]
    simp (disch := omega) only [↓q_isIn, j0, j1, u1, u3, u4, u5, u8, u9, u20, u60, u99, u100, u240, u9999, ite01z, not_true_eq_false, not_false_eq_true, if_true, if_false, z10, ↓m_r4 D.1, ↓m_r5 D.1, ↓m_r6 D.1, ↓m_r7 D.1, ↓m_r20 D.1, ↓m_r21 D.1, ↓m_r22 D.1, ↓m_r27 D.1, ↓m_r28 D.1, ↓m_r29 D.1, ↓m_r31 D.1, ↓m_r32 D.1, ↓m_r35 D.1, ↓m_ck D.1, ↓m_c0 D, ↓m_c1 D, ↓m_c2 D, ↓m_c3 D, ↓m_c4 D, ↓m_c D, i2, i3, i4, i5, i13, i21, i29, i37, i45, i53, i61, i69, i133, i137, i141, i145, i149, i153, i157, i161, i167, i4m, i6m, i8m, i9m, i18m, i60m, i256m, i450m, nI_add, ↓nmI_s, ↓bd_s, ↓bv_s, nI_1, ↓reduceIte, eq_false (hc_in O hk), q_has]
    have e := hasB_nI (s := t) (k := k) (by omega) (by omega)
    by_cases q : t.testBit k = true
    · rw [if_neg (fun z => z (e.mpr q)), q_helpedBy D O hk, bd_s, f_X12_chain_71]
      unfold hlp
      rw [st_nI _ (by omega), nmI_s, nI_or, nI_1]
      conv => rhs; rw [chO, if_pos q]
    · rw [if_pos (fun z => q (e.mp z)), f_X12_chain_71, or0, nmI_s, nI_1]
      conv => rhs; rw [chO, if_neg q]
  · rw [f_X12_chain_40]
    simp (disch := omega) only [↓m_r4 D.1, ↓m_r5 D.1, ↓m_r6 D.1, ↓m_r7 D.1, ↓m_r20 D.1, ↓m_r21 D.1, ↓m_r22 D.1, ↓m_r27 D.1, ↓m_r28 D.1, ↓m_r29 D.1, ↓m_r31 D.1, ↓m_r32 D.1, ↓m_r35 D.1, ↓m_ck D.1, ↓m_c0 D, ↓m_c1 D, ↓m_c2 D, ↓m_c3 D, ↓m_c4 D, ↓m_c D, i2, i3, i4, i5, i13, i21, i29, i37, i45, i53, i61, i69, i133, i137, i141, i145, i149, i153, i157, i161, i167, i4m, i6m, i8m, i9m, i18m, i60m, i256m, i450m, nI_add, ↓nmI_s, ↓bd_s, ↓bv_s, nI_1, ↓reduceIte, eq_true (hc_out O), if_true]
    rfl
theorem op_chain (x : Int32) : opI (fun M => f_X11_chain M (some 0) x) (fun M => f_X12_chain M (some 207) x) := by
  (refine opI_st fun M a b y z H => ?_; have hL := H.1; have S := H.2.1; have O := S.2.2; have h8 := (ok_h O).2; have g4 := (ok_g O).2; have w6 := (ok_w O).2; have L := S.1)
  by_cases q : 0 ≤ x ∧ x ≤ mI M 212 0 - 1
  · obtain ⟨h, hh, rfl⟩ := hIx O q
    have p2 : 2 ^ hN (mI M 212) ≤ 2 ^ 8 := Nat.pow_le_pow_right (by omega) h8
    have t1 : 2 ^ h < 2 ^ hN (mI M 212) := Nat.pow_lt_pow_right (by omega) hh
    have c1 : 1 ≤ card (2 ^ h) := by
      have := card_lt (a := 0) (b := 2 ^ h) (by omega) (by omega) (fun k hk => by simp at hk) (by have := Nat.two_pow_pos h; omega)
      omega
    obtain ⟨j, j1, j2, j3⟩ := chI_end h8 t1 c1
    have eN : chI (mI M 212) (2 ^ h) (hN (mI M 212)) = chI (mI M 212) (2 ^ h) j := by
      have := chI_stay j2 (hN (mI M 212) - j)
      rw [show j + (hN (mI M 212) - j) = hN (mI M 212) by omega] at this
      exact this
    refine ⟨nI (chI (mI M 212) (2 ^ h) j) &&& (nI (2 ^ h) ^^^ (-1)), 0, ?_, ?_⟩
    · unfold f_X11_chain
      simp (disch := omega) only [↓c_ck hL, ↓c_gI hL, ↓c_sh hL, ↓c_answer hL, ↓c_none hL, ↓c_no hL, ↓c_yes hL, ↓c_isHouse hL S, ↓c_isGang hL S, ↓q_within, ↓bd_s, ↓bv_s, ↓nmI_s, nI_1, ↓reduceIte, ite01z, not_true_eq_false, not_false_eq_true, if_true, if_false, z10, eq_true q, ↓lc_s S.1, p_chain S]
      rw [bitB_nI (by omega), crnd_nI h8 t1, eN, show ((1 : Int32) <<< (nI h &&& 31)) = nI (2 ^ h) from bitB_nI (by omega)]
    · have D := pre_md hL 0
      unfold f_X12_chain
      rw [m_pre hL]
      simp (disch := omega) only [↓q_isIn, j0, j1, u1, u3, u4, u5, u8, u9, u20, u60, u99, u100, u240, u9999, ite01z, not_true_eq_false, not_false_eq_true, if_true, if_false, z10, eq_true q, ↓q_isHouse D, ↓q_isGang D, ↓m_refuse hL, ↓m_no hL, ↓m_r4 D.1, ↓m_r5 D.1, ↓m_r6 D.1, ↓m_r7 D.1, ↓m_r20 D.1, ↓m_r21 D.1, ↓m_r22 D.1, ↓m_r27 D.1, ↓m_r28 D.1, ↓m_r29 D.1, ↓m_r31 D.1, ↓m_r32 D.1, ↓m_r35 D.1, ↓m_ck D.1, ↓m_c0 D, ↓m_c1 D, ↓m_c2 D, ↓m_c3 D, ↓m_c4 D, ↓m_c D, i2, i3, i4, i5, i13, i21, i29, i37, i45, i53, i61, i69, i133, i137, i141, i145, i149, i153, i157, i161, i167, i4m, i6m, i8m, i9m, i18m, i60m, i256m, i450m, nI_add, ↓nmI_s, ↓bd_s, ↓bv_s, nI_1, ↓reduceIte]
      rw [show ((1 : Int32) <<< (nI h &&& 31)) = nI (2 ^ h) from bitB_nI (by omega)]
      have run : ∀ i, i ≤ j → ∀ f, f_X12_chain_30 (f + i + 1) (pre M 0) (some 207) (nI h) 0 (nI (2 ^ h)) = f_X12_chain_30 f (pre M 0) (some 207) (nI h) (nI (chI (mI M 212) (2 ^ h) i)) (nI (chI (mI M 212) (2 ^ h) (i + 1))) := by
        intro i
        induction i with
        | zero =>
          intro _ f
          exact q_chain30 D O t1 (s := 0) (by omega) (by have := Nat.two_pow_pos h; omega) _ _
        | succ i ih =>
          intro hi f
          have := chI_lt t1 i
          rw [show f + (i + 1) + 1 = (f + 1) + i + 1 by omega, ih (by omega)]
          exact q_chain30 D O (chI_lt t1 _) (by omega) (j3 i (by omega)) _ _
      rw [show fu = (fu - j - 2 + 1) + j + 1 by unfold fu; omega, run j (Nat.le_refl _), f_X12_chain_30, if_pos (by rw [j2]), show ((1 : Int32) <<< (nI h &&& 31)) = nI (2 ^ h) from bitB_nI (by omega)]
      rfl
  · refine ⟨-1, 2, ?_, ?_⟩
    · unfold f_X11_chain
      simp (disch := omega) only [↓c_ck hL, ↓c_gI hL, ↓c_sh hL, ↓c_answer hL, ↓c_none hL, ↓c_no hL, ↓c_yes hL, ↓c_isHouse hL S, ↓c_isGang hL S, ↓q_within, ↓bd_s, ↓bv_s, ↓nmI_s, nI_1, ↓reduceIte, ite01z, not_true_eq_false, not_false_eq_true, if_true, if_false, z10, eq_false q]
    · have D := pre_md hL 2
      unfold f_X12_chain
      rw [m_pre hL]
      simp (disch := omega) only [↓q_isIn, j0, j1, u1, u3, u4, u5, u8, u9, u20, u60, u99, u100, u240, u9999, ite01z, not_true_eq_false, not_false_eq_true, if_true, if_false, z10, eq_false q, ↓q_isHouse D, ↓q_isGang D, ↓m_refuse hL, ↓m_no hL, ↓m_r4 D.1, ↓m_r5 D.1, ↓m_r6 D.1, ↓m_r7 D.1, ↓m_r20 D.1, ↓m_r21 D.1, ↓m_r22 D.1, ↓m_r27 D.1, ↓m_r28 D.1, ↓m_r29 D.1, ↓m_r31 D.1, ↓m_r32 D.1, ↓m_r35 D.1, ↓m_ck D.1, ↓m_c0 D, ↓m_c1 D, ↓m_c2 D, ↓m_c3 D, ↓m_c4 D, ↓m_c D, i2, i3, i4, i5, i13, i21, i29, i37, i45, i53, i61, i69, i133, i137, i141, i145, i149, i153, i157, i161, i167, i4m, i6m, i8m, i9m, i18m, i60m, i256m, i450m, nI_add, ↓nmI_s, ↓bd_s, ↓bv_s, nI_1, ↓reduceIte]
      rfl
/-- a sum of numbers is 0: all are -/
theorem smN_0 {g : Nat → Nat} : ∀ {n : Nat}, smN g n = 0 ↔ ∀ k, k < n → g k = 0
  | 0 => by simp [smN]
  | n + 1 => by
    rw [smN]
    constructor
    · intro h k hk
      by_cases q : k = n
      · subst q; omega
      · exact (smN_0 (n := n)).mp (by omega) k (by omega)
    · intro h
      have := (smN_0 (n := n)).mpr fun k hk => h k (by omega)
      have := h n (by omega)
      omega
theorem stN_0 {p : Nat → Prop} [DecidablePred p] {n : Nat} : stN p n = 0 ↔ ∀ k, k < n → ¬ p k := by
  constructor
  · intro h k hk hp
    have := stN_bit p k n
    rw [h] at this
    simp [hk, hp] at this
  · intro h
    refine bit_ext (n := n) (stN_lt p n) (Nat.two_pow_pos n) fun k hk => ?_
    rw [stN_bit]
    simp [hk, h k hk]
theorem nI_z {n : Nat} (h : n < 2147483648) : nI n = 0 ↔ n = 0 := by
  rw [show (0 : Int32) = nI 0 from rfl, nI_eq' h (by omega)]
theorem op_riders : opI (fun M => f_X11_riders M (some 0)) (fun M => f_X12_riders M (some 207)) := by
  (refine opI_st fun M a b y z H => ?_; have hL := H.1; have S := H.2.1; have O := S.2.2; have h8 := (ok_h O).2; have g4 := (ok_g O).2; have w6 := (ok_w O).2; have L := S.1)
  have hd : ∀ i j, i < hN (mI M 212) → j < hN (mI M 212) → mI M 212 (69 + 8 * i + j) = nI (na (mI M 212) (69 + 8 * i + j)) ∧ na (mI M 212) (69 + 8 * i + j) ≤ 9999 := fun i j hi hj => ⟨(O.2.2.2.2.2.2.1 i j hi hj).1, (O.2.2.2.2.2.2.1 i j hi hj).2.2⟩
  have eh : ∀ h, h < hN (mI M 212) → (sm (fun o => mI M 212 (69 + 8 * o + h)) (hN (mI M 212)) = 0 ↔ hlp (mI M 212) h = 0) := fun h hh => by
    rw [sm_nI (fun o ho => (hd o h ho hh).1)]
    unfold hlp
    have b := smN_le (g := fun o => na (mI M 212) (69 + 8 * o + h)) (B := 9999) (n := hN (mI M 212)) (fun o ho => (hd o h ho hh).2)
    have l := stN_lt (fun x => 0 < mI M 212 (69 + 8 * x + h)) (hN (mI M 212))
    have p2 : 2 ^ hN (mI M 212) ≤ 2 ^ 8 := Nat.pow_le_pow_right (by omega) h8
    rw [st_nI _ (by omega), nI_z (by omega), nI_z (by omega), smN_0, stN_0]
    constructor
    · intro z k hk
      rw [(hd k h hk hh).1, show (0 : Int32) = nI 0 from rfl, nI_ltI' (by omega) (by have := (hd k h hk hh).2; omega)]
      have := z k hk
      omega
    · intro z k hk
      have := z k hk
      rw [(hd k h hk hh).1, show (0 : Int32) = nI 0 from rfl, nI_ltI' (by omega) (by have := (hd k h hk hh).2; omega)] at this
      omega
  refine ⟨st (fun h => ¬ sm (fun o => mI M 212 (69 + 8 * h + o)) (hN (mI M 212)) ≤ 0 ∧ hlp (mI M 212) h = 0) (hN (mI M 212)), 0, ?_, ?_⟩
  · refine lup0 (fun f k => f_X11_riders_4 f M (some 0) (st (fun h => ¬ sm (fun o => mI M 212 (69 + 8 * h + o)) (hN (mI M 212)) ≤ 0 ∧ hlp (mI M 212) h = 0) k) (nI k)) (hN (mI M 212)) _ (by omega) (fun f k hk => ?_) (fun f => ?_)
    · rw [f_X11_riders_4]
      simp (disch := omega) only [↓c_ck hL, ↓c_gI hL, ↓c_sh hL, ↓c_answer hL, ↓c_none hL, ↓c_no hL, ↓c_yes hL, ↓c_isHouse hL S, ↓c_isGang hL S, ↓q_within, ↓bd_s, ↓bv_s, ↓nmI_s, nI_1, ↓reduceIte, ite01z, not_true_eq_false, not_false_eq_true, if_true, if_false, z10, ↓e_hc S, ↓e_gc S, ↓e_wc S, ↓e_law S, ↓e_min S, ↓l_hs S.1, ↓l_gs S.1, ↓l_ws S.1, ↓l_ds S.1, ↓l_h S.1, ↓l_g S.1, ↓l_w S.1, ↓l_d S.1, ↓e_db S, ↓e_hat S, ↓e_hwo S, ↓e_hpi S, ↓e_hwe S, ↓e_hlo S, ↓e_hpe S, ↓e_hon S, ↓e_hsd S, ↓e_gho S, ↓e_gha S, ↓e_gpa S, ↓e_gat S, ↓e_ghd S, ↓e_gwa S, ↓e_gpc S, ↓e_wst S, ↓e_wch S, ↓lc_h S.1, ↓lc_g S.1, ↓lc_s S.1, eq_false (hc_in O hk), p_timesHelped S, p_timesHelping S]
      by_cases q1 : sm (fun o => mI M 212 (69 + 8 * k + o)) (hN (mI M 212)) ≤ 0
      · rw [if_pos q1, st_n (fun z => z.1 q1), f_X11_riders_43, nI_1]
      · rw [if_neg q1]
        by_cases q2 : hlp (mI M 212) k = 0
        · rw [if_pos ((eh k hk).mpr q2), st_y (p := fun h => ¬ sm (fun o => mI M 212 (69 + 8 * h + o)) (hN (mI M 212)) ≤ 0 ∧ hlp (mI M 212) h = 0) ⟨q1, q2⟩, f_X11_riders_43, nI_1]
        · rw [if_neg (fun z => q2 ((eh k hk).mp z)), st_n (fun z => q2 z.2), f_X11_riders_43, nI_1]
    · rw [f_X11_riders_4]
      simp (disch := omega) only [↓c_ck hL, ↓c_gI hL, ↓c_sh hL, ↓c_answer hL, ↓c_none hL, ↓c_no hL, ↓c_yes hL, ↓c_isHouse hL S, ↓c_isGang hL S, ↓q_within, ↓bd_s, ↓bv_s, ↓nmI_s, nI_1, ↓reduceIte, ite01z, not_true_eq_false, not_false_eq_true, if_true, if_false, z10, ↓e_hc S, ↓e_gc S, ↓e_wc S, ↓e_law S, ↓e_min S, ↓l_hs S.1, ↓l_gs S.1, ↓l_ws S.1, ↓l_ds S.1, ↓l_h S.1, ↓l_g S.1, ↓l_w S.1, ↓l_d S.1, ↓e_db S, ↓e_hat S, ↓e_hwo S, ↓e_hpi S, ↓e_hwe S, ↓e_hlo S, ↓e_hpe S, ↓e_hon S, ↓e_hsd S, ↓e_gho S, ↓e_gha S, ↓e_gpa S, ↓e_gat S, ↓e_ghd S, ↓e_gwa S, ↓e_gpc S, ↓e_wst S, ↓e_wch S, ↓lc_h S.1, ↓lc_g S.1, ↓lc_s S.1, eq_true (hc_out O)]
  · have D := pre_md hL 0
    unfold f_X12_riders
    rw [m_pre hL]
    refine lup0 (fun f k => f_X12_riders_14 f (pre M 0) (some 207) (st (fun h => ¬ sm (fun o => mI M 212 (69 + 8 * h + o)) (hN (mI M 212)) ≤ 0 ∧ hlp (mI M 212) h = 0) k) (nI k)) (hN (mI M 212)) _ (by omega) (fun f k hk => ?_) (fun f => ?_)
    · rw [f_X12_riders_14]
      simp (disch := omega) only [↓q_isIn, j0, j1, u1, u3, u4, u5, u8, u9, u20, u60, u99, u100, u240, u9999, ite01z, not_true_eq_false, not_false_eq_true, if_true, if_false, z10, ↓m_r4 D.1, ↓m_r5 D.1, ↓m_r6 D.1, ↓m_r7 D.1, ↓m_r20 D.1, ↓m_r21 D.1, ↓m_r22 D.1, ↓m_r27 D.1, ↓m_r28 D.1, ↓m_r29 D.1, ↓m_r31 D.1, ↓m_r32 D.1, ↓m_r35 D.1, ↓m_ck D.1, ↓m_c0 D, ↓m_c1 D, ↓m_c2 D, ↓m_c3 D, ↓m_c4 D, ↓m_c D, i2, i3, i4, i5, i13, i21, i29, i37, i45, i53, i61, i69, i133, i137, i141, i145, i149, i153, i157, i161, i167, i4m, i6m, i8m, i9m, i18m, i60m, i256m, i450m, nI_add, ↓nmI_s, ↓bd_s, ↓bv_s, nI_1, ↓reduceIte, eq_false (hc_in O hk)]
      refine lup0 (fun i o => f_X12_riders_29 (f_X12_riders_14 f) i (pre M 0) (some 207) (st (fun h => ¬ sm (fun o => mI M 212 (69 + 8 * h + o)) (hN (mI M 212)) ≤ 0 ∧ hlp (mI M 212) h = 0) k) (nI k) (sm (fun o => mI M 212 (69 + 8 * k + o)) o) (nI o)) (hN (mI M 212)) _ (by omega) (fun i o ho => ?_) (fun i => ?_)
      · rw [f_X12_riders_29]
        simp (disch := omega) only [↓q_isIn, j0, j1, u1, u3, u4, u5, u8, u9, u20, u60, u99, u100, u240, u9999, ite01z, not_true_eq_false, not_false_eq_true, if_true, if_false, z10, ↓m_r4 D.1, ↓m_r5 D.1, ↓m_r6 D.1, ↓m_r7 D.1, ↓m_r20 D.1, ↓m_r21 D.1, ↓m_r22 D.1, ↓m_r27 D.1, ↓m_r28 D.1, ↓m_r29 D.1, ↓m_r31 D.1, ↓m_r32 D.1, ↓m_r35 D.1, ↓m_ck D.1, ↓m_c0 D, ↓m_c1 D, ↓m_c2 D, ↓m_c3 D, ↓m_c4 D, ↓m_c D, i2, i3, i4, i5, i13, i21, i29, i37, i45, i53, i61, i69, i133, i137, i141, i145, i149, i153, i157, i161, i167, i4m, i6m, i8m, i9m, i18m, i60m, i256m, i450m, nI_add, ↓nmI_s, ↓bd_s, ↓bv_s, nI_1, ↓reduceIte, eq_false (hc_in O ho), sm]
      · rw [f_X12_riders_29]
        simp (disch := omega) only [↓q_isIn, j0, j1, u1, u3, u4, u5, u8, u9, u20, u60, u99, u100, u240, u9999, ite01z, not_true_eq_false, not_false_eq_true, if_true, if_false, z10, ↓m_r4 D.1, ↓m_r5 D.1, ↓m_r6 D.1, ↓m_r7 D.1, ↓m_r20 D.1, ↓m_r21 D.1, ↓m_r22 D.1, ↓m_r27 D.1, ↓m_r28 D.1, ↓m_r29 D.1, ↓m_r31 D.1, ↓m_r32 D.1, ↓m_r35 D.1, ↓m_ck D.1, ↓m_c0 D, ↓m_c1 D, ↓m_c2 D, ↓m_c3 D, ↓m_c4 D, ↓m_c D, i2, i3, i4, i5, i13, i21, i29, i37, i45, i53, i61, i69, i133, i137, i141, i145, i149, i153, i157, i161, i167, i4m, i6m, i8m, i9m, i18m, i60m, i256m, i450m, nI_add, ↓nmI_s, ↓bd_s, ↓bv_s, nI_1, ↓reduceIte, eq_true (hc_out O)]
        by_cases q1 : sm (fun o => mI M 212 (69 + 8 * k + o)) (hN (mI M 212)) ≤ 0
        · rw [if_pos q1, st_n (fun z => z.1 q1), f_X12_riders_83, f_X12_riders_84, or0, nmI_s, nI_1]
        · rw [if_neg q1, q_helpedBy D O hk, bd_s]
          by_cases q2 : hlp (mI M 212) k = 0
          · rw [if_pos q2, st_y (p := fun h => ¬ sm (fun o => mI M 212 (69 + 8 * h + o)) (hN (mI M 212)) ≤ 0 ∧ hlp (mI M 212) h = 0) ⟨q1, q2⟩, f_X12_riders_84, nmI_s, nI_1]
          · rw [if_neg q2, st_n (fun z => q2 z.2), f_X12_riders_83, f_X12_riders_84, or0, nmI_s, nI_1]
    · rw [f_X12_riders_14]
      simp (disch := omega) only [↓q_isIn, j0, j1, u1, u3, u4, u5, u8, u9, u20, u60, u99, u100, u240, u9999, ite01z, not_true_eq_false, not_false_eq_true, if_true, if_false, z10, ↓m_r4 D.1, ↓m_r5 D.1, ↓m_r6 D.1, ↓m_r7 D.1, ↓m_r20 D.1, ↓m_r21 D.1, ↓m_r22 D.1, ↓m_r27 D.1, ↓m_r28 D.1, ↓m_r29 D.1, ↓m_r31 D.1, ↓m_r32 D.1, ↓m_r35 D.1, ↓m_ck D.1, ↓m_c0 D, ↓m_c1 D, ↓m_c2 D, ↓m_c3 D, ↓m_c4 D, ↓m_c D, i2, i3, i4, i5, i13, i21, i29, i37, i45, i53, i61, i69, i133, i137, i141, i145, i149, i153, i157, i161, i167, i4m, i6m, i8m, i9m, i18m, i60m, i256m, i450m, nI_add, ↓nmI_s, ↓bd_s, ↓bv_s, nI_1, ↓reduceIte, eq_true (hc_out O)]
      rfl
