/-! TEXTS: the words of the language -/
def WS (w : Nat) : List Nat := match w with
  | 0 => [8, 15, 21, 19, 5]
  | 1 => [1, 20]
  | 2 => [23, 15, 18, 20, 8]
  | 3 => [16, 9, 5, 3, 5, 19]
  | 4 => [23, 5, 9, 7, 8, 20]
  | 5 => [12, 15, 14, 7]
  | 6 => [16, 5, 7, 19]
  | 7 => [7, 1, 14, 7]
  | 8 => [8, 1, 14, 4, 19]
  | 9 => [16, 1, 3, 5]
  | 10 => [8, 5, 12, 16, 5, 4]
  | 11 => [2, 25]
  | 12 => [23, 9, 14, 4]
  | 13 => [15, 6]
  | 14 => [12, 1, 23]
  | 15 => [15, 23, 5, 4]
  | 16 => [14, 5, 1, 18]
  | 17 => [20, 15, 12, 4]
  | 18 => [8, 15, 21, 18]
  | 19 => [7, 1, 12, 5]
  | 20 => [4, 1, 23, 14]
  | 21 => [18, 5, 19, 20]
  | 22 => [12, 9, 6, 20]
  | 23 => [23, 9, 20, 8]
  | 24 => [23, 8, 5, 14]
  | 25 => [15, 6, 6]
  | 26 => [19, 20, 1, 14, 4, 19]
  | 27 => [12, 15, 15, 16]
  | 28 => [5, 14, 4]
  | 29 => [19, 20, 15, 16]
  | _ => []
theorem WS_wrd : ∀ w, w < 30 → wrd w = lN (n27 (WS w)) := by decide +kernel
theorem WS_len : ∀ w, w < 30 → 1 ≤ (WS w).length ∧ (WS w).length ≤ 8 ∧ (WS w).all (fun l => decide (1 ≤ l ∧ l ≤ 26)) = true := by decide +kernel
theorem WS_ok {w : Nat} (h : w < 30) : okN (WS w) := by
  obtain ⟨h1, h2, h3⟩ := WS_len w h
  refine ⟨h1, h2, fun l hl => ?_⟩
  have := List.all_eq_true.mp h3 l hl
  rw [decide_eq_true_eq] at this
  exact this
theorem WS_inj : ∀ w, w < 30 → ∀ v, v < 30 → wrd w = wrd v → w = v := by decide +kernel
theorem wix_some {x : Int64} {w : Nat} (hw : w < 30) : ∀ k, k ≤ 30 → wix x k = nI w → wrd w = x
  | 0, _, h => by
    exact absurd h (by
      show ¬ (-1 : Int32) = nI w
      exact fun e => neg1_ne (b := w) (by omega) e.symm)
  | k + 1, hk, h => by
    rw [wix] at h
    by_cases q : wrd k = x
    · rw [if_pos q, nI_eq' (by omega) (by omega)] at h
      rw [← h]; exact q
    · rw [if_neg q] at h
      exact wix_some hw k (by omega) h
theorem wix_of {x : Int64} {w : Nat} (hw : w < 30) (h : wrd w = x) : ∀ k, k ≤ 30 → w < k → wix x k = nI w
  | 0, _, h2 => absurd h2 (by omega)
  | k + 1, hk, h2 => by
    rw [wix]
    by_cases q : wrd k = x
    · rw [if_pos q, WS_inj w hw k (by omega) (h.trans q.symm)]
    · rw [if_neg q]
      exact wix_of hw h k (by omega) (by
        refine Decidable.byContradiction fun z => q ?_
        rw [show k = w by omega]; exact h)
theorem wix_al (x : Int64) : ∀ k, wix x k = -1 ∨ ∃ w, w < k ∧ wix x k = nI w
  | 0 => Or.inl rfl
  | k + 1 => by
    rw [wix]
    by_cases q : wrd k = x
    · rw [if_pos q]; exact Or.inr ⟨k, by omega, rfl⟩
    · rw [if_neg q]
      rcases wix_al x k with h | ⟨w, h1, h2⟩
      · exact Or.inl h
      · exact Or.inr ⟨w, by omega, h2⟩
theorem lN_ne_neg {a : Nat} (h : a < 2 ^ 62) : ¬ lN a = -1 := fun z => by
  have h1 : (lN a).toInt = a := by
    unfold lN
    rw [Int64.toInt_ofNat_of_lt (by omega)]
  rw [z] at h1
  have h2 : (-1 : Int64).toInt = -1 := by decide
  omega
theorem tkE_le {cd : Nat → Nat} {n s : Nat} (hs : s ≤ n) : tkE cd n s ≤ n := by
  unfold tkE
  by_cases h : n ≤ s
  · rw [if_pos h]; exact hs
  · rw [if_neg h]
    by_cases h1 : qL cd s = true
    · rw [if_pos h1]; exact rnE_le _ _ hs
    · rw [if_neg h1]
      by_cases h2 : qD cd s = true
      · rw [if_pos h2]; exact rnE_le _ _ hs
      · rw [if_neg h2]; omega
theorem tkE_ge (cd : Nat → Nat) (n s : Nat) : s ≤ tkE cd n s := by
  unfold tkE
  by_cases h : n ≤ s
  · rw [if_pos h]; exact Nat.le_refl _
  · rw [if_neg h]
    by_cases h1 : qL cd s = true
    · rw [if_pos h1]; exact rnE_ge _ _
    · rw [if_neg h1]
      by_cases h2 : qD cd s = true
      · rw [if_pos h2]; exact rnE_ge _ _
      · rw [if_neg h2]; omega
/-- which word of the language the token is -/
def tkW (cd : Nat → Nat) (n s : Nat) : Int32 := if tkK cd n s = 2 ∧ tkE cd n s - s ≤ 8 then wix (lN (n27 (lw cd s (tkE cd n s - s)))) 30 else -1
def tkL (cd : Nat → Nat) (n s : Nat) : List Nat := lw cd s (tkE cd n s - s)
theorem tkL_ok {cd : Nat → Nat} {n s : Nat} (h : tkK cd n s = 2) (h8 : tkE cd n s - s ≤ 8) : okN (tkL cd n s) := by
  have h1 : ¬ n ≤ s := fun z => by
    unfold tkK at h
    rw [if_pos z] at h
    omega
  have h2 : qL cd s = true := by
    refine Decidable.byContradiction fun z => ?_
    unfold tkK at h
    rw [if_neg h1, if_neg z] at h
    by_cases q : qD cd s = true
    · rw [if_pos q] at h
      by_cases q2 : tkE cd n s - s ≤ 4
      · rw [if_pos q2] at h; omega
      · rw [if_neg q2] at h; omega
    · rw [if_neg q] at h
      by_cases q2 : cd s = 59 ∨ cd s = 60 ∨ cd s = 62 ∨ cd s = 61
      · rw [if_pos q2] at h; omega
      · rw [if_neg q2] at h; omega
  have eE : tkE cd n s = rnE (qL cd) n fu s := by
    unfold tkE
    rw [if_neg h1, if_pos h2]
  have h3 : s < rnE (qL cd) n fu s := rnE_s (q := qL cd) ⟨by omega, h2⟩ 65535
  have h4 := rnE_in (q := qL cd) (n := n) fu s
  unfold tkL
  refine ⟨by rw [lw_len]; omega, by rw [lw_len]; exact h8, lw_in _ fun j hj => h4 (s + j) (by omega) (by rw [← eE]; omega)⟩
theorem tkW_iff {cd : Nat → Nat} {n s w : Nat} (hw : w < 30) : tkW cd n s = nI w ↔ tkK cd n s = 2 ∧ tkE cd n s - s ≤ 8 ∧ tkL cd n s = WS w := by
  unfold tkW
  by_cases q : tkK cd n s = 2 ∧ tkE cd n s - s ≤ 8
  · rw [if_pos q]
    have ok := tkL_ok q.1 q.2
    constructor
    · intro h
      have h2 := wix_some hw 30 (by omega) h
      rw [WS_wrd w hw] at h2
      exact ⟨q.1, q.2, ((nm_eq (WS_ok hw) ok).1.mp h2).symm⟩
    · intro h
      refine wix_of hw ?_ 30 (by omega) hw
      rw [WS_wrd w hw, ← h.2.2]
      rfl
  · rw [if_neg q]
    constructor
    · intro h
      exact absurd h.symm (neg1_ne (b := w) (by omega))
    · intro h
      exact absurd ⟨h.1, h.2.1⟩ q
theorem tkW_al (cd : Nat → Nat) (n s : Nat) : tkW cd n s = -1 ∨ ∃ w, w < 30 ∧ tkW cd n s = nI w := by
  unfold tkW
  by_cases q : tkK cd n s = 2 ∧ tkE cd n s - s ≤ 8
  · rw [if_pos q]; exact wix_al _ 30
  · rw [if_neg q]; exact Or.inl rfl
/-- the class's token, told by the words -/
theorem tc_w {M : Mm} {cd : Nat → Nat} {n s : Nat} (T : TkC M cd n s) : mI M 1 7 = tkW cd n s := by
  unfold tkW
  by_cases q : tkK cd n s = 2 ∧ tkE cd n s - s ≤ 8
  · rw [if_pos q]; exact (T.2.2.2.2.1 q).2
  · rw [if_neg q]; exact (T.2.2.2.2.2.1 q).2
theorem mkK_1 {k : Nat} (h : k ≤ 4) : (nI (mkK k) = 1 ↔ k = 2) ∧ (nI (mkK k) = 2 ↔ k = 3) ∧ (nI (mkK k) = 3 ↔ k = 4) ∧ (nI (mkK k) = 4 ↔ k = 1) ∧ (nI (mkK k) = 0 ↔ k = 0) := by
  rcases (show k = 0 ∨ k = 1 ∨ k = 2 ∨ k = 3 ∨ k = 4 by omega) with h | h | h | h | h <;> subst h <;> decide
theorem tkK_4 (cd : Nat → Nat) (n s : Nat) : tkK cd n s ≤ 4 := by
  unfold tkK
  by_cases h : n ≤ s
  · rw [if_pos h]; omega
  · rw [if_neg h]
    by_cases h : qL cd s = true
    · rw [if_pos h]; omega
    · rw [if_neg h]
      by_cases q : qD cd s = true
      · rw [if_pos q]
        by_cases q2 : tkE cd n s - s ≤ 4
        · rw [if_pos q2]; omega
        · rw [if_neg q2]; omega
      · rw [if_neg q]
        by_cases q2 : cd s = 59 ∨ cd s = 60 ∨ cd s = 62 ∨ cd s = 61
        · rw [if_pos q2]; omega
        · rw [if_neg q2]; omega
def spv (l0 l1 l2 l3 l4 l5 : Int32) : Int64 :=
  let x := ((((Int32.toInt64 l0) - 96) * 32) + (Int32.toInt64 l1)) - 96
  let y := if l2 ≤ 0 then x else ((x * 32) + (Int32.toInt64 l2)) - 96
  let z := if l3 ≤ 0 then y else ((y * 32) + (Int32.toInt64 l3)) - 96
  let u := if l4 ≤ 0 then z else ((z * 32) + (Int32.toInt64 l4)) - 96
  if l5 ≤ 0 then u else ((u * 32) + (Int32.toInt64 l5)) - 96
theorem q_spelled (M : Mm) (l0 l1 l2 l3 l4 l5 : Int32) : f_X12_spelled M l0 l1 l2 l3 l4 l5 = some (spv l0 l1 l2 l3 l4 l5, M) := by
  unfold f_X12_spelled f_X12_spelled_41 f_X12_spelled_65 f_X12_spelled_91 spv
  rw [nmL_s]
  by_cases h2 : l2 ≤ 0 <;> by_cases h3 : l3 ≤ 0 <;> by_cases h4 : l4 ≤ 0 <;> by_cases h5 : l5 ≤ 0 <;> simp only [h2, h3, h4, h5, if_true, if_false]
/-- one of the words? -/
def bW (t : Int32) (w : Nat) : Int32 := if t = nI w then 1 else 0
section Q
variable {M : Mm} {cd : Nat → Nat} {n s : Nat}
theorem q_isWord (H : tpM M cd n) (T : TkM M cd n s) {w : Nat} (hw : w < 30) : f_X12_isWord M (some 207) (lN (n32 (WS w))) = some (bW (tkW cd n s) w, M) := by
  unfold f_X12_isWord g_X12_isWord bW
  have k4 := tkK_4 cd n s
  rw [m_gI H.1, T.2.2.2.1]
  by_cases q : tkK cd n s = 2
  · rw [if_pos ((mkK_1 k4).1.mpr q), m_gL H.1, (T.2.2.2.2.1 q).2]
    by_cases q8 : tkE cd n s - s ≤ 8
    · have ok := tkL_ok q q8
      rw [if_pos q8]
      show zc (if lg_cmp (lN (n32 (tkL cd n s))) (lN (n32 (WS w))) = 0 then some (1, M) else some (0, M)) = _
      by_cases e : tkL cd n s = WS w
      · rw [if_pos ((lg_cmp_eq _ _).mpr ((nm_eq ok (WS_ok hw)).2.mpr e)), zc1, if_pos ((tkW_iff hw).mpr ⟨q, q8, e⟩)]
      · rw [if_neg (fun z => e ((nm_eq ok (WS_ok hw)).2.mp ((lg_cmp_eq _ _).mp z))), zc0, if_neg (fun z => e ((tkW_iff hw).mp z).2.2)]
    · rw [if_neg q8, if_neg (fun z => (lN_ne_neg (n32_63 (WS_ok hw)) ((lg_cmp_eq _ _).mp z).symm)), zc0, if_neg (fun z => q8 ((tkW_iff hw).mp z).2.1)]
  · rw [if_neg (fun z => q ((mkK_1 k4).1.mp z)), zc0, if_neg (fun z => q ((tkW_iff hw).mp z).1)]
theorem zc_bW {t : Int32} {w : Nat} : zc (some (bW t w, M)) = some (bW t w, M) := by
  unfold bW
  by_cases h : t = nI w
  · rw [if_pos h, zc1]
  · rw [if_neg h, zc0]

theorem sp_0 : spv 104 111 117 115 101 0 = lN (n32 (WS 0)) := by decide +kernel
theorem sp_1 : spv 97 116 0 0 0 0 = lN (n32 (WS 1)) := by decide +kernel
theorem sp_2 : spv 119 111 114 116 104 0 = lN (n32 (WS 2)) := by decide +kernel
theorem sp_3 : spv 112 105 101 99 101 115 = lN (n32 (WS 3)) := by decide +kernel
theorem sp_4 : spv 119 101 105 103 104 116 = lN (n32 (WS 4)) := by decide +kernel
theorem sp_5 : spv 108 111 110 103 0 0 = lN (n32 (WS 5)) := by decide +kernel
theorem sp_6 : spv 112 101 103 115 0 0 = lN (n32 (WS 6)) := by decide +kernel
theorem sp_7 : spv 103 97 110 103 0 0 = lN (n32 (WS 7)) := by decide +kernel
theorem sp_8 : spv 104 97 110 100 115 0 = lN (n32 (WS 8)) := by decide +kernel
theorem sp_9 : spv 112 97 99 101 0 0 = lN (n32 (WS 9)) := by decide +kernel
theorem sp_10 : spv 104 101 108 112 101 100 = lN (n32 (WS 10)) := by decide +kernel
theorem sp_11 : spv 98 121 0 0 0 0 = lN (n32 (WS 11)) := by decide +kernel
theorem sp_12 : spv 119 105 110 100 0 0 = lN (n32 (WS 12)) := by decide +kernel
theorem sp_13 : spv 111 102 0 0 0 0 = lN (n32 (WS 13)) := by decide +kernel
theorem sp_14 : spv 108 97 119 0 0 0 = lN (n32 (WS 14)) := by decide +kernel
theorem sp_15 : spv 111 119 101 100 0 0 = lN (n32 (WS 15)) := by decide +kernel
theorem sp_16 : spv 110 101 97 114 0 0 = lN (n32 (WS 16)) := by decide +kernel
theorem sp_17 : spv 116 111 108 100 0 0 = lN (n32 (WS 17)) := by decide +kernel
theorem sp_18 : spv 104 111 117 114 0 0 = lN (n32 (WS 18)) := by decide +kernel
theorem sp_19 : spv 103 97 108 101 0 0 = lN (n32 (WS 19)) := by decide +kernel
theorem sp_20 : spv 100 97 119 110 0 0 = lN (n32 (WS 20)) := by decide +kernel
theorem sp_21 : spv 114 101 115 116 0 0 = lN (n32 (WS 21)) := by decide +kernel
theorem sp_22 : spv 108 105 102 116 0 0 = lN (n32 (WS 22)) := by decide +kernel
theorem sp_23 : spv 119 105 116 104 0 0 = lN (n32 (WS 23)) := by decide +kernel
theorem sp_24 : spv 119 104 101 110 0 0 = lN (n32 (WS 24)) := by decide +kernel
theorem sp_25 : spv 111 102 102 0 0 0 = lN (n32 (WS 25)) := by decide +kernel
theorem sp_26 : spv 115 116 97 110 100 115 = lN (n32 (WS 26)) := by decide +kernel
theorem sp_27 : spv 108 111 111 112 0 0 = lN (n32 (WS 27)) := by decide +kernel
theorem sp_28 : spv 101 110 100 0 0 0 = lN (n32 (WS 28)) := by decide +kernel
theorem sp_29 : spv 115 116 111 112 0 0 = lN (n32 (WS 29)) := by decide +kernel
theorem q_isWHouse (H : tpM M cd n) (T : TkM M cd n s) : f_X12_isHouse M (some 207) = some (bW (tkW cd n s) 0, M) := by
  unfold f_X12_isHouse g_X12_isHouse
  rw [q_spelled, bd_s, sp_0, m_ck H.1, q_isWord H T (by omega), bd_s, zc_bW]
theorem q_isWAt (H : tpM M cd n) (T : TkM M cd n s) : f_X12_isAt M (some 207) = some (bW (tkW cd n s) 1, M) := by
  unfold f_X12_isAt g_X12_isAt
  rw [q_spelled, bd_s, sp_1, m_ck H.1, q_isWord H T (by omega), bd_s, zc_bW]
theorem q_isWWorth (H : tpM M cd n) (T : TkM M cd n s) : f_X12_isWorth M (some 207) = some (bW (tkW cd n s) 2, M) := by
  unfold f_X12_isWorth g_X12_isWorth
  rw [q_spelled, bd_s, sp_2, m_ck H.1, q_isWord H T (by omega), bd_s, zc_bW]
theorem q_isWPieces (H : tpM M cd n) (T : TkM M cd n s) : f_X12_isPieces M (some 207) = some (bW (tkW cd n s) 3, M) := by
  unfold f_X12_isPieces g_X12_isPieces
  rw [q_spelled, bd_s, sp_3, m_ck H.1, q_isWord H T (by omega), bd_s, zc_bW]
theorem q_isWWeight (H : tpM M cd n) (T : TkM M cd n s) : f_X12_isWeight M (some 207) = some (bW (tkW cd n s) 4, M) := by
  unfold f_X12_isWeight g_X12_isWeight
  rw [q_spelled, bd_s, sp_4, m_ck H.1, q_isWord H T (by omega), bd_s, zc_bW]
theorem q_isWLong (H : tpM M cd n) (T : TkM M cd n s) : f_X12_isLong M (some 207) = some (bW (tkW cd n s) 5, M) := by
  unfold f_X12_isLong g_X12_isLong
  rw [q_spelled, bd_s, sp_5, m_ck H.1, q_isWord H T (by omega), bd_s, zc_bW]
theorem q_isWPegs (H : tpM M cd n) (T : TkM M cd n s) : f_X12_isPegs M (some 207) = some (bW (tkW cd n s) 6, M) := by
  unfold f_X12_isPegs g_X12_isPegs
  rw [q_spelled, bd_s, sp_6, m_ck H.1, q_isWord H T (by omega), bd_s, zc_bW]
theorem q_isWGang (H : tpM M cd n) (T : TkM M cd n s) : f_X12_isGang M (some 207) = some (bW (tkW cd n s) 7, M) := by
  unfold f_X12_isGang g_X12_isGang
  rw [q_spelled, bd_s, sp_7, m_ck H.1, q_isWord H T (by omega), bd_s, zc_bW]
theorem q_isWHands (H : tpM M cd n) (T : TkM M cd n s) : f_X12_isHands M (some 207) = some (bW (tkW cd n s) 8, M) := by
  unfold f_X12_isHands g_X12_isHands
  rw [q_spelled, bd_s, sp_8, m_ck H.1, q_isWord H T (by omega), bd_s, zc_bW]
theorem q_isWPace (H : tpM M cd n) (T : TkM M cd n s) : f_X12_isPace M (some 207) = some (bW (tkW cd n s) 9, M) := by
  unfold f_X12_isPace g_X12_isPace
  rw [q_spelled, bd_s, sp_9, m_ck H.1, q_isWord H T (by omega), bd_s, zc_bW]
theorem q_isWHelped (H : tpM M cd n) (T : TkM M cd n s) : f_X12_isHelped M (some 207) = some (bW (tkW cd n s) 10, M) := by
  unfold f_X12_isHelped g_X12_isHelped
  rw [q_spelled, bd_s, sp_10, m_ck H.1, q_isWord H T (by omega), bd_s, zc_bW]
theorem q_isWBy (H : tpM M cd n) (T : TkM M cd n s) : f_X12_isBy M (some 207) = some (bW (tkW cd n s) 11, M) := by
  unfold f_X12_isBy g_X12_isBy
  rw [q_spelled, bd_s, sp_11, m_ck H.1, q_isWord H T (by omega), bd_s, zc_bW]
theorem q_isWWind (H : tpM M cd n) (T : TkM M cd n s) : f_X12_isWind M (some 207) = some (bW (tkW cd n s) 12, M) := by
  unfold f_X12_isWind g_X12_isWind
  rw [q_spelled, bd_s, sp_12, m_ck H.1, q_isWord H T (by omega), bd_s, zc_bW]
theorem q_isWOf (H : tpM M cd n) (T : TkM M cd n s) : f_X12_isOf M (some 207) = some (bW (tkW cd n s) 13, M) := by
  unfold f_X12_isOf g_X12_isOf
  rw [q_spelled, bd_s, sp_13, m_ck H.1, q_isWord H T (by omega), bd_s, zc_bW]
theorem q_isWLaw (H : tpM M cd n) (T : TkM M cd n s) : f_X12_isLaw M (some 207) = some (bW (tkW cd n s) 14, M) := by
  unfold f_X12_isLaw g_X12_isLaw
  rw [q_spelled, bd_s, sp_14, m_ck H.1, q_isWord H T (by omega), bd_s, zc_bW]
theorem q_isWWith (H : tpM M cd n) (T : TkM M cd n s) : f_X12_isWith M (some 207) = some (bW (tkW cd n s) 23, M) := by
  unfold f_X12_isWith g_X12_isWith
  rw [q_spelled, bd_s, sp_23, m_ck H.1, q_isWord H T (by omega), bd_s, zc_bW]
theorem q_isWEnd (H : tpM M cd n) (T : TkM M cd n s) : f_X12_isEnd M (some 207) = some (bW (tkW cd n s) 28, M) := by
  unfold f_X12_isEnd g_X12_isEnd
  rw [q_spelled, bd_s, sp_28, m_ck H.1, q_isWord H T (by omega), bd_s, zc_bW]
theorem bW_1 {t : Int32} {w : Nat} (h : t = nI w) : bW t w = 1 := if_pos h
theorem bW_0 {t : Int32} {w : Nat} (h : ¬ t = nI w) : bW t w = 0 := if_neg h
theorem bW_n {t : Int32} {w : Nat} (h : ¬ t = nI w) : (bW t w = 0) = True := by rw [bW_0 h]; exact eq_true rfl
theorem bW_p {t : Int32} {w : Nat} (h : t = nI w) : (bW t w = 0) = False := by rw [bW_1 h]; exact eq_false (by decide)
def lwV (t : Int32) : Int32 := if t = nI 2 then 0 else (if t = nI 15 then 1 else (if t = nI 16 then 2 else (if t = nI 17 then 3 else (-1))))
theorem q_lawWord (H : tpM M cd n) (T : TkM M cd n s) : f_X12_lawWord M (some 207) = some (lwV (tkW cd n s), M) := by
  unfold f_X12_lawWord lwV
  rw [m_ck H.1, q_isWWorth H T, bd_s]
  by_cases h0 : tkW cd n s = nI 2
  · rw [if_neg (by rw [bW_1 h0]; decide), if_pos h0]
  rw [if_pos (bW_0 h0), if_neg h0]
  rw [q_spelled, bd_s, sp_15, m_ck H.1, q_isWord H T (w := 15) (by omega), bd_s]
  by_cases h1 : tkW cd n s = nI 15
  · rw [if_neg (by rw [bW_1 h1]; decide), if_pos h1]
  rw [if_pos (bW_0 h1), if_neg h1]
  rw [q_spelled, bd_s, sp_16, m_ck H.1, q_isWord H T (w := 16) (by omega), bd_s]
  by_cases h2 : tkW cd n s = nI 16
  · rw [if_neg (by rw [bW_1 h2]; decide), if_pos h2]
  rw [if_pos (bW_0 h2), if_neg h2]
  rw [q_spelled, bd_s, sp_17, m_ck H.1, q_isWord H T (w := 17) (by omega), bd_s]
  by_cases h3 : tkW cd n s = nI 17
  · rw [if_neg (by rw [bW_1 h3]; decide), if_pos h3]
  rw [if_pos (bW_0 h3), if_neg h3]
def swV (t : Int32) : Int32 := if t = nI 18 then 0 else (if t = nI 19 then 1 else (if t = nI 20 then 2 else (if t = nI 22 then 3 else (if t = nI 21 then 4 else (if t = nI 24 then 5 else (if t = nI 27 then 6 else (if t = nI 29 then 7 else (-1))))))))
theorem q_stepWord (H : tpM M cd n) (T : TkM M cd n s) : f_X12_stepWord M (some 207) = some (swV (tkW cd n s), M) := by
  unfold f_X12_stepWord swV
  rw [q_spelled, bd_s, sp_18, m_ck H.1, q_isWord H T (w := 18) (by omega), bd_s]
  by_cases h0 : tkW cd n s = nI 18
  · rw [if_neg (by rw [bW_1 h0]; decide), if_pos h0]
  rw [if_pos (bW_0 h0), if_neg h0]
  rw [q_spelled, bd_s, sp_19, m_ck H.1, q_isWord H T (w := 19) (by omega), bd_s]
  by_cases h1 : tkW cd n s = nI 19
  · rw [if_neg (by rw [bW_1 h1]; decide), if_pos h1]
  rw [if_pos (bW_0 h1), if_neg h1]
  rw [q_spelled, bd_s, sp_20, m_ck H.1, q_isWord H T (w := 20) (by omega), bd_s]
  by_cases h2 : tkW cd n s = nI 20
  · rw [if_neg (by rw [bW_1 h2]; decide), if_pos h2]
  rw [if_pos (bW_0 h2), if_neg h2]
  rw [q_spelled, bd_s, sp_22, m_ck H.1, q_isWord H T (w := 22) (by omega), bd_s]
  by_cases h3 : tkW cd n s = nI 22
  · rw [if_neg (by rw [bW_1 h3]; decide), if_pos h3]
  rw [if_pos (bW_0 h3), if_neg h3]
  rw [q_spelled, bd_s, sp_21, m_ck H.1, q_isWord H T (w := 21) (by omega), bd_s]
  by_cases h4 : tkW cd n s = nI 21
  · rw [if_neg (by rw [bW_1 h4]; decide), if_pos h4]
  rw [if_pos (bW_0 h4), if_neg h4]
  rw [q_spelled, bd_s, sp_24, m_ck H.1, q_isWord H T (w := 24) (by omega), bd_s]
  by_cases h5 : tkW cd n s = nI 24
  · rw [if_neg (by rw [bW_1 h5]; decide), if_pos h5]
  rw [if_pos (bW_0 h5), if_neg h5]
  rw [q_spelled, bd_s, sp_27, m_ck H.1, q_isWord H T (w := 27) (by omega), bd_s]
  by_cases h6 : tkW cd n s = nI 27
  · rw [if_neg (by rw [bW_1 h6]; decide), if_pos h6]
  rw [if_pos (bW_0 h6), if_neg h6]
  rw [q_spelled, bd_s, sp_29, m_ck H.1, q_isWord H T (w := 29) (by omega), bd_s]
  by_cases h7 : tkW cd n s = nI 29
  · rw [if_neg (by rw [bW_1 h7]; decide), if_pos h7]
  rw [if_pos (bW_0 h7), if_neg h7]
def twV (t : Int32) : Int32 := if t = nI 25 then 0 else (if t = nI 26 then 1 else (if t = nI 2 then 2 else (-1)))
theorem q_testWord (H : tpM M cd n) (T : TkM M cd n s) : f_X12_testWord M (some 207) = some (twV (tkW cd n s), M) := by
  unfold f_X12_testWord twV
  rw [q_spelled, bd_s, sp_25, m_ck H.1, q_isWord H T (w := 25) (by omega), bd_s]
  by_cases h0 : tkW cd n s = nI 25
  · rw [if_neg (by rw [bW_1 h0]; decide), if_pos h0]
  rw [if_pos (bW_0 h0), if_neg h0]
  rw [q_spelled, bd_s, sp_26, m_ck H.1, q_isWord H T (w := 26) (by omega), bd_s]
  by_cases h1 : tkW cd n s = nI 26
  · rw [if_neg (by rw [bW_1 h1]; decide), if_pos h1]
  rw [if_pos (bW_0 h1), if_neg h1]
  rw [m_ck H.1, q_isWWorth H T, bd_s]
  by_cases h2 : tkW cd n s = nI 2
  · rw [if_neg (by rw [bW_1 h2]; decide), if_pos h2]
  rw [if_pos (bW_0 h2), if_neg h2]
theorem q_isKept (H : tpM M cd n) (T : TkM M cd n s) : f_X12_isKept M (some 207) = some (if tkW cd n s = -1 then 0 else 1, M) := by
  unfold f_X12_isKept g_X12_isKept f_X12_isKept_135
  rw [m_ck H.1, q_isWHouse H T, bd_s]
  by_cases h0 : tkW cd n s = nI 0
  · rw [if_neg (by rw [bW_1 h0]; decide), zc1, if_neg (by rw [h0]; decide)]
  rw [if_pos (bW_0 h0)]
  rw [m_ck H.1, q_isWAt H T, bd_s]
  by_cases h1 : tkW cd n s = nI 1
  · rw [if_neg (by rw [bW_1 h1]; decide), zc1, if_neg (by rw [h1]; decide)]
  rw [if_pos (bW_0 h1)]
  rw [m_ck H.1, q_isWPieces H T, bd_s]
  by_cases h2 : tkW cd n s = nI 3
  · rw [if_neg (by rw [bW_1 h2]; decide), zc1, if_neg (by rw [h2]; decide)]
  rw [if_pos (bW_0 h2)]
  rw [m_ck H.1, q_isWWeight H T, bd_s]
  by_cases h3 : tkW cd n s = nI 4
  · rw [if_neg (by rw [bW_1 h3]; decide), zc1, if_neg (by rw [h3]; decide)]
  rw [if_pos (bW_0 h3)]
  rw [m_ck H.1, q_isWLong H T, bd_s]
  by_cases h4 : tkW cd n s = nI 5
  · rw [if_neg (by rw [bW_1 h4]; decide), zc1, if_neg (by rw [h4]; decide)]
  rw [if_pos (bW_0 h4)]
  rw [m_ck H.1, q_isWPegs H T, bd_s]
  by_cases h5 : tkW cd n s = nI 6
  · rw [if_neg (by rw [bW_1 h5]; decide), zc1, if_neg (by rw [h5]; decide)]
  rw [if_pos (bW_0 h5)]
  rw [m_ck H.1, q_isWGang H T, bd_s]
  by_cases h6 : tkW cd n s = nI 7
  · rw [if_neg (by rw [bW_1 h6]; decide), zc1, if_neg (by rw [h6]; decide)]
  rw [if_pos (bW_0 h6)]
  rw [m_ck H.1, q_isWHands H T, bd_s]
  by_cases h7 : tkW cd n s = nI 8
  · rw [if_neg (by rw [bW_1 h7]; decide), zc1, if_neg (by rw [h7]; decide)]
  rw [if_pos (bW_0 h7)]
  rw [m_ck H.1, q_isWPace H T, bd_s]
  by_cases h8 : tkW cd n s = nI 9
  · rw [if_neg (by rw [bW_1 h8]; decide), zc1, if_neg (by rw [h8]; decide)]
  rw [if_pos (bW_0 h8)]
  rw [m_ck H.1, q_isWHelped H T, bd_s]
  by_cases h9 : tkW cd n s = nI 10
  · rw [if_neg (by rw [bW_1 h9]; decide), zc1, if_neg (by rw [h9]; decide)]
  rw [if_pos (bW_0 h9)]
  rw [m_ck H.1, q_isWBy H T, bd_s]
  by_cases h10 : tkW cd n s = nI 11
  · rw [if_neg (by rw [bW_1 h10]; decide), zc1, if_neg (by rw [h10]; decide)]
  rw [if_pos (bW_0 h10)]
  rw [m_ck H.1, q_isWWind H T, bd_s]
  by_cases h11 : tkW cd n s = nI 12
  · rw [if_neg (by rw [bW_1 h11]; decide), zc1, if_neg (by rw [h11]; decide)]
  rw [if_pos (bW_0 h11)]
  rw [m_ck H.1, q_isWOf H T, bd_s]
  by_cases h12 : tkW cd n s = nI 13
  · rw [if_neg (by rw [bW_1 h12]; decide), zc1, if_neg (by rw [h12]; decide)]
  rw [if_pos (bW_0 h12)]
  rw [m_ck H.1, q_isWLaw H T, bd_s]
  by_cases h13 : tkW cd n s = nI 14
  · rw [if_neg (by rw [bW_1 h13]; decide), zc1, if_neg (by rw [h13]; decide)]
  rw [if_pos (bW_0 h13)]
  rw [m_ck H.1, q_isWWith H T, bd_s]
  by_cases h14 : tkW cd n s = nI 23
  · rw [if_neg (by rw [bW_1 h14]; decide), zc1, if_neg (by rw [h14]; decide)]
  rw [if_pos (bW_0 h14)]
  rw [m_ck H.1, q_lawWord H T, bd_s]
  by_cases glwV : 0 ≤ lwV (tkW cd n s)
  · rw [if_pos glwV, zc1, if_neg (fun z => by rw [z] at glwV; exact absurd glwV (by decide))]
  rw [if_neg glwV]
  rw [m_ck H.1, q_stepWord H T, bd_s]
  by_cases gswV : 0 ≤ swV (tkW cd n s)
  · rw [if_pos gswV, zc1, if_neg (fun z => by rw [z] at gswV; exact absurd gswV (by decide))]
  rw [if_neg gswV]
  rw [m_ck H.1, q_testWord H T, bd_s]
  by_cases gtwV : 0 ≤ twV (tkW cd n s)
  · rw [if_pos gtwV, zc1, if_neg (fun z => by rw [z] at gtwV; exact absurd gtwV (by decide))]
  rw [if_neg gtwV]
  rw [m_ck H.1, q_isWEnd H T, bd_s]
  by_cases he : tkW cd n s = nI 28
  · rw [if_neg (by rw [bW_1 he]; decide), zc1, if_neg (by rw [he]; decide)]
  rw [if_pos (bW_0 he), zc0]
  rcases tkW_al cd n s with e | ⟨w, hw, e⟩
  · rw [if_pos e]
  exfalso
  rw [e] at glwV gswV gtwV he h0 h1 h2 h3 h4 h5 h6 h7 h8 h9 h10 h11 h12 h13 h14
  have hh : ∀ w, w < 30 → nI w = nI 0 ∨ nI w = nI 1 ∨ nI w = nI 3 ∨ nI w = nI 4 ∨ nI w = nI 5 ∨ nI w = nI 6 ∨ nI w = nI 7 ∨ nI w = nI 8 ∨ nI w = nI 9 ∨ nI w = nI 10 ∨ nI w = nI 11 ∨ nI w = nI 12 ∨ nI w = nI 13 ∨ nI w = nI 14 ∨ nI w = nI 23 ∨ 0 ≤ lwV (nI w) ∨ 0 ≤ swV (nI w) ∨ 0 ≤ twV (nI w) ∨ nI w = nI 28 := by decide +kernel
  rcases hh w hw with z | z | z | z | z | z | z | z | z | z | z | z | z | z | z | z | z | z | z
  · exact h0 z
  · exact h1 z
  · exact h2 z
  · exact h3 z
  · exact h4 z
  · exact h5 z
  · exact h6 z
  · exact h7 z
  · exact h8 z
  · exact h9 z
  · exact h10 z
  · exact h11 z
  · exact h12 z
  · exact h13 z
  · exact h14 z
  · exact glwV z
  · exact gswV z
  · exact gtwV z
  · exact he z
/-- a name -/
def isNm (cd : Nat → Nat) (n s : Nat) : Bool := decide (tkK cd n s = 2 ∧ tkE cd n s - s ≤ 8 ∧ tkW cd n s = -1)
theorem nm_t {cd : Nat → Nat} {n s : Nat} (h : tkK cd n s = 2 ∧ tkE cd n s - s ≤ 8 ∧ tkW cd n s = -1) : isNm cd n s = true := decide_eq_true h
theorem nm_u {cd : Nat → Nat} {n s : Nat} (h : isNm cd n s = true) : tkK cd n s = 2 ∧ tkE cd n s - s ≤ 8 ∧ tkW cd n s = -1 := of_decide_eq_true h
theorem q_isName (H : tpM M cd n) (T : TkM M cd n s) : f_X12_isName M (some 207) = some (if isNm cd n s = true then 1 else 0, M) := by
  unfold f_X12_isName g_X12_isName
  have k4 := tkK_4 cd n s
  have hE := tkE_le (cd := cd) T.1
  have hn := H.2.1
  rw [m_gI H.1, T.2.2.2.1]
  by_cases q : tkK cd n s = 2
  · rw [if_pos ((mkK_1 k4).1.mpr q), m_gI H.1, (T.2.2.2.2.1 q).1, show (8 : Int32) = nI 8 from rfl]
    by_cases q8 : tkE cd n s - s ≤ 8
    · rw [if_neg (by rw [nI_ltI' (by omega) (by omega)]; omega), m_ck H.1, q_isKept H T, bd_s]
      by_cases e : tkW cd n s = -1
      · rw [if_pos e, if_pos rfl, zc1, if_pos (nm_t ⟨q, q8, e⟩)]
      · rw [if_neg e, if_neg (by decide), zc0, if_neg (fun z => e (nm_u z).2.2)]
    · rw [if_pos (by rw [nI_ltI' (by omega) (by omega)]; omega), zc0, if_neg (fun z => q8 (nm_u z).2.1)]
  · rw [if_neg (fun z => q ((mkK_1 k4).1.mp z)), zc0, if_neg (fun z => q (nm_u z).1)]
end Q
theorem c_isName {M : Mm} {cd : Nat → Nat} {n s : Nat} (H : tpC M cd n) (T : TkC M cd n s) : f_X6_isName M (some 1) = some (if isNm cd n s = true then 1 else 0, M) := by
  unfold f_X6_isName g_X6_isName
  have k4 := tkK_4 cd n s
  rw [tp_gI H, T.2.2.2.1]
  by_cases q : tkK cd n s = 2
  · rw [if_pos (by rw [q]; rfl), tp_gL H]
    by_cases q8 : tkE cd n s - s ≤ 8
    · rw [if_neg (fun z => by
        rw [(T.2.2.2.2.1 ⟨q, q8⟩).1] at z
        exact lN_ne_neg (n27_63 (tkL_ok q q8)) ((lg_cmp_eq _ _).mp z)), tp_gI H, tc_w T]
      by_cases e : tkW cd n s = -1
      · rw [if_pos e, zc1, if_pos (nm_t ⟨q, q8, e⟩)]
      · rw [if_neg e, zc0, if_neg (fun z => e (nm_u z).2.2)]
    · rw [if_pos (by rw [(T.2.2.2.2.2.1 (fun z => q8 z.2)).1]; rfl), zc0, if_neg (fun z => q8 (nm_u z).2.1)]
  · rw [if_neg (fun z => q ((nI_eq' (by omega) (by omega)).mp (z.trans (show (2 : Int32) = nI 2 from rfl)))), zc0, if_neg (fun z => q (nm_u z).1)]

