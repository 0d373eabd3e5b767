/-! SETS: bits of a small number -/
def stN (p : Nat → Prop) [DecidablePred p] : Nat → Nat
  | 0 => 0
  | n + 1 => if p n then stN p n ||| 2 ^ n else stN p n
theorem stN_lt (p : Nat → Prop) [DecidablePred p] : ∀ n, stN p n < 2 ^ n
  | 0 => Nat.one_pos
  | n + 1 => by
    have h := stN_lt p n
    have h2 : 2 ^ n < 2 ^ (n + 1) := Nat.pow_lt_pow_right (by omega) (by omega)
    unfold stN
    by_cases e : p n
    · rw [if_pos e]
      exact Nat.or_lt_two_pow (by omega) h2
    · rw [if_neg e]
      omega
theorem stN_bit (p : Nat → Prop) [DecidablePred p] (k : Nat) : ∀ n, (stN p n).testBit k = (decide (k < n) && decide (p k))
  | 0 => by simp [stN]
  | n + 1 => by
    have h := stN_bit p k n
    unfold stN
    by_cases e : p n
    · rw [if_pos e, Nat.testBit_or, h, Nat.testBit_two_pow]
      by_cases e2 : n = k
      · subst e2
        simp [e]
      · have : decide (k < n + 1) = decide (k < n) := decide_eq_decide.mpr (by omega)
        simp [this, e2]
    · rw [if_neg e, h]
      by_cases e2 : n = k
      · subst e2
        simp [e]
      · have : decide (k < n + 1) = decide (k < n) := decide_eq_decide.mpr (by omega)
        simp [this]
theorem nI_or (a b : Nat) : nI a ||| nI b = nI (a ||| b) := by
  apply Int32.toBitVec_inj.mp
  rw [Int32.toBitVec_or]
  apply BitVec.eq_of_toNat_eq
  rw [BitVec.toNat_or]
  show (a % 2 ^ 32) ||| (b % 2 ^ 32) = (a ||| b) % 2 ^ 32
  exact (Nat.or_mod_two_pow ..).symm
theorem nI_and (a b : Nat) : nI a &&& nI b = nI (a &&& b) := by
  apply Int32.toBitVec_inj.mp
  rw [Int32.toBitVec_and]
  apply BitVec.eq_of_toNat_eq
  rw [BitVec.toNat_and]
  show (a % 2 ^ 32) &&& (b % 2 ^ 32) = (a &&& b) % 2 ^ 32
  exact (Nat.and_mod_two_pow ..).symm
theorem nI_not (a : Nat) : nI a ^^^ (-1) = nI (a ^^^ 4294967295) := by
  apply Int32.toBitVec_inj.mp
  rw [Int32.toBitVec_xor]
  apply BitVec.eq_of_toNat_eq
  rw [BitVec.toNat_xor]
  show (a % 2 ^ 32) ^^^ (4294967295 % 2 ^ 32) = (a ^^^ 4294967295) % 2 ^ 32
  exact (Nat.xor_mod_two_pow ..).symm
theorem bitB_nI {n : Nat} (h : n < 31) : bitB n = nI (2 ^ n) := (by decide +kernel : ∀ n, n < 31 → bitB n = nI (2 ^ n)) n h
theorem st_nI (p : Nat → Prop) [DecidablePred p] : ∀ {n : Nat}, n ≤ 31 → st p n = nI (stN p n)
  | 0, _ => rfl
  | n + 1, h => by
    by_cases e : p n
    · rw [st_y e, st_nI p (by omega), bitB_nI (by omega), nI_or, stN, if_pos e]
    · rw [st_n e, st_nI p (by omega), stN, if_neg e]
theorem shs {k : Nat} (h : k < 31) : ((nI k &&& 31).toBitVec.smod 32).toNat = k := (by decide +kernel : ∀ k, k < 31 → ((nI k &&& 31).toBitVec.smod 32).toNat = k) k h
theorem hasB_nI {s k : Nat} (hs : s < 2147483648) (hk : k < 31) : hasB (nI s) k ↔ s.testBit k = true := by
  unfold hasB
  rw [pk_shrN hs _ k (shs hk)]
  have h2 : s / 2 ^ k ≤ s := Nat.div_le_self _ _
  rw [pk_andN (by omega) 1 (by decide), show (1 : Int32) = nI 1 from rfl, nI_eq' (by omega) (by omega), Nat.testBit_eq_decide_div_mod_eq]
  simp
theorem hasB_st (p : Nat → Prop) [DecidablePred p] {n k : Nat} (hn : n ≤ 30) (hk : k < 31) : hasB (st p n) k ↔ k < n ∧ p k := by
  have h1 := stN_lt p n
  have h2 : 2 ^ n ≤ 2 ^ 30 := Nat.pow_le_pow_right (by omega) hn
  rw [st_nI p (by omega), hasB_nI (by omega) hk, stN_bit]
  simp
/-- bit by bit -/
theorem bit_ext {a b n : Nat} (ha : a < 2 ^ n) (hb : b < 2 ^ n) (h : ∀ k, k < n → a.testBit k = b.testBit k) : a = b := by
  refine Nat.eq_of_testBit_eq fun k => ?_
  rcases Nat.lt_or_ge k n with q | q
  · exact h k q
  · have h2 : 2 ^ n ≤ 2 ^ k := Nat.pow_le_pow_right (by omega) q
    rw [Nat.testBit_lt_two_pow (by omega), Nat.testBit_lt_two_pow (by omega)]
theorem not_bit {a k : Nat} (hk : k < 32) : (a ^^^ 4294967295).testBit k = !a.testBit k := by
  rw [Nat.testBit_xor, show 4294967295 = 2 ^ 32 - 1 from rfl, Nat.testBit_two_pow_sub_one]
  simp [hk]
/-- what is in a and not in b -/
theorem andn_bit {a b k : Nat} (hk : k < 32) : (a &&& (b ^^^ 4294967295)).testBit k = (a.testBit k && !b.testBit k) := by
  rw [Nat.testBit_and, not_bit hk]
theorem andn0 {a b : Nat} (ha : a < 2 ^ 31) : a &&& (b ^^^ 4294967295) = 0 ↔ ∀ k, k < 31 → a.testBit k = true → b.testBit k = true := by
  constructor
  · intro h k hk h2
    have h3 := congrArg (fun z => Nat.testBit z k) h
    simp only [andn_bit (show k < 32 by omega), Nat.zero_testBit, h2, Bool.true_and] at h3
    simpa using h3
  · intro h
    refine bit_ext (n := 31) (Nat.lt_of_le_of_lt Nat.and_le_left ha) (by decide) fun k hk => ?_
    rw [andn_bit (by omega), Nat.zero_testBit]
    by_cases e : a.testBit k = true
    · simp [h k hk e]
    · simp at e
      simp [e]
theorem nI_inj {a b : Nat} (ha : a < 4294967296) (hb : b < 4294967296) : nI a = nI b ↔ a = b := by
  constructor
  · intro h
    have h2 := congrArg (fun z => z.toBitVec.toNat) h
    simp only [pk_tn ha, pk_tn hb] at h2
    exact h2
  · intro h; rw [h]
