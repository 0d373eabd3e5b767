/-! TEXTS: bytes, tokens -/
def bV (i : Nat) : Int32 := (Int8.ofNat i).toInt32
theorem by_bV (v : Int32) : ∃ i, i < 256 ∧ v.toInt8.toInt32 = bV i := by
  refine ⟨v.toInt8.toBitVec.toNat, v.toInt8.toBitVec.isLt, congrArg Int8.toInt32 (Int8.toBitVec_inj.mp ?_)⟩
  refine BitVec.eq_of_toNat_eq ?_
  show _ = (BitVec.ofNat 8 v.toInt8.toBitVec.toNat).toNat
  rw [BitVec.toNat_ofNat, Nat.mod_eq_of_lt v.toInt8.toBitVec.isLt]
theorem bV_and : ∀ i, i < 256 → bV i &&& 255 = nI i := by decide +kernel
theorem bV_le1 : ∀ i, i < 256 → (97 ≤ i ∧ i ≤ 122) → ¬ bV i < 97 ∧ ¬ 122 < bV i ∧ bV i = nI i := by decide +kernel
theorem bV_le0 : ∀ i, i < 256 → ¬ (97 ≤ i ∧ i ≤ 122) → bV i < 97 ∨ 122 < bV i := by decide +kernel
theorem bV_di1 : ∀ i, i < 256 → (48 ≤ i ∧ i ≤ 57) → ¬ bV i < 48 ∧ ¬ 57 < bV i ∧ bV i = nI i := by decide +kernel
theorem bV_di0 : ∀ i, i < 256 → ¬ (48 ≤ i ∧ i ≤ 57) → bV i < 48 ∨ 57 < bV i := by decide +kernel
theorem bV_bl : ∀ i, i < 256 → (bV i = 32 ↔ i = 32) ∧ (bV i = 10 ↔ i = 10) := by decide +kernel
theorem bV_ch1 : ∀ i, i < 256 → UInt32.toInt32 (Int32.toUInt32 (bV i &&& 255) % 65536) = nI i := by decide +kernel
/-- runs -/
def rnE (q : Nat → Bool) (n : Nat) : Nat → Nat → Nat
  | 0, p => p
  | f + 1, p => if p < n ∧ q p = true then rnE q n f (p + 1) else p
section Rn
variable {q : Nat → Bool} {n : Nat}
theorem rnE_ge : ∀ f p, p ≤ rnE q n f p
  | 0, p => Nat.le_refl _
  | f + 1, p => by
    rw [rnE]
    by_cases h : p < n ∧ q p = true
    · rw [if_pos h]
      have := rnE_ge f (p + 1)
      omega
    · rw [if_neg h]; exact Nat.le_refl _
theorem rnE_le : ∀ f p, p ≤ n → rnE q n f p ≤ n
  | 0, p, h => h
  | f + 1, p, h => by
    rw [rnE]
    by_cases h2 : p < n ∧ q p = true
    · rw [if_pos h2]
      exact rnE_le f (p + 1) h2.1
    · rw [if_neg h2]; exact h
theorem rnE_in : ∀ f p k, p ≤ k → k < rnE q n f p → q k = true
  | 0, p, k, h1, h2 => by
    have : rnE q n 0 p = p := rfl
    omega
  | f + 1, p, k, h1, h2 => by
    rw [rnE] at h2
    by_cases h : p < n ∧ q p = true
    · rw [if_pos h] at h2
      by_cases e : k = p
      · rw [e]; exact h.2
      · exact rnE_in f (p + 1) k (by omega) h2
    · rw [if_neg h] at h2
      omega
theorem rnE_end : ∀ f p, p ≤ n → n - p < f → ¬ (rnE q n f p < n ∧ q (rnE q n f p) = true)
  | 0, p, h, h2 => by omega
  | f + 1, p, h, h2 => by
    rw [rnE]
    by_cases h3 : p < n ∧ q p = true
    · rw [if_pos h3]
      exact rnE_end f (p + 1) h3.1 (by omega)
    · rw [if_neg h3]; exact h3
theorem rnE_0 {p : Nat} (h : ¬ (p < n ∧ q p = true)) : ∀ f, rnE q n f p = p
  | 0 => rfl
  | f + 1 => by rw [rnE, if_neg h]
theorem rnE_s {p : Nat} (h : p < n ∧ q p = true) : ∀ f, p < rnE q n (f + 1) p := fun f => by
  rw [rnE, if_pos h]
  have := rnE_ge (q := q) (n := n) f (p + 1)
  omega
end Rn
def qB (cd : Nat → Nat) (k : Nat) : Bool := decide (cd k = 32 ∨ cd k = 10)
def qL (cd : Nat → Nat) (k : Nat) : Bool := decide (97 ≤ cd k ∧ cd k ≤ 122)
def qD (cd : Nat → Nat) (k : Nat) : Bool := decide (48 ≤ cd k ∧ cd k ≤ 57)
/-- where the token behind p begins, where it ends -/
def tkS (cd : Nat → Nat) (n p : Nat) : Nat := rnE (qB cd) n fu p
def tkE (cd : Nat → Nat) (n s : Nat) : Nat := if n ≤ s then s else if qL cd s = true then rnE (qL cd) n fu s else if qD cd s = true then rnE (qD cd) n fu s else s + 1
def sgB (i : Nat) : Prop := i = 59 ∨ i = 60 ∨ i = 62 ∨ i = 61
/-- the kinds: the end, what no token begins with, a word, a number, a sign -/
def tkK (cd : Nat → Nat) (n s : Nat) : Nat := if n ≤ s then 0 else if qL cd s = true then 2 else if qD cd s = true then (if tkE cd n s - s ≤ 4 then 3 else 1) else if cd s = 59 ∨ cd s = 60 ∨ cd s = 62 ∨ cd s = 61 then 4 else 1
/-- letters, numbers -/
def lw (cd : Nat → Nat) (s : Nat) : Nat → List Nat
  | 0 => []
  | k + 1 => lw cd s k ++ [cd (s + k) - 96]
def nv (cd : Nat → Nat) (s : Nat) : Nat → Nat
  | 0 => 0
  | k + 1 => nv cd s k * 10 + (cd (s + k) - 48)
theorem n27_a (ws : List Nat) (l : Nat) : n27 (ws ++ [l]) = n27 ws * 27 + l := by
  unfold n27
  rw [List.foldl_append]
  rfl
theorem n32_a (ws : List Nat) (l : Nat) : n32 (ws ++ [l]) = n32 ws * 32 + l := by
  unfold n32
  rw [List.foldl_append]
  rfl
theorem lw_len (cd : Nat → Nat) (s : Nat) : ∀ k, (lw cd s k).length = k
  | 0 => rfl
  | k + 1 => by
    rw [lw, List.length_append, lw_len cd s k]
    rfl
theorem lw_in {cd : Nat → Nat} {s : Nat} : ∀ k, (∀ j, j < k → qL cd (s + j) = true) → ∀ l ∈ lw cd s k, 1 ≤ l ∧ l ≤ 26
  | 0, _, l, h => by
    rw [lw] at h
    exact absurd h List.not_mem_nil
  | k + 1, hq, l, h => by
    rw [lw, List.mem_append] at h
    rcases h with h | h
    · exact lw_in k (fun j hj => hq j (by omega)) l h
    · have h2 := hq k (by omega)
      unfold qL at h2
      rw [decide_eq_true_eq] at h2
      rw [List.mem_singleton] at h
      omega
theorem n27_lt : ∀ ws : List Nat, (∀ l ∈ ws, l ≤ 26) → n27 ws < 27 ^ ws.length := by
  intro ws
  have h : ∀ (ws : List Nat) (x : Nat) (B : Nat), (∀ l ∈ ws, l ≤ 26) → x < B → ws.foldl (fun x l => x * 27 + l) x < B * 27 ^ ws.length := by
    intro ws
    induction ws with
    | nil => intro x B _ h; simpa using h
    | cons l ws ih =>
      intro x B hl hx
      have h1 := hl l (List.mem_cons_self)
      have h2 := ih (x * 27 + l) (B * 27) (fun m hm => hl m (List.mem_cons_of_mem l hm)) (by omega)
      rw [List.foldl_cons, List.length_cons, Nat.pow_succ]
      have e : B * (27 ^ ws.length * 27) = B * 27 * 27 ^ ws.length := by
        rw [Nat.mul_comm (27 ^ ws.length) 27, Nat.mul_assoc]
      rw [e]
      exact h2
  intro hl
  have := h ws 0 1 hl (by omega)
  rw [Nat.one_mul] at this
  exact this
theorem n32_lt : ∀ ws : List Nat, (∀ l ∈ ws, l ≤ 26) → n32 ws < 32 ^ ws.length := by
  intro ws
  have h : ∀ (ws : List Nat) (x : Nat) (B : Nat), (∀ l ∈ ws, l ≤ 26) → x < B → ws.foldl (fun x l => x * 32 + l) x < B * 32 ^ ws.length := by
    intro ws
    induction ws with
    | nil => intro x B _ h; simpa using h
    | cons l ws ih =>
      intro x B hl hx
      have h1 := hl l (List.mem_cons_self)
      have h2 := ih (x * 32 + l) (B * 32) (fun m hm => hl m (List.mem_cons_of_mem l hm)) (by omega)
      rw [List.foldl_cons, List.length_cons, Nat.pow_succ]
      have e : B * (32 ^ ws.length * 32) = B * 32 * 32 ^ ws.length := by
        rw [Nat.mul_comm (32 ^ ws.length) 32, Nat.mul_assoc]
      rw [e]
      exact h2
  intro hl
  have := h ws 0 1 hl (by omega)
  rw [Nat.one_mul] at this
  exact this
/-- both numbers tell the letters -/
theorem snoc_of {ws : List Nat} (h : ws ≠ []) : ∃ us l, ws = us ++ [l] := ⟨ws.dropLast, ws.getLast h, (List.dropLast_concat_getLast h).symm⟩
theorem n27_inj : ∀ (k : Nat) (us ws : List Nat), us.length ≤ k → (∀ l ∈ us, 1 ≤ l ∧ l ≤ 26) → (∀ l ∈ ws, 1 ≤ l ∧ l ≤ 26) → n27 us = n27 ws → us = ws := by
  intro k
  induction k with
  | zero =>
    intro us ws hk hu hw h
    have e : us = [] := List.eq_nil_of_length_eq_zero (by omega)
    subst e
    by_cases q : ws = []
    · exact q.symm
    · obtain ⟨vs, l, e⟩ := snoc_of q
      rw [e, n27_a] at h
      have := (hw l (by rw [e]; simp)).1
      have : n27 [] = 0 := rfl
      omega
  | succ k ih =>
    intro us ws hk hu hw h
    by_cases q : us = []
    · subst q
      by_cases q2 : ws = []
      · exact q2.symm
      · obtain ⟨vs, l, e⟩ := snoc_of q2
        rw [e, n27_a] at h
        have := (hw l (by rw [e]; simp)).1
        have : n27 [] = 0 := rfl
        omega
    · obtain ⟨us', l, e⟩ := snoc_of q
      by_cases q2 : ws = []
      · subst q2
        rw [e, n27_a] at h
        have := (hu l (by rw [e]; simp)).1
        have : n27 [] = 0 := rfl
        omega
      · obtain ⟨ws', m, e2⟩ := snoc_of q2
        subst e
        subst e2
        rw [n27_a, n27_a] at h
        have h1 := hu l (by simp)
        have h2 := hw m (by simp)
        have e3 : l = m := by omega
        have e4 : n27 us' = n27 ws' := by omega
        rw [List.length_append] at hk
        have hk2 : us'.length ≤ k := by
          have : [l].length = 1 := rfl
          omega
        rw [ih us' ws' hk2 (fun x hx => hu x (by simp [hx])) (fun x hx => hw x (by simp [hx])) e4, e3]
theorem n32_inj : ∀ (k : Nat) (us ws : List Nat), us.length ≤ k → (∀ l ∈ us, 1 ≤ l ∧ l ≤ 26) → (∀ l ∈ ws, 1 ≤ l ∧ l ≤ 26) → n32 us = n32 ws → us = ws := by
  intro k
  induction k with
  | zero =>
    intro us ws hk hu hw h
    have e : us = [] := List.eq_nil_of_length_eq_zero (by omega)
    subst e
    by_cases q : ws = []
    · exact q.symm
    · obtain ⟨vs, l, e⟩ := snoc_of q
      rw [e, n32_a] at h
      have := (hw l (by rw [e]; simp)).1
      have : n32 [] = 0 := rfl
      omega
  | succ k ih =>
    intro us ws hk hu hw h
    by_cases q : us = []
    · subst q
      by_cases q2 : ws = []
      · exact q2.symm
      · obtain ⟨vs, l, e⟩ := snoc_of q2
        rw [e, n32_a] at h
        have := (hw l (by rw [e]; simp)).1
        have : n32 [] = 0 := rfl
        omega
    · obtain ⟨us', l, e⟩ := snoc_of q
      by_cases q2 : ws = []
      · subst q2
        rw [e, n32_a] at h
        have := (hu l (by rw [e]; simp)).1
        have : n32 [] = 0 := rfl
        omega
      · obtain ⟨ws', m, e2⟩ := snoc_of q2
        subst e
        subst e2
        rw [n32_a, n32_a] at h
        have h1 := hu l (by simp)
        have h2 := hw m (by simp)
        have e3 : l = m := by omega
        have e4 : n32 us' = n32 ws' := by omega
        rw [List.length_append] at hk
        have hk2 : us'.length ≤ k := by
          have : [l].length = 1 := rfl
          omega
        rw [ih us' ws' hk2 (fun x hx => hu x (by simp [hx])) (fun x hx => hw x (by simp [hx])) e4, e3]
theorem n27_63 {ws : List Nat} (h : okN ws) : n27 ws < 2 ^ 62 := by
  have h1 := n27_lt ws (fun l hl => (h.2.2 l hl).2)
  have h2 : 27 ^ ws.length ≤ 27 ^ 8 := Nat.pow_le_pow_right (by omega) h.2.1
  have h3 : (27 : Nat) ^ 8 < 2 ^ 62 := by decide
  omega
theorem n32_63 {ws : List Nat} (h : okN ws) : n32 ws < 2 ^ 62 := by
  have h1 := n32_lt ws (fun l hl => (h.2.2 l hl).2)
  have h2 : 32 ^ ws.length ≤ 32 ^ 8 := Nat.pow_le_pow_right (by omega) h.2.1
  have h3 : (32 : Nat) ^ 8 < 2 ^ 62 := by decide
  omega
/-- names: one is the other's -/
theorem nm_eq {us ws : List Nat} (hu : okN us) (hw : okN ws) : (lN (n27 us) = lN (n27 ws) ↔ us = ws) ∧ (lN (n32 us) = lN (n32 ws) ↔ us = ws) := by
  have a1 := n27_63 hu
  have a2 := n27_63 hw
  have a3 := n32_63 hu
  have a4 := n32_63 hw
  constructor
  · rw [pk_lEQ (by omega) (by omega)]
    exact ⟨fun h => n27_inj us.length us ws (Nat.le_refl _) hu.2.2 hw.2.2 h, fun h => by rw [h]⟩
  · rw [pk_lEQ (by omega) (by omega)]
    exact ⟨fun h => n32_inj us.length us ws (Nat.le_refl _) hu.2.2 hw.2.2 h, fun h => by rw [h]⟩
theorem nmE_iff {x y : Int64} {ws : List Nat} (h : nmE x y) (hw : okN ws) : x = lN (n27 ws) ↔ y = lN (n32 ws) := by
  obtain ⟨us, hu, e1, e2⟩ := h
  rw [e1, e2, (nm_eq hu hw).1, (nm_eq hu hw).2]
