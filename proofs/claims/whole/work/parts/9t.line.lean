/-! A LINE: the shortest way to all places of a set; the work in it -/
def loS (p : Nat → Nat) (f s : Nat) : Nat → Nat
  | 0 => f
  | n + 1 => if s.testBit n = true then min (loS p f s n) (p n) else loS p f s n
def hiS (p : Nat → Nat) (f s : Nat) : Nat → Nat
  | 0 => f
  | n + 1 => if s.testBit n = true then max (hiS p f s n) (p n) else hiS p f s n
def wkS (w : Nat → Nat) (s : Nat) : Nat → Nat
  | 0 => 0
  | n + 1 => if s.testBit n = true then wkS w s n + w n else wkS w s n
/-- the least of some, of all -/
def mnS (t : Nat → Nat) (s i : Nat) : Nat → Nat
  | 0 => i
  | n + 1 => if s.testBit n = true then min (mnS t s i n) (t n) else mnS t s i n
def mnA (t : Nat → Nat) (i : Nat) : Nat → Nat
  | 0 => i
  | n + 1 => min (mnA t i n) (t n)
section Ln
variable {p w t : Nat → Nat} {f s r l i : Nat}
theorem loS_f : ∀ n, loS p f s n ≤ f
  | 0 => Nat.le_refl _
  | n + 1 => by
    have h := loS_f n
    rw [loS]
    by_cases e : s.testBit n = true
    · rw [if_pos e]; omega
    · rw [if_neg e]; omega
theorem hiS_f : ∀ n, f ≤ hiS p f s n
  | 0 => Nat.le_refl _
  | n + 1 => by
    have h := hiS_f n
    rw [hiS]
    by_cases e : s.testBit n = true
    · rw [if_pos e]; omega
    · rw [if_neg e]; omega
theorem loS_k {k : Nat} (hk : s.testBit k = true) : ∀ n, k < n → loS p f s n ≤ p k
  | 0, h => by omega
  | n + 1, h => by
    rw [loS]
    by_cases e2 : k = n
    · subst e2
      rw [if_pos hk]; omega
    · have h2 := loS_k hk n (by omega)
      by_cases e : s.testBit n = true
      · rw [if_pos e]; omega
      · rw [if_neg e]; omega
theorem hiS_k {k : Nat} (hk : s.testBit k = true) : ∀ n, k < n → p k ≤ hiS p f s n
  | 0, h => by omega
  | n + 1, h => by
    rw [hiS]
    by_cases e2 : k = n
    · subst e2
      rw [if_pos hk]; omega
    · have h2 := hiS_k hk n (by omega)
      by_cases e : s.testBit n = true
      · rw [if_pos e]; omega
      · rw [if_neg e]; omega
theorem loS_at : ∀ n, loS p f s n = f ∨ ∃ k, k < n ∧ s.testBit k = true ∧ p k = loS p f s n
  | 0 => Or.inl rfl
  | n + 1 => by
    have h := loS_at n
    have lift : ∀ v, (v = f ∨ ∃ k, k < n ∧ s.testBit k = true ∧ p k = v) → (v = f ∨ ∃ k, k < n + 1 ∧ s.testBit k = true ∧ p k = v) := fun v h => by
      rcases h with h | ⟨k, h1, h2⟩
      · exact Or.inl h
      · exact Or.inr ⟨k, by omega, h2⟩
    rw [loS]
    by_cases e : s.testBit n = true
    · rw [if_pos e]
      rcases Nat.le_total (loS p f s n) (p n) with q | q
      · rw [Nat.min_eq_left q]
        exact lift _ h
      · rw [Nat.min_eq_right q]
        exact Or.inr ⟨n, by omega, e, rfl⟩
    · rw [if_neg e]
      exact lift _ h
theorem hiS_at : ∀ n, hiS p f s n = f ∨ ∃ k, k < n ∧ s.testBit k = true ∧ p k = hiS p f s n
  | 0 => Or.inl rfl
  | n + 1 => by
    have h := hiS_at n
    have lift : ∀ v, (v = f ∨ ∃ k, k < n ∧ s.testBit k = true ∧ p k = v) → (v = f ∨ ∃ k, k < n + 1 ∧ s.testBit k = true ∧ p k = v) := fun v h => by
      rcases h with h | ⟨k, h1, h2⟩
      · exact Or.inl h
      · exact Or.inr ⟨k, by omega, h2⟩
    rw [hiS]
    by_cases e : s.testBit n = true
    · rw [if_pos e]
      rcases Nat.le_total (p n) (hiS p f s n) with q | q
      · rw [Nat.max_eq_left q]
        exact lift _ h
      · rw [Nat.max_eq_right q]
        exact Or.inr ⟨n, by omega, e, rfl⟩
    · rw [if_neg e]
      exact lift _ h
/-- one more place -/
theorem loS_rm (hr : ∀ k, r.testBit k = true ↔ s.testBit k = true ∧ k ≠ l) (hl : s.testBit l = true) : ∀ n, loS p f s n = if l < n then min (loS p f r n) (p l) else loS p f r n
  | 0 => by rw [if_neg (by omega)]; rfl
  | n + 1 => by
    have h := loS_rm hr hl n
    rw [loS, loS]
    by_cases e : n = l
    · subst e
      rw [if_neg (by omega)] at h
      rw [if_pos hl, if_pos (by omega), if_neg (fun z => ((hr n).mp z).2 rfl), h]
    · by_cases e2 : s.testBit n = true
      · rw [if_pos e2, if_pos ((hr n).mpr ⟨e2, e⟩), h]
        by_cases e3 : l < n
        · rw [if_pos e3, if_pos (by omega)]; omega
        · rw [if_neg e3, if_neg (by omega)]
      · rw [if_neg e2, if_neg (fun z => e2 ((hr n).mp z).1), h]
        by_cases e3 : l < n
        · rw [if_pos e3, if_pos (by omega)]
        · rw [if_neg e3, if_neg (by omega)]
theorem hiS_rm (hr : ∀ k, r.testBit k = true ↔ s.testBit k = true ∧ k ≠ l) (hl : s.testBit l = true) : ∀ n, hiS p f s n = if l < n then max (hiS p f r n) (p l) else hiS p f r n
  | 0 => by rw [if_neg (by omega)]; rfl
  | n + 1 => by
    have h := hiS_rm hr hl n
    rw [hiS, hiS]
    by_cases e : n = l
    · subst e
      rw [if_neg (by omega)] at h
      rw [if_pos hl, if_pos (by omega), if_neg (fun z => ((hr n).mp z).2 rfl), h]
    · by_cases e2 : s.testBit n = true
      · rw [if_pos e2, if_pos ((hr n).mpr ⟨e2, e⟩), h]
        by_cases e3 : l < n
        · rw [if_pos e3, if_pos (by omega)]; omega
        · rw [if_neg e3, if_neg (by omega)]
      · rw [if_neg e2, if_neg (fun z => e2 ((hr n).mp z).1), h]
        by_cases e3 : l < n
        · rw [if_pos e3, if_pos (by omega)]
        · rw [if_neg e3, if_neg (by omega)]
theorem wkS_rm (hr : ∀ k, r.testBit k = true ↔ s.testBit k = true ∧ k ≠ l) (hl : s.testBit l = true) : ∀ n, wkS w s n = if l < n then wkS w r n + w l else wkS w r n
  | 0 => by rw [if_neg (by omega)]; rfl
  | n + 1 => by
    have h := wkS_rm hr hl n
    rw [wkS, wkS]
    by_cases e : n = l
    · subst e
      rw [if_neg (by omega)] at h
      rw [if_pos hl, if_pos (by omega), if_neg (fun z => ((hr n).mp z).2 rfl), h]
    · by_cases e2 : s.testBit n = true
      · rw [if_pos e2, if_pos ((hr n).mpr ⟨e2, e⟩), h]
        by_cases e3 : l < n
        · rw [if_pos e3, if_pos (by omega)]; omega
        · rw [if_neg e3, if_neg (by omega)]
      · rw [if_neg e2, if_neg (fun z => e2 ((hr n).mp z).1), h]
        by_cases e3 : l < n
        · rw [if_pos e3, if_pos (by omega)]
        · rw [if_neg e3, if_neg (by omega)]
theorem wkS_le {B : Nat} : ∀ n, (∀ k, k < n → w k ≤ B) → wkS w s n ≤ B * n
  | 0, _ => Nat.zero_le _
  | n + 1, h => by
    have h1 := wkS_le n (fun k hk => h k (by omega))
    have h2 := h n (by omega)
    have h3 : B * (n + 1) = B * n + B := Nat.mul_succ B n
    rw [wkS]
    by_cases e : s.testBit n = true
    · rw [if_pos e]; omega
    · rw [if_neg e]; omega
theorem loS_0 : ∀ n, loS p f 0 n = f
  | 0 => rfl
  | n + 1 => by rw [loS, if_neg (by rw [Nat.zero_testBit]; decide), loS_0 n]
theorem hiS_0 : ∀ n, hiS p f 0 n = f
  | 0 => rfl
  | n + 1 => by rw [hiS, if_neg (by rw [Nat.zero_testBit]; decide), hiS_0 n]
theorem wkS_0 : ∀ n, wkS w 0 n = 0
  | 0 => rfl
  | n + 1 => by rw [wkS, if_neg (by rw [Nat.zero_testBit]; decide), wkS_0 n]
theorem hiS_le {B : Nat} (hf : f ≤ B) : ∀ n, (∀ k, k < n → p k ≤ B) → hiS p f s n ≤ B
  | 0, _ => hf
  | n + 1, h => by
    have h1 := hiS_le hf n (fun k hk => h k (by omega))
    have h2 := h n (by omega)
    rw [hiS]
    by_cases e : s.testBit n = true
    · rw [if_pos e]; omega
    · rw [if_neg e]; omega
theorem mnS_i : ∀ n, mnS t s i n ≤ i
  | 0 => Nat.le_refl _
  | n + 1 => by
    have h := mnS_i n
    rw [mnS]
    by_cases e : s.testBit n = true
    · rw [if_pos e]; omega
    · rw [if_neg e]; omega
theorem mnS_k {k : Nat} (hk : s.testBit k = true) : ∀ n, k < n → mnS t s i n ≤ t k
  | 0, h => by omega
  | n + 1, h => by
    rw [mnS]
    by_cases e2 : k = n
    · subst e2
      rw [if_pos hk]; omega
    · have h2 := mnS_k hk n (by omega)
      by_cases e : s.testBit n = true
      · rw [if_pos e]; omega
      · rw [if_neg e]; omega
theorem mnS_ge {v : Nat} (hi : v ≤ i) : ∀ n, (∀ k, k < n → s.testBit k = true → v ≤ t k) → v ≤ mnS t s i n
  | 0, _ => hi
  | n + 1, h => by
    have h1 := mnS_ge hi n (fun k hk => h k (by omega))
    rw [mnS]
    by_cases e : s.testBit n = true
    · have h2 := h n (by omega) e
      rw [if_pos e]; omega
    · rw [if_neg e]; omega
theorem mnA_i : ∀ n, mnA t i n ≤ i
  | 0 => Nat.le_refl _
  | n + 1 => by
    have h := mnA_i n
    rw [mnA]; omega
theorem mnA_k {k : Nat} : ∀ n, k < n → mnA t i n ≤ t k
  | 0, h => by omega
  | n + 1, h => by
    rw [mnA]
    by_cases e2 : k = n
    · subst e2; omega
    · have h2 := mnA_k (k := k) n (by omega)
      omega
theorem mnA_ge {v : Nat} (hi : v ≤ i) : ∀ n, (∀ k, k < n → v ≤ t k) → v ≤ mnA t i n
  | 0, _ => hi
  | n + 1, h => by
    have h1 := mnA_ge hi n (fun k hk => h k (by omega))
    have h2 := h n (by omega)
    rw [mnA]; omega
end Ln
/-- the way from f to all between lo and hi; the one that ends in e -/
def dS (lo hi f : Nat) : Nat := (hi - lo) + min (f - lo) (hi - f)
def dE (lo hi f e : Nat) : Nat := (hi - lo) + min ((f - lo) + (hi - e)) ((hi - f) + (e - lo))
theorem dE_le {lo hi f e x : Nat} (h1 : lo ≤ f) (h2 : f ≤ hi) (h3 : lo ≤ x) (h4 : x ≤ hi) : dE (min lo e) (max hi e) f e ≤ dE lo hi f x + dst x e := by
  unfold dE dst
  omega
theorem dE_a {lo hi f e : Nat} (h1 : lo = f) (h2 : f ≤ hi) : dE (min lo e) (max hi e) f e = dE lo hi f hi + dst hi e := by
  unfold dE dst
  omega
theorem dE_b {lo hi f e : Nat} (h1 : lo ≤ f) (h2 : hi = f) : dE (min lo e) (max hi e) f e = dE lo hi f lo + dst lo e := by
  unfold dE dst
  omega
theorem dE_c {lo hi f e : Nat} (h1 : lo ≤ f) (h2 : f ≤ hi) : dE (min lo e) (max hi e) f e = dE lo hi f hi + dst hi e ∨ dE (min lo e) (max hi e) f e = dE lo hi f lo + dst lo e := by
  unfold dE dst
  omega
theorem dE_1 (f e : Nat) : dE (min f e) (max f e) f e = dst f e := by
  unfold dE dst
  omega
theorem dS_le {lo hi f x : Nat} (h3 : lo ≤ x) (h4 : x ≤ hi) : dS lo hi f ≤ dE lo hi f x := by
  unfold dE dS
  omega
theorem dS_a {lo hi f : Nat} (h1 : lo = f) (h2 : f ≤ hi) : dS lo hi f = dE lo hi f hi := by
  unfold dE dS
  omega
theorem dS_b {lo hi f : Nat} (h1 : lo ≤ f) (h2 : hi = f) : dS lo hi f = dE lo hi f lo := by
  unfold dE dS
  omega
theorem dS_c {lo hi f : Nat} (h1 : lo ≤ f) (h2 : f ≤ hi) : dS lo hi f = dE lo hi f hi ∨ dS lo hi f = dE lo hi f lo := by
  unfold dE dS
  omega
theorem nz_bit {s : Nat} (h : s ≠ 0) : ∃ k, s.testBit k = true := by
  refine Classical.byContradiction fun hn => h (Nat.eq_of_testBit_eq fun k => ?_)
  rw [Nat.zero_testBit]
  cases e : s.testBit k
  · rfl
  · exact absurd ⟨k, e⟩ hn
section Ln
variable {p w t : Nat → Nat} {f s r l i q n : Nat}
/-- the last of the set is l: by the one ahead of it -/
theorem dE_min (hr : ∀ k, r.testBit k = true ↔ s.testBit k = true ∧ k ≠ l) (hl : s.testBit l = true) (ln : l < n) : (∀ k, k < n → r.testBit k = true → dE (loS p f s n) (hiS p f s n) f (p l) ≤ dE (loS p f r n) (hiS p f r n) f (p k) + dst (p k) (p l)) ∧ ((∃ k, k < n ∧ r.testBit k = true) → ∃ k, k < n ∧ r.testBit k = true ∧ dE (loS p f s n) (hiS p f s n) f (p l) = dE (loS p f r n) (hiS p f r n) f (p k) + dst (p k) (p l)) := by
  rw [loS_rm hr hl n, if_pos ln, hiS_rm hr hl n, if_pos ln]
  have a1 := loS_f (p := p) (f := f) (s := r) n
  have a2 := hiS_f (p := p) (f := f) (s := r) n
  refine ⟨fun k hk hb => dE_le a1 a2 (loS_k hb n hk) (hiS_k hb n hk), fun ⟨k0, hk0, hb0⟩ => ?_⟩
  have b1 := loS_k (p := p) (f := f) hb0 n hk0
  have b2 := hiS_k (p := p) (f := f) hb0 n hk0
  rcases loS_at (p := p) (f := f) (s := r) n with c1 | ⟨k1, d1, d2, d3⟩
  · rcases hiS_at (p := p) (f := f) (s := r) n with c2 | ⟨k2, e1, e2, e3⟩
    · refine ⟨k0, hk0, hb0, ?_⟩
      rw [dE_a c1 a2, show p k0 = hiS p f r n by omega]
    · refine ⟨k2, e1, e2, ?_⟩
      rw [dE_a c1 a2, e3]
  · rcases hiS_at (p := p) (f := f) (s := r) n with c2 | ⟨k2, e1, e2, e3⟩
    · refine ⟨k1, d1, d2, ?_⟩
      rw [dE_b a1 c2, d3]
    · rcases dE_c (e := p l) a1 a2 with z | z
      · exact ⟨k2, e1, e2, by rw [z, e3]⟩
      · exact ⟨k1, d1, d2, by rw [z, d3]⟩
theorem dS_min (hne : ∃ k, k < n ∧ s.testBit k = true) : ∃ k, k < n ∧ s.testBit k = true ∧ dS (loS p f s n) (hiS p f s n) f = dE (loS p f s n) (hiS p f s n) f (p k) := by
  have a1 := loS_f (p := p) (f := f) (s := s) n
  have a2 := hiS_f (p := p) (f := f) (s := s) n
  obtain ⟨k0, hk0, hb0⟩ := hne
  have b1 := loS_k (p := p) (f := f) hb0 n hk0
  have b2 := hiS_k (p := p) (f := f) hb0 n hk0
  rcases loS_at (p := p) (f := f) (s := s) n with c1 | ⟨k1, d1, d2, d3⟩
  · rcases hiS_at (p := p) (f := f) (s := s) n with c2 | ⟨k2, e1, e2, e3⟩
    · refine ⟨k0, hk0, hb0, ?_⟩
      rw [dS_a c1 a2, show p k0 = hiS p f s n by omega]
    · refine ⟨k2, e1, e2, ?_⟩
      rw [dS_a c1 a2, e3]
  · rcases hiS_at (p := p) (f := f) (s := s) n with c2 | ⟨k2, e1, e2, e3⟩
    · refine ⟨k1, d1, d2, ?_⟩
      rw [dS_b a1 c2, d3]
    · rcases dS_c a1 a2 with z | z
      · exact ⟨k2, e1, e2, by rw [z, e3]⟩
      · exact ⟨k1, d1, d2, by rw [z, d3]⟩
/-- the minutes of an order of s that ends in l, of all orders -/
def mE (p w : Nat → Nat) (f q n s l : Nat) : Nat := q * dE (loS p f s n) (hiS p f s n) f (p l) + wkS w s n
def mS (p w : Nat → Nat) (f q n s : Nat) : Nat := q * dS (loS p f s n) (hiS p f s n) f + wkS w s n
theorem mE_bd {B : Nat} (hp : ∀ k, k < n → p k ≤ 60) (hw : ∀ k, k < n → w k ≤ B) (hf : f ≤ 60) (hq : q ≤ 9) (hl : p l ≤ 60) : mE p w f q n s l ≤ 1620 + B * n := by
  have a1 := loS_f (p := p) (f := f) (s := s) n
  have a2 := hiS_f (p := p) (f := f) (s := s) n
  have a3 := hiS_le (s := s) hf n hp
  have a4 := wkS_le (s := s) n hw
  have a5 : q * dE (loS p f s n) (hiS p f s n) f (p l) ≤ 9 * 180 := Nat.mul_le_mul hq (by unfold dE; omega)
  unfold mE
  omega
theorem mS_bd {B : Nat} (hp : ∀ k, k < n → p k ≤ 60) (hw : ∀ k, k < n → w k ≤ B) (hf : f ≤ 60) (hq : q ≤ 9) : mS p w f q n s ≤ 1620 + B * n := by
  have a1 := loS_f (p := p) (f := f) (s := s) n
  have a2 := hiS_f (p := p) (f := f) (s := s) n
  have a3 := hiS_le (s := s) hf n hp
  have a4 := wkS_le (s := s) n hw
  have a5 : q * dS (loS p f s n) (hiS p f s n) f ≤ 9 * 180 := Nat.mul_le_mul hq (by unfold dS; omega)
  unfold mS
  omega
/-- the reference's least over the one ahead -/
theorem mE_eq (hr : ∀ k, r.testBit k = true ↔ s.testBit k = true ∧ k ≠ l) (hl : s.testBit l = true) (ln : l < n) (hs : s < 2 ^ n) (hi : mE p w f q n s l ≤ i) : mnS (fun k => (mE p w f q n r k + q * dst (p k) (p l)) + w l) r (if r = 0 then q * dst f (p l) + w l else i) n = mE p w f q n s l := by
  have hk := wkS_rm (w := w) hr hl n
  rw [if_pos ln] at hk
  obtain ⟨m1, m2⟩ := dE_min (p := p) (f := f) hr hl ln
  by_cases e : r = 0
  · rw [if_pos e]
    have h1 : mE p w f q n s l = q * dst f (p l) + w l := by
      unfold mE
      rw [loS_rm hr hl n, if_pos ln, hiS_rm hr hl n, if_pos ln, hk, e, loS_0, hiS_0, wkS_0, dE_1]
      omega
    rw [h1]
    refine Nat.le_antisymm (mnS_i n) (mnS_ge (Nat.le_refl _) n fun k _ hb => ?_)
    rw [e, Nat.zero_testBit] at hb
    exact absurd hb (by decide)
  · rw [if_neg e]
    have low : ∀ k, k < n → r.testBit k = true → mE p w f q n s l ≤ (mE p w f q n r k + q * dst (p k) (p l)) + w l := fun k h1 h2 => by
      have h3 := Nat.mul_le_mul_left q (m1 k h1 h2)
      rw [Nat.mul_add] at h3
      unfold mE
      omega
    refine Nat.le_antisymm ?_ (mnS_ge hi n low)
    obtain ⟨k0, hk0⟩ := nz_bit e
    have k0n : k0 < n := by
      refine Classical.byContradiction fun z => ?_
      have h2 : 2 ^ n ≤ 2 ^ k0 := Nat.pow_le_pow_right (by omega) (by omega)
      have h3 := ((hr k0).mp hk0).1
      rw [Nat.testBit_lt_two_pow (by omega)] at h3
      exact absurd h3 (by decide)
    obtain ⟨k, h1, h2, h3⟩ := m2 ⟨k0, k0n, hk0⟩
    refine Nat.le_trans (mnS_k h2 n h1) (Nat.le_of_eq ?_)
    unfold mE
    rw [h3, Nat.mul_add, hk]
    omega
theorem mS_0 : mS p w f q n 0 = 0 := by
  unfold mS dS
  rw [loS_0, hiS_0, wkS_0]
  simp
theorem mS_le {k : Nat} (hk : k < n) (hb : s.testBit k = true) : mS p w f q n s ≤ mE p w f q n s k := by
  have h := Nat.mul_le_mul_left q (dS_le (f := f) (loS_k (p := p) (f := f) hb n hk) (hiS_k (p := p) (f := f) hb n hk))
  unfold mS mE
  omega
theorem mS_at (hne : ∃ k, k < n ∧ s.testBit k = true) : ∃ k, k < n ∧ s.testBit k = true ∧ mS p w f q n s = mE p w f q n s k := by
  obtain ⟨k, h1, h2, h3⟩ := dS_min (p := p) (f := f) hne
  exact ⟨k, h1, h2, by unfold mS mE; rw [h3]⟩
end Ln
