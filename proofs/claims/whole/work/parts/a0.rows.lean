/-! THE GROUND: rows and their filling, against the parting into rows -/
theorem half_bit (x k : Nat) : (x / 2).testBit k = x.testBit (k + 1) := (Nat.testBit_succ x k).symm
theorem eq_bits {a b : Nat} (h : ∀ k, a.testBit k = true ↔ b.testBit k = true) : a = b := Nat.eq_of_testBit_eq fun k => Bool.eq_iff_iff.mpr (h k)
theorem and_half (a b : Nat) : (a &&& b) / 2 = (a / 2) &&& (b / 2) := eq_bits fun k => by
  rw [half_bit, Nat.testBit_and, Nat.testBit_and, half_bit, half_bit]
theorem odd_bit (x : Nat) : x.testBit 0 = true ↔ x % 2 = 1 := by
  rw [Nat.testBit_zero]
  simp
theorem inS_half {o t : Nat} (h : inS o t) : inS (o / 2) (t / 2) := fun k hk => by
  rw [half_bit] at hk ⊢
  exact h _ hk
theorem inS_odd {o t : Nat} (h : inS o t) (h1 : o % 2 = 1) : t % 2 = 1 := (odd_bit t).mp (h 0 ((odd_bit o).mpr h1))
theorem and_odd (a b : Nat) : (a &&& b) % 2 = 1 ↔ a % 2 = 1 ∧ b % 2 = 1 := by
  rw [← odd_bit, ← odd_bit, ← odd_bit, Nat.testBit_and, Bool.and_eq_true]
theorem and_self_of {o t : Nat} (h : inS o t) : o &&& t = o := eq_bits fun k => by
  rw [Nat.testBit_and, Bool.and_eq_true]
  exact ⟨fun z => z.1, fun z => ⟨z, h k z⟩⟩
/-- no part is passed over -/
theorem enum : ∀ o s t, inS o t → inS s t → s < o → s ≤ (o - 1) &&& t := by
  intro o
  induction o using Nat.strongRecOn with
  | _ o ih =>
    intro s t ho hs hlt
    have hh := and_half (o - 1) t
    have hm := and_odd (o - 1) t
    have hd := Nat.div_add_mod ((o - 1) &&& t) 2
    have h2 := Nat.mod_lt ((o - 1) &&& t) (show 0 < 2 by omega)
    by_cases q : o % 2 = 1
    · have ht := inS_odd ho q
      have e : (o - 1) / 2 = o / 2 := by omega
      rw [e, and_self_of (inS_half ho)] at hh
      omega
    · have h1 := ih (o / 2) (by omega) (s / 2) (t / 2) (inS_half ho) (inS_half hs) (by omega)
      have e : (o - 1) / 2 = o / 2 - 1 := by omega
      rw [e] at hh
      by_cases q2 : s % 2 = 1
      · have ht := inS_odd hs q2
        have : ((o - 1) &&& t) % 2 = 1 := hm.mpr ⟨by omega, ht⟩
        omega
      · omega
def dif (t s : Nat) : Nat := t &&& (s ^^^ 4294967295)
theorem dif_bit {t s : Nat} (ht : t < 256) (k : Nat) : (dif t s).testBit k = true ↔ t.testBit k = true ∧ ¬ s.testBit k = true := by
  by_cases hk : k < 32
  · unfold dif
    rw [andn_bit hk, Bool.and_eq_true]
    cases s.testBit k <;> simp
  · have hle : dif t s ≤ t := Nat.and_le_left
    constructor
    · intro h
      have := bit_8 (show dif t s < 256 by omega) h
      omega
    · rintro ⟨h, -⟩
      have := bit_8 ht h
      omega
def laidN (v l room : Nat) : Nat := if v % 100 + l ≤ room then v + l else (v / 100 + 1) * 100 + l
def vL (len : Nat → Nat) (room n : Nat) : Nat → Nat → Nat
  | 0, _ => 0
  | f + 1, t => if t = 0 then room else mnS (fun h => laidN (vL len room n f (rmB t h)) (len h) room) t 1000000 n
def mnr (len : Nat → Nat) (room n : Nat) (R : Nat → Nat) (t : Nat) : Nat → Nat → Nat → Nat
  | 0, _, acc => acc
  | f + 1, o, acc => if o = 0 then acc else mnr len room n R t f ((o - 1) &&& t) (if wkS len o n ≤ room then min acc (1 + R (dif t o)) else acc)
def rL (len : Nat → Nat) (room n : Nat) : Nat → Nat → Nat
  | 0, _ => 0
  | f + 1, t => if t = 0 then 0 else mnr len room n (rL len room n f) t fu t 99
section Gr
variable {len : Nat → Nat} {room n : Nat}
theorem mnS_cong {t t' : Nat → Nat} {s i : Nat} (h : ∀ k, s.testBit k = true → t k = t' k) : ∀ n, mnS t s i n = mnS t' s i n
  | 0 => rfl
  | n + 1 => by
    rw [mnS, mnS, mnS_cong h n]
    by_cases q : s.testBit n = true
    · rw [if_pos q, if_pos q, h n q]
    · rw [if_neg q, if_neg q]
theorem mnS_at {t : Nat → Nat} {s i : Nat} : ∀ n, mnS t s i n = i ∨ ∃ k, k < n ∧ s.testBit k = true ∧ mnS t s i n = t k
  | 0 => Or.inl rfl
  | n + 1 => by
    have h := mnS_at (t := t) (s := s) (i := i) n
    rw [mnS]
    by_cases q : s.testBit n = true
    · rw [if_pos q]
      rcases Nat.le_total (mnS t s i n) (t n) with z | z
      · rw [Nat.min_eq_left z]
        rcases h with h | ⟨k, h1, h2⟩
        · exact Or.inl h
        · exact Or.inr ⟨k, by omega, h2⟩
      · rw [Nat.min_eq_right z]
        exact Or.inr ⟨n, by omega, q, rfl⟩
    · rw [if_neg q]
      rcases h with h | ⟨k, h1, h2⟩
      · exact Or.inl h
      · exact Or.inr ⟨k, by omega, h2⟩
theorem vL_f : ∀ f f' t, t < 256 → t < f → t < f' → vL len room n f t = vL len room n f' t
  | 0, _, t, _, h, _ => by omega
  | _ + 1, 0, t, _, _, h => by omega
  | f + 1, f' + 1, t, h0, h1, h2 => by
    rw [vL, vL]
    by_cases q : t = 0
    · rw [if_pos q, if_pos q]
    · rw [if_neg q, if_neg q]
      refine mnS_cong (fun k hk => ?_) n
      have := rm_lt h0 hk
      rw [vL_f f f' (rmB t k) (by omega) (by omega) (by omega)]
theorem mnr_cong {R R' : Nat → Nat} {t : Nat} (h : ∀ o, o ≠ 0 → inS o t → R (dif t o) = R' (dif t o)) : ∀ f o acc, inS o t → mnr len room n R t f o acc = mnr len room n R' t f o acc
  | 0, _, _, _ => rfl
  | f + 1, o, acc, ho => by
    rw [mnr, mnr]
    by_cases q : o = 0
    · rw [if_pos q, if_pos q]
    · rw [if_neg q, if_neg q, h o q ho]
      exact mnr_cong h f _ _ inS_and
theorem dif_lt {t o : Nat} (ht : t < 256) (ho : inS o t) (h0 : o ≠ 0) : dif t o < t := inS_ne ht ho h0
theorem rL_f : ∀ f f' t, t < 256 → t < f → t < f' → rL len room n f t = rL len room n f' t
  | 0, _, t, _, h, _ => by omega
  | _ + 1, 0, t, _, _, h => by omega
  | f + 1, f' + 1, t, h0, h1, h2 => by
    rw [rL, rL]
    by_cases q : t = 0
    · rw [if_pos q, if_pos q]
    · rw [if_neg q, if_neg q]
      refine mnr_cong (fun o o0 ho => ?_) _ _ _ (fun k hk => hk)
      have := dif_lt h0 ho o0
      exact rL_f f f' _ (by omega) (by omega) (by omega)
theorem mnr_le {R : Nat → Nat} {t : Nat} : ∀ f o acc, mnr len room n R t f o acc ≤ acc
  | 0, _, _ => Nat.le_refl _
  | f + 1, o, acc => by
    rw [mnr]
    by_cases q : o = 0
    · rw [if_pos q]; exact Nat.le_refl _
    · rw [if_neg q]
      refine Nat.le_trans (mnr_le f _ _) ?_
      by_cases q2 : wkS len o n ≤ room
      · rw [if_pos q2]; omega
      · rw [if_neg q2]; omega
theorem mnr_hit {R : Nat → Nat} {t s : Nat} (s0 : s ≠ 0) (hs : inS s t) (hr : wkS len s n ≤ room) : ∀ f o acc, o < f → inS o t → s ≤ o → mnr len room n R t f o acc ≤ 1 + R (dif t s)
  | 0, _, _, h, _, _ => by omega
  | f + 1, o, acc, h, ho, hso => by
    have hle : (o - 1) &&& t ≤ o - 1 := Nat.and_le_left
    rw [mnr, if_neg (by omega)]
    by_cases q : s = o
    · subst q
      refine Nat.le_trans (mnr_le f _ _) ?_
      rw [if_pos hr]
      omega
    · exact mnr_hit s0 hs hr f _ _ (by omega) inS_and (enum o s t ho hs (by omega))
theorem mnr_at {R : Nat → Nat} {t : Nat} : ∀ f o acc, inS o t → mnr len room n R t f o acc = acc ∨ ∃ s, s ≠ 0 ∧ inS s t ∧ wkS len s n ≤ room ∧ mnr len room n R t f o acc = 1 + R (dif t s)
  | 0, _, _, _ => Or.inl rfl
  | f + 1, o, acc, ho => by
    rw [mnr]
    by_cases q : o = 0
    · rw [if_pos q]; exact Or.inl rfl
    · rw [if_neg q]
      rcases mnr_at (R := R) f ((o - 1) &&& t) (if wkS len o n ≤ room then min acc (1 + R (dif t o)) else acc) inS_and with h | h
      · rw [h]
        by_cases q2 : wkS len o n ≤ room
        · rw [if_pos q2]
          rcases Nat.le_total acc (1 + R (dif t o)) with z | z
          · rw [Nat.min_eq_left z]; exact Or.inl rfl
          · rw [Nat.min_eq_right z]; exact Or.inr ⟨o, q, ho, q2, rfl⟩
        · rw [if_neg q2]; exact Or.inl rfl
      · exact Or.inr h
end Gr
def Vn (len : Nat → Nat) (room n t : Nat) : Nat := vL len room n 257 t
def Rn (len : Nat → Nat) (room n t : Nat) : Nat := rL len room n 257 t
section Gr
variable {len : Nat → Nat} {room n : Nat}
theorem Vn_0 : Vn len room n 0 = room := by
  unfold Vn
  rw [vL, if_pos rfl]
theorem Rn_0 : Rn len room n 0 = 0 := by
  unfold Rn
  rw [rL, if_pos rfl]
theorem Vn_s {t : Nat} (ht : t < 256) (h0 : t ≠ 0) : Vn len room n t = mnS (fun h => laidN (Vn len room n (rmB t h)) (len h) room) t 1000000 n := by
  unfold Vn
  rw [vL, if_neg h0]
  refine mnS_cong (fun k hk => ?_) n
  have := rm_lt ht hk
  rw [vL_f 256 257 (rmB t k) (by omega) (by omega) (by omega)]
theorem Rn_s {t : Nat} (ht : t < 256) (h0 : t ≠ 0) : Rn len room n t = mnr len room n (Rn len room n) t fu t 99 := by
  show rL len room n 257 t = _
  rw [rL, if_neg h0]
  refine mnr_cong (fun o o0 ho => ?_) _ _ _ (fun k hk => hk)
  have := dif_lt ht ho o0
  exact rL_f 256 257 _ (by omega) (by omega) (by omega)
theorem Rn_99 {t : Nat} (ht : t < 256) : Rn len room n t ≤ 99 := by
  by_cases q : t = 0
  · rw [q, Rn_0]; omega
  · rw [Rn_s ht q]
    exact mnr_le _ _ _
theorem laid_div {v l room : Nat} (hr : room ≤ 99) (hl : l ≤ room) : laidN v l room / 100 ≤ v / 100 + 1 ∧ laidN v l room % 100 ≤ room := by
  unfold laidN
  by_cases q : v % 100 + l ≤ room
  · rw [if_pos q]; omega
  · rw [if_neg q]; omega
theorem laid_mono {v l room K F : Nat} (hr : room ≤ 99) (hv : v ≤ 100 * K + F) (hF : F + l ≤ room) : laidN v l room ≤ 100 * K + (F + l) := by
  unfold laidN
  by_cases q : v % 100 + l ≤ room
  · rw [if_pos q]; omega
  · rw [if_neg q]; omega
theorem laid_mono1 {v l room K : Nat} (hr : room ≤ 99) (hl : l ≤ room) (hv : v / 100 ≤ K) : laidN v l room ≤ 100 * (K + 1) + l := by
  unfold laidN
  by_cases q : v % 100 + l ≤ room
  · rw [if_pos q]; omega
  · rw [if_neg q]; omega
/-- what the ways of both come to -/
theorem VR (hr : room ≤ 99) (hn : n ≤ 8) : ∀ t, t < 256 → (∀ k, t.testBit k = true → k < n ∧ 1 ≤ len k ∧ len k ≤ room) →
    (t ≠ 0 → ∃ s, s ≠ 0 ∧ inS s t ∧ wkS len s n ≤ room ∧ Vn len room n t % 100 = wkS len s n ∧ Rn len room n (dif t s) + 1 ≤ Vn len room n t / 100) ∧
    (∀ s, s ≠ 0 → inS s t → wkS len s n ≤ room → Vn len room n t ≤ 100 * (Rn len room n (dif t s) + 1) + wkS len s n) ∧
    Vn len room n t / 100 = Rn len room n t ∧ Vn len room n t / 100 ≤ cnt t := by
  intro t
  induction t using Nat.strongRecOn with
  | _ t ih =>
    intro ht hb
    by_cases t0 : t = 0
    · subst t0
      refine ⟨fun z => absurd rfl z, fun s s0 hs => absurd (Nat.le_zero.mp (inS_le hs)) s0, ?_, ?_⟩
      · rw [Vn_0, Rn_0]; omega
      · rw [Vn_0]; omega
    · have hV := Vn_s (len := len) (room := room) (n := n) ht t0
      have sub := fun h (hh : t.testBit h = true) => ih (rmB t h) (rm_lt ht hh) (by have := rm_lt ht hh; omega) (fun k hk => hb k ((rm_bit ht k).mp hk).1)
      have up : ∀ h, t.testBit h = true → Vn len room n t ≤ laidN (Vn len room n (rmB t h)) (len h) room := fun h hh => by
        rw [hV]
        exact mnS_k hh n (hb h hh).1
      have c4 : Vn len room n t / 100 ≤ cnt t := by
        obtain ⟨h, hh⟩ := nz_bit t0
        have h1 := up h hh
        have h2 := (sub h hh).2.2.2
        have h3 := laid_div (v := Vn len room n (rmB t h)) hr (hb h hh).2.2
        have h4 := cnt_rm ht hh
        omega
      have ct : cnt t ≤ 8 := Nat.le_trans (wkS_le (B := 1) 8 (fun _ _ => Nat.le_refl 1)) (by omega)
      have cA : ∃ s, s ≠ 0 ∧ inS s t ∧ wkS len s n ≤ room ∧ Vn len room n t % 100 = wkS len s n ∧ Rn len room n (dif t s) + 1 ≤ Vn len room n t / 100 := by
        rcases mnS_at (t := fun h => laidN (Vn len room n (rmB t h)) (len h) room) (s := t) (i := 1000000) n with z | ⟨h, h1, h2, h3⟩
        · rw [← hV] at z
          omega
        · rw [← hV] at h3
          obtain ⟨b1, b2, b3⟩ := hb h h2
          obtain ⟨i1, i2, i3, i4⟩ := sub h h2
          have htl := rm_lt ht h2
          have rb := rm_bit (l := h) ht
          by_cases q : Vn len room n (rmB t h) % 100 + len h ≤ room
          · have hne : rmB t h ≠ 0 := fun z => by
              rw [z, Vn_0] at q
              omega
            obtain ⟨s, s1, s2, s3, s4, s5⟩ := i1 hne
            have sh : ¬ s.testBit h = true := fun z => ((rb h).mp (s2 h z)).2 rfl
            have sb : ∀ k, (s ||| 2 ^ h).testBit k = true ↔ s.testBit k = true ∨ k = h := fun k => by
              rw [Nat.testBit_or, Nat.testBit_two_pow, Bool.or_eq_true, decide_eq_true_eq]
              constructor
              · rintro (z | z)
                · exact Or.inl z
                · exact Or.inr z.symm
              · rintro (z | z)
                · exact Or.inl z
                · exact Or.inr z.symm
            have hrm : ∀ k, s.testBit k = true ↔ (s ||| 2 ^ h).testBit k = true ∧ k ≠ h := fun k => by
              rw [sb k]
              constructor
              · intro z
                exact ⟨Or.inl z, fun e => sh (by rw [← e]; exact z)⟩
              · rintro ⟨z | z, z2⟩
                · exact z
                · exact absurd z z2
            have hw := wkS_rm (w := len) hrm ((sb h).mpr (Or.inr rfl)) n
            rw [if_pos b1] at hw
            have ed : dif t (s ||| 2 ^ h) = dif (rmB t h) s := eq_bits fun k => by
              rw [dif_bit ht, dif_bit (by omega), rb k, sb k]
              constructor
              · rintro ⟨z1, z2⟩
                exact ⟨⟨z1, fun e => z2 (Or.inr e)⟩, fun e => z2 (Or.inl e)⟩
              · rintro ⟨⟨z1, z2⟩, z3⟩
                exact ⟨z1, by rintro (e | e); exact z3 e; exact z2 e⟩
            unfold laidN at h3
            rw [if_pos q] at h3
            refine ⟨s ||| 2 ^ h, fun z => ?_, fun k hk => ?_, by omega, by omega, ?_⟩
            · have := (sb h).mpr (Or.inr rfl)
              rw [z, Nat.zero_testBit] at this
              exact absurd this (by decide)
            · rcases (sb k).mp hk with z | z
              · exact ((rb k).mp (s2 k z)).1
              · rw [z]; exact h2
            · rw [ed]
              omega
          · have sb : ∀ k, (2 ^ h).testBit k = true ↔ k = h := fun k => by
              rw [Nat.testBit_two_pow, decide_eq_true_eq]
              exact ⟨fun e => e.symm, fun e => e.symm⟩
            have hrm : ∀ k, (0 : Nat).testBit k = true ↔ (2 ^ h).testBit k = true ∧ k ≠ h := fun k => by
              rw [sb k, Nat.zero_testBit]
              constructor
              · intro z
                exact absurd z (by decide)
              · rintro ⟨z1, z2⟩
                exact absurd z1 z2
            have hw := wkS_rm (w := len) hrm ((sb h).mpr rfl) n
            rw [if_pos b1, wkS_0] at hw
            unfold laidN at h3
            rw [if_neg q] at h3
            refine ⟨2 ^ h, Nat.ne_of_gt (Nat.two_pow_pos h), fun k hk => by rw [(sb k).mp hk]; exact h2, by omega, by omega, ?_⟩
            show Rn len room n (rmB t h) + 1 ≤ _
            omega
      have cB : ∀ s, s ≠ 0 → inS s t → wkS len s n ≤ room → Vn len room n t ≤ 100 * (Rn len room n (dif t s) + 1) + wkS len s n := fun s s0 hs hsr => by
        obtain ⟨h, hh⟩ := nz_bit s0
        have h2 := hs h hh
        obtain ⟨b1, b2, b3⟩ := hb h h2
        obtain ⟨i1, i2, i3, i4⟩ := sub h h2
        have hsl := inS_le hs
        have rbs := rm_bit (s := s) (l := h) (by omega)
        have rbt := rm_bit (l := h) ht
        have htl := rm_lt ht h2
        have hw := wkS_rm (w := len) rbs hh n
        rw [if_pos b1] at hw
        have h1 := up h h2
        have ed : dif t s = dif (rmB t h) (rmB s h) := eq_bits fun k => by
          rw [dif_bit ht, dif_bit (by omega), rbt k, rbs k]
          constructor
          · rintro ⟨z1, z2⟩
            exact ⟨⟨z1, fun e => z2 (by rw [e]; exact hh)⟩, fun e => z2 e.1⟩
          · rintro ⟨⟨z1, z2⟩, z3⟩
            exact ⟨z1, fun e => z3 ⟨e, z2⟩⟩
        by_cases q : rmB s h = 0
        · have e1 : dif t s = rmB t h := by
            rw [ed, q]
            refine eq_bits fun k => ?_
            rw [dif_bit (by omega), Nat.zero_testBit]
            simp
          rw [e1]
          rw [q, wkS_0] at hw
          have h3 := laid_mono1 (v := Vn len room n (rmB t h)) (K := Rn len room n (rmB t h)) hr b3 (by omega)
          omega
        · have h3 := i2 (rmB s h) q (fun k hk => (rbt k).mpr ⟨hs k ((rbs k).mp hk).1, ((rbs k).mp hk).2⟩) (by omega)
          rw [← ed] at h3
          have h4 := laid_mono (v := Vn len room n (rmB t h)) (l := len h) (K := Rn len room n (dif t s) + 1) (F := wkS len (rmB s h) n) hr h3 (by omega)
          omega
      refine ⟨fun _ => cA, cB, Nat.le_antisymm ?_ ?_, c4⟩
      · rcases mnr_at (len := len) (room := room) (n := n) (R := Rn len room n) fu t 99 (fun k hk => hk) with z | ⟨s, s0, hs, hsr, z⟩
        · rw [← Rn_s ht t0] at z
          omega
        · rw [← Rn_s ht t0] at z
          have := cB s s0 hs hsr
          omega
      · obtain ⟨s, s0, hs, hsr, -, h5⟩ := cA
        have := mnr_hit (len := len) (R := Rn len room n) s0 hs hsr fu t 99 (by unfold fu; omega) (fun k hk => hk) (inS_le hs)
        rw [← Rn_s ht t0] at this
        omega
end Gr
