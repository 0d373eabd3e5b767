/-! SOONEST: the reference's orders -/
def S9 (x : Nat) : Prop := x = 207 ∨ x = 218 ∨ x = 219
def P8 (x : Nat) : Prop := x = 218
def bet (N : Mm) (T : Nat) : Prop := mI N 207 34 = -1 ∨ ∃ L, L < 1000000 ∧ mI N 207 34 = nI L ∧ T < L
def wfL (N : Mm) : Prop := mI N 207 34 = -1 ∨ ∃ L, L < 1000000 ∧ mI N 207 34 = nI L
def GEff (N N' : Mm) (n d T : Nat) (o : Nat → Nat) : Prop := FS S9 N N' ∧ (∀ k, k ≠ 34 → mI N' 207 k = mI N 207 k) ∧ (∀ k, k < n → mI N' 219 k = mI N 219 k) ∧ ((bet N T ∧ mI N' 207 34 = nI T ∧ (∀ k, k < n → mI N' 218 k = mI N 219 k) ∧ ∀ k, k < d → mI N' 218 (n + k) = nI (o k)) ∨ (¬ bet N T ∧ mI N' 207 34 = mI N 207 34 ∧ mI N' 218 = mI N 218))
section R
variable {ρ : Type} {M : Mm} {k : Nat}
theorem r218 (D : mdL M) (hk : k < 8) {K : Int32 → Option ρ} : alI M (some 218) 21 (nI k) K = K (mI M 218 k) := alI_s D.2.2.2.2.2.2.2.2.2.2.2.1.2 hk (by decide)
theorem s218 (D : mdL M) (hk : k < 8) {v : Int32} {K : Mm → Option ρ} : asI M (some 218) 21 (nI k) v K = K (sI M 218 k v) := asI_s D.2.2.2.2.2.2.2.2.2.2.2.1.2 hk (by decide)
theorem r219 (D : mdL M) (hk : k < 8) {K : Int32 → Option ρ} : alI M (some 219) 21 (nI k) K = K (mI M 219 k) := alI_s D.2.2.2.2.2.2.2.2.2.2.2.2.1.2 hk (by decide)
theorem s219 (D : mdL M) (hk : k < 8) {v : Int32} {K : Mm → Option ρ} : asI M (some 219) 21 (nI k) v K = K (sI M 219 k v) := asI_s D.2.2.2.2.2.2.2.2.2.2.2.2.1.2 hk (by decide)
end R
section G
variable {M : Mm} {c : Nat → Int32} {a g : Nat}
theorem q_30 (rc : Mm → Option Nat → Int32 → Int32 → Int32 → Int32 → Int32 → Option Mm) {n : Nat} (hn : n ≤ 8) (D : mdL M) : ∃ N, f_X12_goesOn_30 rc fu M (some 207) (nI n) 0 = some N ∧ FS P8 M N ∧ ∀ k, k < n → mI N 218 k = mI M 219 k := by
  refine lupE0 (fun f N k => f_X12_goesOn_30 rc f N (some 207) (nI n) (nI k)) (fun k N => FS P8 M N ∧ ∀ j, j < k → mI N 218 j = mI M 219 j) n (fun N => some N) (by omega) (fun f k N hk hI => ?_) (fun f N hI => ?_) M ⟨FS.rf, fun j hj => by omega⟩
  · obtain ⟨h1, h2⟩ := hI
    have DN := h1.mdl D
    refine ⟨sI N 218 k (mI N 219 k), ?_, h1.sI rfl _ _, fun j hj => ?_⟩
    · rw [f_X12_goesOn_30, if_neg (by rw [nI_leI' (by omega) (by omega)]; omega), m_r31 DN, m_r32 DN, r219 DN (by omega), s218 DN (by omega), nI_1]
    · by_cases q : j = k
      · rw [q, mI_sI_s, h1.2.2.2.2 219 (by unfold P8; omega)]
      · rw [mI_f q]
        exact h2 j (by omega)
  · rw [f_X12_goesOn_30, if_pos (Int32.le_refl _)]
theorem bet_lt {N : Mm} {x y : Nat} (h : bet N x) (h2 : ¬ bet N y) : x < y := by
  rcases h with h | ⟨L, l1, l2, l3⟩
  · exact absurd (Or.inl h) h2
  · exact Nat.lt_of_not_le fun z => h2 (Or.inr ⟨L, l1, l2, by omega⟩)
theorem bet_le {N : Mm} {x y : Nat} (h : bet N x) (h2 : y ≤ x) : bet N y := by
  rcases h with h | ⟨L, l1, l2, l3⟩
  · exact Or.inl h
  · exact Or.inr ⟨L, l1, l2, by omega⟩
theorem bet_same {N N' : Mm} {x : Nat} (h : mI N' 207 34 = mI N 207 34) : bet N' x ↔ bet N x := by
  unfold bet
  rw [h]
theorem bet_at {N : Mm} {x t : Nat} (ht : t < 1000000) (h : mI N 207 34 = nI t) : bet N x ↔ x < t := by
  unfold bet
  rw [h]
  constructor
  · rintro (z | ⟨L, l1, l2, l3⟩)
    · exact absurd z (neg1_ne ht)
    · have := (nI_eq' (by omega) (by omega)).mp l2
      omega
  · intro z
    exact Or.inr ⟨t, ht, rfl, z⟩
/-- what one house first comes to -/
def tot (c : Nat → Int32) (g mt f s h : Nat) : Nat := mt + (na c (141 + g) * (dst f (ppc c h) + wy (ppc c) (hN c) (ppc c h) (rmB s h)) + wkS (wwc c g) s (hN c))
def IG (c : Nat → Int32) (g n d mt f s : Nat) (Oc : Nat → Nat → Nat) (N0 : Mm) (h : Nat) (N : Mm) : Prop := FS S9 N0 N ∧ (∀ k, k ≠ 34 → mI N 207 k = mI N0 207 k) ∧ (∀ k, k < n → mI N 219 k = mI N0 219 k) ∧
  (((∀ j, j < h → s.testBit j = true → ¬ bet N0 (tot c g mt f s j)) ∧ mI N 207 34 = mI N0 207 34 ∧ mI N 218 = mI N0 218) ∨
   ∃ b, b < h ∧ s.testBit b = true ∧ bet N0 (tot c g mt f s b) ∧ (∀ j, j < h → s.testBit j = true → tot c g mt f s b ≤ tot c g mt f s j) ∧ (∀ j, j < b → s.testBit j = true → tot c g mt f s b < tot c g mt f s j) ∧ mI N 207 34 = nI (tot c g mt f s b) ∧ (∀ k, k < n → mI N 218 k = mI N0 219 k) ∧ mI N 218 n = nI b ∧ ∀ k, k < d → mI N 218 (n + 1 + k) = nI (Oc b k))
theorem IG_no {n d mt f s h : Nat} {Oc : Nat → Nat → Nat} {N0 N : Mm} (hI : IG c g n d mt f s Oc N0 h N) (hb : ¬ s.testBit h = true) : IG c g n d mt f s Oc N0 (h + 1) N := by
  obtain ⟨h1, h2, h3, h4⟩ := hI
  refine ⟨h1, h2, h3, ?_⟩
  have lt : ∀ j, j < h + 1 → s.testBit j = true → j < h := fun j hj hb2 => by
    have : j ≠ h := fun e => hb (by rw [← e]; exact hb2)
    omega
  rcases h4 with ⟨a1, a2⟩ | ⟨b, b1, b2, b3, b4, b5⟩
  · exact Or.inl ⟨fun j hj hb2 => a1 j (lt j hj hb2) hb2, a2⟩
  · exact Or.inr ⟨b, by omega, b2, b3, fun j hj hb2 => b4 j (lt j hj hb2) hb2, b5⟩
theorem IG_yes {n d mt f s h : Nat} {Oc : Nat → Nat → Nat} {N0 N N' : Mm} (hI : IG c g n d mt f s Oc N0 h N) (hb : s.testBit h = true) (htb : ∀ j, j < hN c → s.testBit j = true → tot c g mt f s j < 1000000) (hh : h < hN c) (hE : GEff (sI N 219 n (nI h)) N' (n + 1) d (tot c g mt f s h) (Oc h)) : IG c g n d mt f s Oc N0 (h + 1) N' := by
  obtain ⟨h1, h2, h3, h4⟩ := hI
  obtain ⟨e1, e2, e3, e4⟩ := hE
  have q34 : mI (sI N 219 n (nI h)) 207 34 = mI N 207 34 := by rw [mI_o (by decide)]
  refine ⟨(h1.sI (Or.inr (Or.inr rfl)) _ _).tr e1, fun k hk => ?_, fun k hk => ?_, ?_⟩
  · rw [e2 k hk, mI_o (by decide)]
    exact h2 k hk
  · rw [e3 k (by omega), mI_f (by omega)]
    exact h3 k hk
  · rcases e4 with ⟨f1, f2, f3, f4⟩ | ⟨f1, f2, f3⟩
    · rw [bet_same q34] at f1
      have g1 : ∀ k, k < n → mI N' 218 k = mI N0 219 k := fun k hk => by
        rw [f3 k (by omega), mI_f (by omega)]
        exact h3 k hk
      have g2 : mI N' 218 n = nI h := by
        rw [f3 n (by omega), mI_sI_s]
      right
      rcases h4 with ⟨a1, a2, a3⟩ | ⟨b, b1, b2, b3, b4, b5, b6, b7, b8, b9⟩
      · rw [bet_same a2] at f1
        refine ⟨h, by omega, hb, f1, fun j hj hb2 => ?_, fun j hj hb2 => bet_lt f1 (a1 j hj hb2), f2, g1, g2, f4⟩
        by_cases q : j = h
        · rw [q]; exact Nat.le_refl _
        · exact Nat.le_of_lt (bet_lt f1 (a1 j (by omega) hb2))
      · have f5 := (bet_at (htb b (by omega) b2) b6).mp f1
        refine ⟨h, by omega, hb, bet_le b3 (by omega), fun j hj hb2 => ?_, fun j hj hb2 => ?_, f2, g1, g2, f4⟩
        · by_cases q : j = h
          · rw [q]; exact Nat.le_refl _
          · have := b4 j (by omega) hb2
            omega
        · have := b4 j hj hb2
          omega
    · rw [bet_same q34] at f1
      rw [q34] at f2
      have g3 : mI N' 218 = mI N 218 := by rw [f3, mI_o (by decide)]
      rcases h4 with ⟨a1, a2, a3⟩ | ⟨b, b1, b2, b3, b4, b5, b6, b7, b8, b9⟩
      · left
        refine ⟨fun j hj hb2 => ?_, f2.trans a2, g3.trans a3⟩
        by_cases q : j = h
        · rw [q]
          exact fun z => f1 ((bet_same a2).mpr z)
        · exact a1 j (by omega) hb2
      · right
        refine ⟨b, by omega, b2, b3, fun j hj hb2 => ?_, b5, f2.trans b6, fun k hk => by rw [g3]; exact b7 k hk, by rw [g3]; exact b8, fun k hk => by rw [g3]; exact b9 k hk⟩
        by_cases q : j = h
        · rw [q]
          exact Nat.le_of_not_lt fun z => f1 ((bet_at (htb b (by omega) b2) b6).mpr z)
        · exact b4 j (by omega) hb2
theorem tot_bd (O : okC c) (hg : g < gN c) {mt f s h : Nat} (hm : mt ≤ 12672) (hf : f ≤ 60) (hh : h < hN c) : tot c g mt f s h ≤ 30000 := by
  have h8 := (ok_h O).2
  have b1 := (pb O hh).2
  have b2 := wy_bd O (s := rmB s h) b1
  have b3 : na c (141 + g) * (dst f (ppc c h) + wy (ppc c) (hN c) (ppc c h) (rmB s h)) ≤ 9 * 240 := Nat.mul_le_mul (gb O hg).2.1 (by unfold dst; omega)
  have b4 := wkS_le (s := s) (w := wwc c g) (B := 1044) (hN c) (fun k hk => (wb O hg hk).2.2)
  unfold tot
  omega
theorem tot_min {mt f s h : Nat} (hs : s < 256) (hb : s.testBit h = true) (hh : h < hN c) : mt + mS (ppc c) (wwc c g) f (na c (141 + g)) (hN c) s ≤ tot c g mt f s h := by
  have h1 := Nat.mul_le_mul_left (na c (141 + g)) (wy_le (p := ppc c) (f := f) (rm_bit (l := h) hs) hb hh)
  unfold tot
  unfold mS
  unfold wy at h1
  unfold wy
  omega
theorem tot_at {mt f s h : Nat} (hF : isF (ppc c) (na c (141 + g)) (hN c) f s h) : tot c g mt f s h = mt + mS (ppc c) (wwc c g) f (na c (141 + g)) (hN c) s := by
  unfold tot
  rw [hF.2.2.1]
  rfl
theorem tot_ne {mt f s h k : Nat} (hF : isF (ppc c) (na c (141 + g)) (hN c) f s h) (hk : k < h) (hb : s.testBit k = true) : tot c g mt f s k ≠ mt + mS (ppc c) (wwc c g) f (na c (141 + g)) (hN c) s := fun z => hF.2.2.2 k hk hb (by
  have z2 : mt + (na c (141 + g) * (dst f (ppc c k) + wy (ppc c) (hN c) (ppc c k) (rmB s k)) + wkS (wwc c g) s (hN c)) = mt + (na c (141 + g) * wy (ppc c) (hN c) f s + wkS (wwc c g) s (hN c)) := z
  omega)
theorem q_goes (O : okC c) (hg : g < gN c) : ∀ d D n f s o mt last (N : Mm), d < D → n + d ≤ 8 → md N c → wfL N → GO (ppc c) (na c (141 + g)) (hN c) d f s o → s < 256 → (∀ k, s.testBit k = true → k < hN c) → ((last = -1 ∧ f = na c (145 + g)) ∨ ∃ l, l < hN c ∧ last = nI l ∧ f = ppc c l) → mt ≤ 1584 * n → ∃ N', f_X12_goesOn D N (some 207) (nI g) (nI s) (nI n) last (nI mt) = some N' ∧ GEff N N' n d (mt + mS (ppc c) (wwc c g) f (na c (141 + g)) (hN c) s) o := by
  have h8 := (ok_h O).2
  have g4 := (ok_g O).2
  obtain ⟨gb1, gb2, gb3, gb4⟩ := gb O hg
  intro d
  induction d with
  | zero =>
    intro D n f s o mt last N hD hn DN hw hG hs hb hl hm
    cases D with
    | zero => omega
    | succ D =>
      have s0 : s = 0 := hG
      rw [s0, mS_0, Nat.add_zero]
      have leaf : ∃ N', f_X12_goesOn_21 (f_X12_goesOn D) N (some 207) (nI n) (nI mt) = some N' ∧ FS S9 N N' ∧ (∀ k, k ≠ 34 → mI N' 207 k = mI N 207 k) ∧ (∀ k, k < n → mI N' 219 k = mI N 219 k) ∧ mI N' 207 34 = nI mt ∧ ∀ k, k < n → mI N' 218 k = mI N 219 k := by
        have D1 : mdL (sI N 207 34 (nI mt)) := DN.1
        obtain ⟨N', e1, e2, e3⟩ := q_30 (f_X12_goesOn D) (n := n) (by omega) D1
        refine ⟨N', ?_, (FS.rf.sI (Or.inl rfl) _ _).tr (e2.mo fun x hx => Or.inr (Or.inl hx)), fun k hk => ?_, fun k hk => ?_, ?_, fun k hk => ?_⟩
        · unfold f_X12_goesOn_21
          rw [m_pI DN.1]
          exact e1
        · rw [e2.2.2.2.2 207 (by unfold P8; omega), mI_f hk]
        · rw [e2.2.2.2.2 219 (by unfold P8; omega), mI_o (by decide)]
        · rw [e2.2.2.2.2 207 (by unfold P8; omega), mI_sI_s]
        · rw [e3 k hk, mI_o (by decide)]
      rw [f_X12_goesOn]
      unfold g_X12_goesOn
      rw [if_pos (show nI 0 = 0 from rfl), m_gI DN.1]
      by_cases q : bet N mt
      · obtain ⟨N', e1, e2, e3, e4, e5, e6⟩ := leaf
        refine ⟨N', ?_, e2, e3, e4, Or.inl ⟨q, e5, e6, fun k hk => by omega⟩⟩
        rcases q with q | ⟨L, l1, l2, l3⟩
        · rw [q, if_pos neg1_lt]
          exact e1
        · rw [l2, if_neg (nI_pos (by omega)), m_gI DN.1, l2, if_pos (by rw [nI_ltI' (by omega) (by omega)]; exact l3)]
          exact e1
      · refine ⟨N, ?_, FS.rf, fun _ _ => rfl, fun _ _ => rfl, Or.inr ⟨q, rfl, rfl⟩⟩
        rcases hw with hw | ⟨L, l1, l2⟩
        · exact absurd (Or.inl hw) q
        · have : ¬ mt < L := fun z => q (Or.inr ⟨L, l1, l2, z⟩)
          rw [l2, if_neg (nI_pos (by omega)), m_gI DN.1, l2, if_neg (by rw [nI_ltI' (by omega) (by omega)]; exact this)]
  | succ d ih =>
    intro D n f s o mt last N hD hn DN hw hG hs hb hl hm
    cases D with
    | zero => omega
    | succ D =>
      obtain ⟨s0, hF, hG2⟩ := hG
      have hf : f ≤ 60 := by
        rcases hl with ⟨-, h⟩ | ⟨l, l1, -, h⟩
        · omega
        · have := (pb O l1).2
          omega
      have hcn : ∀ h, s.testBit h = true → cnt (rmB s h) = d := fun h hbh => by
        have e1 := cnt_rm hs hbh
        have e2 := cnt_rm hs hF.2.1
        have hle : rmB s (o 0) ≤ s := rm_le
        have e3 := GO_cnt d _ _ _ (by omega) hG2
        omega
      have hex : ∀ h, ∃ o', (s.testBit h = true → GO (ppc c) (na c (141 + g)) (hN c) d (ppc c h) (rmB s h) o') ∧ (h = o 0 → o' = fun k => o (k + 1)) := fun h => by
        by_cases q : h = o 0
        · subst q
          exact ⟨fun k => o (k + 1), fun _ => hG2, fun _ => rfl⟩
        · by_cases q2 : s.testBit h = true
          · have hle : rmB s h ≤ s := rm_le
            obtain ⟨o', ho'⟩ := GO_ex (p := ppc c) (q := na c (141 + g)) (n := hN c) d (ppc c h) (rmB s h) (by omega) (fun k hk => hb k ((rm_bit hs k).mp hk).1) (hcn h q2)
            exact ⟨o', fun _ => ho', fun z => absurd z q⟩
          · exact ⟨fun _ => 0, fun z => absurd z q2, fun z => absurd z q⟩
      obtain ⟨Oc, hOc⟩ : ∃ Oc : Nat → Nat → Nat, ∀ h, (s.testBit h = true → GO (ppc c) (na c (141 + g)) (hN c) d (ppc c h) (rmB s h) (Oc h)) ∧ (h = o 0 → Oc h = fun k => o (k + 1)) := ⟨fun h => Classical.choose (hex h), fun h => Classical.choose_spec (hex h)⟩
      have htb : ∀ j, j < hN c → s.testBit j = true → tot c g mt f s j < 1000000 := fun j hj _ => by
        have := tot_bd O hg (mt := mt) (s := s) (by omega) hf hj
        omega
      obtain ⟨N', e1, e2⟩ : ∃ N', f_X12_goesOn_60 (f_X12_goesOn D) fu N (some 207) (nI g) (nI s) (nI n) last (nI mt) (nI 0) = some N' ∧ IG c g n d mt f s Oc N (hN c) N' := by
        refine lupE0 (fun i N' h => f_X12_goesOn_60 (f_X12_goesOn D) i N' (some 207) (nI g) (nI s) (nI n) last (nI mt) (nI h)) (fun h N' => IG c g n d mt f s Oc N h N') (hN c) (fun N' => some N') (by omega) (fun i h X hh hI => ?_) (fun i X hI => ?_) N ⟨FS.rf, fun _ _ => rfl, fun _ _ => rfl, Or.inl ⟨fun j hj => by omega, rfl, rfl⟩⟩
        · have DX : md X c := hI.1.mdc (by unfold S9; omega) DN
          rw [f_X12_goesOn_60, m_r20 DX.1, m_c0 DX, if_neg (hc_in O hh), q_hasN X (by omega) (by omega), bd_s]
          by_cases q : s.testBit h = true
          · have D1 : md (sI X 219 n (nI h)) c := md_sI DX (by decide)
            have w1 : wfL (sI X 219 n (nI h)) := by
              have q34 : mI (sI X 219 n (nI h)) 207 34 = mI X 207 34 := by rw [mI_o (by decide)]
              unfold wfL
              rw [q34]
              rcases hI.2.2.2 with ⟨-, a2, -⟩ | ⟨b, b1, b2, b3, b4, b5, b6, -⟩
              · rw [a2]; exact hw
              · exact Or.inr ⟨_, htb b (by omega) b2, b6⟩
            have hle : rmB s h ≤ s := rm_le
            have p1 := pb O hh
            have hwl := (wb O hg hh).2.2
            have hqd : na c (141 + g) * dst f (ppc c h) ≤ 9 * 60 := Nat.mul_le_mul gb2 (by unfold dst; omega)
            have hwk := wkS_rm (w := wwc c g) (rm_bit (l := h) hs) q (hN c)
            rw [if_pos hh] at hwk
            obtain ⟨N1, e1, e2⟩ := ih D (n + 1) (ppc c h) (rmB s h) (Oc h) ((mt + na c (141 + g) * dst f (ppc c h)) + wwc c g h) (nI h) (sI X 219 n (nI h)) (by omega) (by omega) D1 w1 ((hOc h).1 q) (by omega) (fun k hk => hb k ((rm_bit hs k).mp hk).1) (Or.inr ⟨h, hh, rfl, rfl⟩) (by omega)
            have eT : ((mt + na c (141 + g) * dst f (ppc c h)) + wwc c g h) + mS (ppc c) (wwc c g) (ppc c h) (na c (141 + g)) (hN c) (rmB s h) = tot c g mt f s h := by
              unfold tot mS wy
              rw [Nat.mul_add]
              omega
            rw [eT] at e2
            refine ⟨N1, ?_, IG_yes hI q htb hh e2⟩
            rw [if_pos q, if_neg (by decide), m_r32 DX.1, s219 DX.1 (by omega)]
            have hst : ∀ v, v = nI (na c (141 + g) * dst f (ppc c h)) → f_X12_goesOn_132 (f_X12_goesOn D) (f_X12_goesOn_60 (f_X12_goesOn D) i) (sI X 219 n (nI h)) (some 207) (nI g) (nI s) (nI n) last (nI mt) (nI h) (some 207) (nI g) (nI s &&& ((1 <<< (nI h &&& 31)) ^^^ (-1))) (nI n + 1) (nI h) (nI mt) v = f_X12_goesOn_60 (f_X12_goesOn D) i N1 (some 207) (nI g) (nI s) (nI n) last (nI mt) (nI (h + 1)) := fun v hv => by
              rw [f_X12_goesOn_132, m_ck D1.1, q_lift D1 O hg hh, bd_s, m_ck D1.1, hv, rm_nI (by omega), nI_1, nI_add, nI_add, e1, bv_s, f_X12_goesOn_144, nI_1]
            rcases hl with ⟨l1, l2⟩ | ⟨l, l1, l2, l3⟩
            · have hw3 := mul_nI3 c O hg hh
              rw [if_neg (by rw [l1]; decide), m_ck D1.1, q_walk D1 (by omega) (by omega), bd_s]
              refine hst _ ?_
              rw [hw3.1, l2]
              rfl
            · rw [if_pos (by rw [l2]; exact nI_pos' (by omega)), m_ck D1.1, l2, q_btw D1 O hg l1 hh, bd_s, ← l2]
              refine hst _ ?_
              rw [l3]
          · refine ⟨X, ?_, IG_no hI q⟩
            rw [if_neg q, if_pos rfl, f_X12_goesOn_144, nI_1]
        · have DX : md X c := hI.1.mdc (by unfold S9; omega) DN
          rw [f_X12_goesOn_60, m_r20 DX.1, m_c0 DX, if_pos (hc_out O)]
      refine ⟨N', ?_, ?_⟩
      · rw [f_X12_goesOn]
        unfold g_X12_goesOn
        rw [if_neg (fun z => s0 ((nI_z (by omega)).mp z))]
        exact e1
      · obtain ⟨h1, h2, h3, h4⟩ := e2
        have t0 := tot_at (c := c) (g := g) (mt := mt) hF
        refine ⟨h1, h2, h3, ?_⟩
        rcases h4 with ⟨a1, a2⟩ | ⟨b, b1, b2, b3, b4, b5, b6, b7, b8, b9⟩
        · refine Or.inr ⟨?_, a2⟩
          rw [← t0]
          exact a1 _ hF.1 hF.2.1
        · have k1 := b4 _ hF.1 hF.2.1
          have k2 := tot_min (g := g) (mt := mt) (f := f) hs b2 b1
          have eb : b = o 0 := by
            rcases Nat.lt_trichotomy b (o 0) with z | z | z
            · exact absurd (by omega) (tot_ne (c := c) (g := g) (mt := mt) hF z b2)
            · exact z
            · have := b5 _ z hF.2.1
              omega
          subst eb
          rw [t0] at b3 b6
          refine Or.inl ⟨b3, b6, b7, fun k hk => ?_⟩
          cases k with
          | zero => exact b8
          | succ k =>
            rw [show n + (k + 1) = n + 1 + k by omega, b9 k (by omega), (hOc (o 0)).2 rfl]
end G
theorem op_soonest (x w : Int32) : opI (fun M => f_X11_soonest M (some 0) x w) (fun M => f_X12_soonest M (some 207) x w) := by
  intro M hR
  obtain ⟨a, b, y, z, H⟩ := id hR
  have hL := H.1
  have S := H.2.1
  have O := S.2.2
  have h8 := (ok_h O).2
  have g4 := (ok_g O).2
  have e2n : (1 : Int32) <<< (mI M 212 0 &&& 31) = nI (2 ^ hN (mI M 212)) := by
    rw [(ok_h O).1]
    exact bitB_nI (by omega)
  have p256 : 2 ^ hN (mI M 212) ≤ 2 ^ 8 := Nat.pow_le_pow_right (by omega) h8
  by_cases q : 0 ≤ x ∧ x ≤ mI M 212 1 - 1
  · obtain ⟨g, hg, rfl⟩ := gIx O q
    by_cases q2 : 0 ≤ w ∧ w ≤ nI (2 ^ hN (mI M 212)) - 1
    · obtain ⟨s, hs, rfl⟩ := (in_ix (by omega)).mp q2
      by_cases q3 : sub (mI M 212) s
      · have ha := ll_a hL
        have P := pl_of hL
        have hs2 : s < 256 := by omega
        have hsb := (sub_bit hs2).mp q3
        have gbb := gb O hg
        have hcw : cnt s ≤ 1 * 8 := wkS_le 8 (fun _ _ => Nat.le_refl 1)
        obtain ⟨o, hG⟩ := GO_ex (p := ppc (mI M 212)) (q := na (mI M 212) (141 + g)) (n := hN (mI M 212)) (cnt s) (na (mI M 212) (145 + g)) s hs2 (fun k hk => (hsb k hk).1) rfl
        obtain ⟨M1, e1, F1, h1, h2⟩ := p_findOrder S ha P hg hs2 (by omega) hG
        have hL1 : LL M1 a b y z := LL_same hL F1.1 F1.2.2.1 F1.2.2.2.1
        have S1 : shO M1 a (mI M 212) := F1.sho (fun x h1 h2 => by unfold PO; omega) S
        have P1 := pl_of hL1
        have i1 : mI M1 212 = mI M 212 := F1.2.2.2.2 212 (by unfold PO; omega)
        have D := pre_md hL1 0
        rw [i1] at D
        have DA : md (sI (sI (pre M1 0) 207 34 (-1)) 207 33 (nI (cnt s))) (mI M 212) := md_sI (md_sI D (by decide)) (by decide)
        have wA : mI (sI (sI (pre M1 0) 207 34 (-1)) 207 33 (nI (cnt s))) 207 34 = -1 := by rw [mI_f (by decide), mI_sI_s]
        obtain ⟨N, f1, f2, f3, f4, f5⟩ := q_goes O hg (cnt s) 12 0 (na (mI M 212) (145 + g)) s o 0 (-1) (sI (sI (pre M1 0) 207 34 (-1)) 207 33 (nI (cnt s))) (by omega) (by omega) DA (Or.inl wA) hG hs2 (fun k hk => (hsb k hk).1) (Or.inl ⟨rfl, rfl⟩) (by omega)
        rw [Nat.zero_add] at f5
        rcases f5 with ⟨-, k1, -, k2⟩ | ⟨k0, -⟩
        · have DN : md N (mI M 212) := f2.mdc (by unfold S9; omega) DA
          refine ⟨nI (sSm (mI M 212) g s), sI M1 0 0 0, N, ?_, ?_, ?_⟩
          · dsimp only
            unfold f_X11_soonest
            rw [c_ck hL, c_isGang hL S, bd_s, if_pos q, if_neg (by decide), if_neg (nI_pos (by omega)), c_sh hL, e_hc S, e2n, if_pos (by rw [nI_ltI' (by omega) (by omega)]; exact hs), c_sh hL, lc_s S.1, p_open S, bd_s, (u_set O).1, if_pos ((sub_nI hs2).mpr q3), c_pl hL, c_sh hL, pl_ck P, e1, bv_s, c_pl hL1, c_sh hL1, pl_ck P1, p_minF S1 (by rw [P1.1]) hg hs2, bd_s, c_ck hL1, c_answer hL1, bd_s]
          · dsimp only
            unfold f_X12_soonest
            rw [m_pre hL1, m_ck D.1, q_isGang D, bd_s, if_pos q, if_neg (by decide), m_r20 D.1, m_c0 D, e2n]
            simp (disch := omega) only [↓q_isIn, j0, j1, u1, u3, u4, u5, u8, u9, u20, u60, u99, u100, u240, u9999, ite01z, not_true_eq_false, not_false_eq_true, if_true, if_false, z10, ul, eq_true q2, ↓bd_s]
            rw [m_ck D.1, q_onSet D O, bd_s, (u_set O).1, if_pos ((sub_nI hs2).mpr q3), m_pI D.1, q_size, bd_s, pop_cnt hs2, m_pI (M := sI (pre M1 0) 207 34 (-1)) D.1, m_ck DA.1]
            rw [show (nI 0 : Int32) = 0 from rfl] at f1
            rw [f1, bv_s, m_gI DN.1, k1]
            rfl
          · obtain ⟨a, b, y, z, H⟩ := RR_st hR 0
            refine ⟨a, b, y, z, RA_pl H (f2.1.trans F1.1) (f2.2.1.trans F1.2.1) (f2.2.2.1.trans F1.2.2.1) (f2.2.2.2.1.trans F1.2.2.2.1) (fun x x1 x2 x3 x4 => ?_) (fun k hk => ?_) (fun k k1 k2 k3 => ?_) ?_⟩
            · rw [f2.2.2.2.2 x (by unfold S9; omega), mI_o x2, mI_o x2, pre_x 0 (F1.2.2.2.2 x (by unfold PO; omega))]
              rfl
            · rw [f2.2.2.2.2 0 (by unfold S9; omega), mI_o (by decide), mI_o (by decide), pre_x 0 (F1.2.2.2.2 0 (by unfold PO; omega))]
              rfl
            · rw [f3 k k3, mI_f k2, mI_f k3, pre_x 0 (F1.2.2.2.2 207 (by unfold PO; omega))]
              rfl
            · have hp := H.2.2.2.2.2.2.2.2.2.2.1
              have u0 : mI N 0 = mI (stM M 0) 0 := by
                rw [f2.2.2.2.2 0 (by unfold S9; omega), mI_o (by decide), mI_o (by decide), pre_x 0 (F1.2.2.2.2 0 (by unfold PO; omega))]
                rfl
              have u30 : mI N 207 30 = mI (stM M 0) 207 30 := by
                rw [f3 30 (by decide), mI_f (by decide), mI_f (by decide), pre_x 0 (F1.2.2.2.2 207 (by unfold PO; omega))]
                rfl
              have u33 : mI N 207 33 = nI (cnt s) := by
                rw [f3 33 (by decide), mI_sI_s]
              have u88 : mI N 88 1 = nI (cnt s) := by
                rw [f2.2.2.2.2 88 (by unfold S9; omega), mI_o (by decide), mI_o (by decide)]
                unfold pre
                rw [mI_o (by decide), mI_o (by decide), mI_o (by decide)]
                exact h1
              have u89 : mI N 89 = mI M1 89 := by
                rw [f2.2.2.2.2 89 (by unfold S9; omega), mI_o (by decide), mI_o (by decide)]
                unfold pre
                rw [mI_o (by decide), mI_o (by decide), mI_o (by decide)]
              unfold rPl at *
              rw [u0, u30, u33, u88, u89]
              refine ⟨hp.1, hp.2.1, Or.inr ⟨cnt s, by omega, rfl, rfl, fun k hk => ?_⟩⟩
              rw [h2 k hk]
              have := k2 k hk
              rw [Nat.zero_add] at this
              exact this.symm
        · exact absurd (Or.inl wA) k0
      · have n3 : ¬ (nI s &&& (nI (uN (mI M 212)) ^^^ (-1))) = 0 := fun z => q3 ((sub_nI (by omega)).mp z)
        refine ⟨-1, sI M 0 0 9, stM M 9, ?_, ?_, RR_st hR 9⟩
        · dsimp only
          unfold f_X11_soonest
          rw [c_ck hL, c_isGang hL S, bd_s, if_pos q, if_neg (by decide), if_neg (nI_pos (by omega)), c_sh hL, e_hc S, e2n, if_pos (by rw [nI_ltI' (by omega) (by omega)]; exact hs), c_sh hL, lc_s S.1, p_open S, bd_s, (u_set O).1, if_neg n3, c_ck hL, c_none hL, bd_s]
        · have D := pre_md hL 9
          dsimp only
          unfold f_X12_soonest
          rw [m_pre hL, m_ck D.1, q_isGang D, bd_s, if_pos q, if_neg (by decide), m_r20 D.1, m_c0 D, e2n]
          simp (disch := omega) only [↓q_isIn, j0, j1, u1, u3, u4, u5, u8, u9, u20, u60, u99, u100, u240, u9999, ite01z, not_true_eq_false, not_false_eq_true, if_true, if_false, z10, ul, eq_true q2, ↓bd_s]
          rw [m_ck D.1, q_onSet D O, bd_s, (u_set O).1, if_neg n3, m_ck D.1, m_refuse hL, bd_s]
          rfl
    · refine ⟨-1, sI M 0 0 5, stM M 5, ?_, ?_, RR_st hR 5⟩
      · dsimp only
        unfold f_X11_soonest
        rw [c_ck hL, c_isGang hL S, bd_s, if_pos q, if_neg (by decide)]
        by_cases q4 : w < 0
        · rw [if_pos q4, f_X11_soonest_31, c_ck hL, c_none hL, bd_s]
        · obtain ⟨n, hn, rfl⟩ := nI_of q4
          have : ¬ n < 2 ^ hN (mI M 212) := fun z => q2 ((in_ix (by omega)).mpr ⟨n, z, rfl⟩)
          rw [if_neg q4, c_sh hL, e_hc S, e2n, if_neg (by rw [nI_ltI' (by omega) (by omega)]; exact this), f_X11_soonest_31, c_ck hL, c_none hL, bd_s]
      · have D := pre_md hL 5
        dsimp only
        unfold f_X12_soonest
        rw [m_pre hL, m_ck D.1, q_isGang D, bd_s, if_pos q, if_neg (by decide), m_r20 D.1, m_c0 D, e2n]
        simp (disch := omega) only [↓q_isIn, j0, j1, u1, u3, u4, u5, u8, u9, u20, u60, u99, u100, u240, u9999, ite01z, not_true_eq_false, not_false_eq_true, if_true, if_false, z10, ul, eq_false q2, ↓bd_s]
        rw [m_ck D.1, m_refuse hL, bd_s]
        rfl
  · refine ⟨-1, sI M 0 0 2, stM M 2, ?_, ?_, RR_st hR 2⟩
    · dsimp only
      unfold f_X11_soonest
      rw [c_ck hL, c_isGang hL S, bd_s, if_neg q, if_pos rfl, c_ck hL, c_none hL, bd_s]
    · have D := pre_md hL 2
      dsimp only
      unfold f_X12_soonest
      rw [m_pre hL, m_ck D.1, q_isGang D, bd_s, if_neg q, if_pos rfl, m_ck D.1, m_refuse hL, bd_s]
      rfl
