/-! A MINUTE OF A GANG -/
theorem hand_cases {c : Nat → Int32} {g : Nat} (O : okC c) (hg : g < gN c) : (c (149 + g) = -1 ∧ c (153 + g) = 0 ∧ c (157 + g) = 0) ∨ ∃ h, h < hN c ∧ c (149 + g) = nI h ∧ isOn c h ∧ na c (149 + g) = h := by
  obtain ⟨-, -, -, -, h6, h7, h8⟩ := O.2.2.2.2.2.2.2.1 g hg
  rcases h8 with ⟨a1, a2, a3⟩ | ⟨a1, a2, a3⟩
  · refine Or.inl ⟨a1, ?_, ?_⟩
    · rw [h6.1, a2]; rfl
    · rw [h7.1, a3]; rfl
  · exact Or.inr ⟨_, a2, a1.1, a3, rfl⟩
theorem hand_uni {c : Nat → Int32} {g h : Nat} (O : okC c) (hg : g < gN c) (hh : h < hN c) (e : c (149 + g) = nI h) : ∀ g', g' < gN c → g' ≠ g → ¬ c (149 + g') = nI h := by
  intro g' hg' hne z
  have h8 := (ok_h O).2
  have := O.2.2.2.2.2.2.2.2.2 g' g hg' hg hne (z.trans e.symm)
  rw [z] at this
  exact neg1_ne (by omega) this
/-- a gang with a house at hand: its way, its piece are written -/
theorem okC_work {c c' : Nat → Int32} {g h : Nat} (O : okC c) (hg : g < gN c) (hh : h < hN c) (e : c (149 + g) = nI h) (on : isOn c h) (ho : ∀ k, k ≠ 153 + g → k ≠ 157 + g → c' k = c k) (b1 : bdd c' (153 + g) 0 540) (b2 : bdd c' (157 + g) 0 116) : okC c' := by
  have h8 := (ok_h O).2
  have g4 := (ok_g O).2
  obtain ⟨⟨h1, h2⟩, h3, h4, h5, h6, h7, -⟩ := O.2.2.2.2.2.2.2.1 g hg
  have e9 : c' (149 + g) = nI h := (ho _ (by omega) (by omega)).trans e
  have e0 : ∀ k, k < 153 → c' k = c k := fun k hk => ho k (by omega) (by omega)
  refine okC_gang O hg (fun k k1 k2 k3 k4 => ho k k3 k4) ?_ (Or.inr fun g' hg' hne => by rw [e9]; exact hand_uni O hg hh e g' hg' hne)
  have hH : hN c' = hN c := na_same (e0 0 (by omega))
  refine ⟨⟨bdd_same (e0 _ (by omega)) h1, by rw [na_same (e0 _ (by omega)), hH]; exact h2⟩, bdd_same (e0 _ (by omega)) h3, bdd_same (e0 _ (by omega)) h4, bdd_same (e0 _ (by omega)) h5, b1, b2, Or.inr ⟨bdd_of e9 (by omega) (by omega) (by omega), by rw [na_of e9 (by omega), hH]; exact hh, ?_⟩⟩
  rw [na_of e9 (by omega)]
  exact ⟨(e0 _ (by omega)).trans on.1, by rw [e0 _ (by omega)]; exact on.2⟩
theorem on_pos {c : Nat → Int32} {h : Nat} (O : okC c) (hh : h < hN c) (on : isOn c h) : c (53 + h) = nI (na c (53 + h)) ∧ 1 ≤ na c (53 + h) ∧ na c (53 + h) ≤ 9 ∧ na c (61 + h) = 1 := by
  obtain ⟨-, -, -, -, -, -, p7, p8, -⟩ := O.2.2.2.2.2.1 h hh
  refine ⟨p7.1, ?_, p7.2.2, na_of (n := 1) on.1 (by omega)⟩
  have := on.2
  rw [p7.1, show (0 : Int32) = nI 0 from rfl, nI_ltI' (by omega) (by have := p7.2.2; omega)] at this
  exact this
theorem okC_dbt {c : Nat → Int32} {g h : Nat} (O : okC c) (hg : g < gN c) (hh : h < hN c) : okC (dbt c g h) := by
  unfold dbt
  by_cases q : c (133 + g) = nI h
  · rw [if_pos q]; exact O
  · rw [if_neg q]
    obtain ⟨⟨h1, h2⟩, -⟩ := O.2.2.2.2.2.2.2.1 g hg
    have b := O.2.2.2.2.2.2.1 h _ hh h2
    have e : mnI 9999 (c (69 + 8 * h + na c (133 + g)) + 1) = nI (min 9999 (na c (69 + 8 * h + na c (133 + g)) + 1)) := by
      conv => lhs; rw [b.1]
      have := b.2.2
      rw [nI_1, show (9999 : Int32) = nI 9999 from rfl, mn_nI (by omega) (by omega)]
    rw [e]
    exact okC_debt O hh h2 (by omega)
theorem okC_fin {c : Nat → Int32} {g h : Nat} (O : okC c) (hg : g < gN c) (hh : h < hN c) (e : c (149 + g) = nI h) (on : isOn c h) (h1 : na c (53 + h) = 1) : okC (fin c g h) := by
  have h8 := (ok_h O).2
  have g4 := (ok_g O).2
  obtain ⟨o1, o2, o3, o4⟩ := on_pos O hh on
  have O2 := okC_drops O hg
  have hH : hN (drops c g) = hN c := na_same (drops_o (by omega) (by omega) (by omega))
  have hG : gN (drops c g) = gN c := na_same (drops_o (by omega) (by omega) (by omega))
  have e53 : fin c g h (53 + h) = nI 0 := by
    unfold fin
    rw [pk_us, o1, h1]; rfl
  have e61 : fin c g h (61 + h) = nI 1 := by
    unfold fin
    rw [pk_un (by omega), drops_o (by omega) (by omega) (by omega), on.1]; rfl
  refine okC_house O2 (by rw [hH]; exact hh) (fun k k1 k2 => pk_un k1) ⟨bdd_of e53 (by omega) (by omega) (by omega), bdd_of e61 (by omega) (by omega) (by omega), by rw [na_of e53 (by omega)]; omega, fun z => by rw [na_of e61 (by omega)] at z; omega⟩ (Or.inr fun g' hg' z => ?_)
  rw [hG] at hg'
  by_cases q : g' = g
  · subst q
    rw [drops_9] at z
    exact neg1_ne (by omega) z.symm
  · rw [drops_o (by omega) (by omega) (by omega)] at z
    exact hand_uni O hg hh e g' hg' q z
theorem le0_pred {n : Nat} (h1 : 1 ≤ n) (h2 : n < 1000000) : (nI n - 1 ≤ 0) ↔ n = 1 := by
  rw [show (1 : Int32) = nI 1 from rfl, nI_sub h1, show (0 : Int32) = nI 0 from rfl, nI_leI' (by omega) (by omega)]
  omega
theorem okC_m98 {c : Nat → Int32} {g h : Nat} (O : okC c) (hg : g < gN c) (hh : h < hN c) (e : c (149 + g) = nI h) (on : isOn c h) (hp : 1 ≤ na c (157 + g)) : okC (m98 c g h).1 := by
  have h8 := (ok_h O).2
  have g4 := (ok_g O).2
  obtain ⟨-, -, -, -, h6, h7, -⟩ := O.2.2.2.2.2.2.2.1 g hg
  obtain ⟨o1, o2, o3, o4⟩ := on_pos O hh on
  have e1 : c (157 + g) - 1 = nI (na c (157 + g) - 1) := by
    conv => lhs; rw [h7.1]
    rw [show (1 : Int32) = nI 1 from rfl, nI_sub hp]
  have e2 : c (53 + h) - 1 = nI (na c (53 + h) - 1) := by
    conv => lhs; rw [o1]
    rw [show (1 : Int32) = nI 1 from rfl, nI_sub o2]
  have O1 : okC (upd c (157 + g) (c (157 + g) - 1)) := by
    refine okC_work O hg hh e on (fun k k1 k2 => pk_un k2) (bdd_same (pk_un (by omega)) h6) (bdd_of (pk_us.trans e1) (by omega) (by have := h7.2.2; omega) (by omega))
  unfold m98
  by_cases q1 : c (157 + g) - 1 ≤ 0
  · rw [if_pos q1]
    by_cases q2 : c (53 + h) - 1 ≤ 0
    · rw [if_pos q2]
      rw [o1, le0_pred o2 (by omega)] at q2
      have O3 := okC_fin O hg hh e on q2
      have e0 : ∀ k, k < 53 → fin c g h k = c k := fun k hk => (pk_un (by omega)).trans (drops_o (by omega) (by omega) (by omega))
      exact okC_dbt O3 (by rw [show gN (fin c g h) = gN c from na_same (e0 1 (by omega))]; exact hg) (by rw [show hN (fin c g h) = hN c from na_same (e0 0 (by omega))]; exact hh)
    · rw [if_neg q2]
      rw [o1, le0_pred o2 (by omega)] at q2
      have e53 : upd (upd c (157 + g) (c (157 + g) - 1)) (53 + h) (c (53 + h) - 1) (53 + h) = nI (na c (53 + h) - 1) := pk_us.trans e2
      have e61 : upd (upd c (157 + g) (c (157 + g) - 1)) (53 + h) (c (53 + h) - 1) (61 + h) = nI 1 := by
        rw [pk_un (by omega), pk_un (by omega), on.1]; rfl
      have hH : hN (upd c (157 + g) (c (157 + g) - 1)) = hN c := na_same (pk_un (by omega))
      have p9 := (O.2.2.2.2.2.1 h hh).2.2.2.2.2.2.2.2.1
      refine okC_house O1 (by rw [hH]; exact hh) (fun k k1 k2 => pk_un k1) ⟨bdd_of e53 (by omega) (by omega) (by omega), bdd_of e61 (by omega) (by omega) (by omega), ?_, fun z => by rw [na_of e61 (by omega)] at z; omega⟩ (Or.inl ⟨e61, ?_⟩)
      · rw [na_of e53 (by omega), na_same (show upd c (157 + g) (c (157 + g) - 1) (21 + h) = c (21 + h) from pk_un (by omega))]
        omega
      · show (0 : Int32) < upd (upd c (157 + g) (c (157 + g) - 1)) (53 + h) (c (53 + h) - 1) (53 + h)
        rw [e53, show (0 : Int32) = nI 0 from rfl, nI_ltI' (by omega) (by omega)]
        omega
  · rw [if_neg q1]
    exact O1
theorem okC_bgn {c : Nat → Int32} {g h : Nat} (O : okC c) (hg : g < gN c) (hh : h < hN c) (e : c (149 + g) = nI h) (on : isOn c h) : okC (bgn c g h) ∧ 1 ≤ na (bgn c g h) (157 + g) ∧ (∀ k, k ≠ 157 + g → bgn c g h k = c k) := by
  obtain ⟨-, -, -, -, h6, h7, -⟩ := O.2.2.2.2.2.2.2.1 g hg
  obtain ⟨t1, t2, t3⟩ := takes_nI c O hg hh
  unfold bgn
  by_cases q : c (157 + g) = 0
  · rw [if_pos q]
    refine ⟨okC_work O hg hh e on (fun k k1 k2 => pk_un k2) (bdd_same (pk_un (by omega)) h6) (bdd_of (pk_us.trans t1) (by omega) t3 (by omega)), ?_, fun k hk => pk_un hk⟩
    rw [na_of (pk_us.trans t1) (by omega)]
    exact t2
  · rw [if_neg q]
    refine ⟨O, ?_, fun _ _ => rfl⟩
    rcases Nat.eq_zero_or_pos (na c (157 + g)) with z | z
    · exact absurd (by rw [h7.1, z]; rfl) q
    · exact z
theorem okC_m30 {c : Nat → Int32} {g h : Nat} (O : okC c) (hg : g < gN c) (hh : h < hN c) (e : c (149 + g) = nI h) (on : isOn c h) : okC (m30 c g).1 := by
  have h8 := (ok_h O).2
  obtain ⟨-, -, -, -, h6, h7, -⟩ := O.2.2.2.2.2.2.2.1 g hg
  have en : na c (149 + g) = h := na_of e (by omega)
  unfold m30
  rw [en]
  by_cases q : c (153 + g) ≤ 0
  · rw [if_pos q]
    obtain ⟨O1, p1, o1⟩ := okC_bgn O hg hh e on
    have hH : hN (bgn c g h) = hN c := na_same (o1 0 (by omega))
    have hG : gN (bgn c g h) = gN c := na_same (o1 1 (by omega))
    exact okC_m98 O1 (by rw [hG]; exact hg) (by rw [hH]; exact hh) ((o1 _ (by omega)).trans e) ⟨(o1 _ (by omega)).trans on.1, by rw [o1 _ (by omega)]; exact on.2⟩ p1
  · rw [if_neg q]
    have hp : 1 ≤ na c (153 + g) := by
      rcases Nat.eq_zero_or_pos (na c (153 + g)) with z | z
      · exact absurd (by rw [h6.1, z]; exact Int32.le_refl _) q
      · exact z
    have e1 : c (153 + g) - 1 = nI (na c (153 + g) - 1) := by
      conv => lhs; rw [h6.1]
      rw [show (1 : Int32) = nI 1 from rfl, nI_sub hp]
    exact okC_work O hg hh e on (fun k k1 k2 => pk_un k1) (bdd_of (pk_us.trans e1) (by omega) (by have := h6.2.2; omega) (by omega)) (bdd_same (pk_un (by omega)) h7)
theorem fb_pos {c : Nat → Int32} {g n : Nat} (h : 0 ≤ (fb c g n).1) : ∃ b, b < n ∧ (fb c g n).1 = nI b ∧ canT c g b := by
  rcases fb_inv c g n with q | ⟨b, h1, h2, -, h3⟩
  · rw [q] at h
    exact absurd h (by decide)
  · exact ⟨b, h1, h2, h3⟩
theorem okC_minu {c : Nat → Int32} {g : Nat} (O : okC c) (hg : g < gN c) : okC (minu c g).1 := by
  have h8 := (ok_h O).2
  unfold minu
  by_cases q : 0 ≤ c (149 + g)
  · rw [if_pos q]
    rcases hand_cases O hg with ⟨h1, -⟩ | ⟨h, hh, e, on, -⟩
    · rw [h1] at q
      exact absurd q (by decide)
    · exact okC_m30 O hg hh e on
  · rw [if_neg q]
    by_cases q2 : 0 ≤ (fb c g (hN c)).1
    · rw [if_pos q2]
      obtain ⟨b, hb, e, hc⟩ := fb_pos q2
      rw [e, nI_cl (by omega)]
      have e0 : ∀ k, k < 145 → takesUp c g b k = c k := fun k hk => take_o (by omega) (by omega) (by omega) (by omega)
      have hH : hN (takesUp c g b) = hN c := na_same (e0 0 (by omega))
      have hG : gN (takesUp c g b) = gN c := na_same (e0 1 (by omega))
      exact okC_m30 (okC_take O hg hb hc) (by rw [hG]; exact hg) (by rw [hH]; exact hb) (take_9 c g b) ⟨(e0 _ (by omega)).trans hc.1.1, by rw [e0 _ (by omega)]; exact hc.1.2⟩
    · rw [if_neg q2]
      exact O
/-- cells that an hour does not write -/
def sS (c c' : Nat → Int32) : Prop := ∀ k, (k < 53 ∨ (61 ≤ k ∧ k < 69) ∨ (133 ≤ k ∧ k < 145) ∨ 161 ≤ k) → c' k = c k
theorem sS.rf {c : Nat → Int32} : sS c c := fun _ _ => rfl
theorem sS.tr {c c' c'' : Nat → Int32} (h : sS c c') (h2 : sS c' c'') : sS c c'' := fun k hk => (h2 k hk).trans (h k hk)
theorem sS.up {c c' : Nat → Int32} {k : Nat} {v : Int32} (h : sS c c') (hk : (53 ≤ k ∧ k < 61) ∨ (69 ≤ k ∧ k < 133) ∨ (145 ≤ k ∧ k < 161)) : sS c (upd c' k v) := fun j hj => (pk_un (by omega)).trans (h j hj)
theorem sS.h {c c' : Nat → Int32} (h : sS c c') : hN c' = hN c := na_same (h 0 (by omega))
theorem sS.g {c c' : Nat → Int32} (h : sS c c') : gN c' = gN c := na_same (h 1 (by omega))
theorem sS.w {c c' : Nat → Int32} (h : sS c c') : wN c' = wN c := na_same (h 2 (by omega))
theorem sS_drops {c : Nat → Int32} {g : Nat} (hg : g < 4) : sS c (drops c g) := ((sS.rf.up (by omega)).up (by omega)).up (by omega)
theorem sS_take {c : Nat → Int32} {g h : Nat} (hg : g < 4) : sS c (takesUp c g h) := (((sS.rf.up (by omega)).up (by omega)).up (by omega)).up (by omega)
theorem sS_dbt {c : Nat → Int32} {g h : Nat} (h8 : h < 8) (hb : na c (133 + g) < 8) : sS c (dbt c g h) := by
  unfold dbt
  by_cases q : c (133 + g) = nI h
  · rw [if_pos q]; exact sS.rf
  · rw [if_neg q]; exact sS.rf.up (by omega)
theorem sS_m98 {c : Nat → Int32} {g h : Nat} (hg : g < 4) (h8 : h < 8) (hb : na c (133 + g) < 8) : sS c (m98 c g h).1 := by
  unfold m98
  by_cases q1 : c (157 + g) - 1 ≤ 0
  · rw [if_pos q1]
    by_cases q2 : c (53 + h) - 1 ≤ 0
    · rw [if_pos q2]
      have h1 : sS c (fin c g h) := (sS_drops hg).up (by omega)
      exact h1.tr (sS_dbt h8 (by rw [na_same (h1 _ (by omega))]; exact hb))
    · rw [if_neg q2]
      exact (sS.rf.up (by omega)).up (by omega)
  · rw [if_neg q1]
    exact sS.rf.up (by omega)
theorem sS_m30 {c : Nat → Int32} {g : Nat} (hg : g < 4) (h8 : na c (149 + g) < 8) (hb : na c (133 + g) < 8) : sS c (m30 c g).1 := by
  unfold m30
  by_cases q : c (153 + g) ≤ 0
  · rw [if_pos q]
    have h1 : sS c (bgn c g (na c (149 + g))) := by
      unfold bgn
      by_cases q : c (157 + g) = 0
      · rw [if_pos q]; exact sS.rf.up (by omega)
      · rw [if_neg q]; exact sS.rf
    exact h1.tr (sS_m98 hg h8 (by rw [na_same (h1 _ (by omega))]; exact hb))
  · rw [if_neg q]
    exact sS.rf.up (by omega)
theorem home_8 {c : Nat → Int32} {g : Nat} (O : okC c) (hg : g < gN c) : na c (133 + g) < 8 := by
  have h8 := (ok_h O).2
  have := (O.2.2.2.2.2.2.2.1 g hg).1.2
  omega
theorem sS_minu {c : Nat → Int32} {g : Nat} (O : okC c) (hg : g < gN c) : sS c (minu c g).1 := by
  have h8 := (ok_h O).2
  have g4 := (ok_g O).2
  have hb := home_8 O hg
  unfold minu
  by_cases q : 0 ≤ c (149 + g)
  · rw [if_pos q]
    rcases hand_cases O hg with ⟨h1, -⟩ | ⟨h, hh, e, on, en⟩
    · rw [h1] at q
      exact absurd q (by decide)
    · exact sS_m30 (by omega) (by omega) hb
  · rw [if_neg q]
    by_cases q2 : 0 ≤ (fb c g (hN c)).1
    · rw [if_pos q2]
      obtain ⟨b, hb2, e, hc⟩ := fb_pos q2
      rw [e, nI_cl (by omega)]
      have h1 : sS c (takesUp c g b) := sS_take (by omega)
      exact h1.tr (sS_m30 (by omega) (by rw [na_of (take_9 c g b) (by omega)]; omega) (by rw [na_same (h1 _ (by omega))]; exact hb))
    · rw [if_neg q2]
      exact sS.rf
