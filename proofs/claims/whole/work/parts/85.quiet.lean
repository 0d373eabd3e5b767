/-! QUIET MINUTES: nothing but work -/
/-- the cells of ways and pieces alone differ -/
def wkd (c c' : Nat → Int32) : Prop := ∀ k, k < 153 ∨ 161 ≤ k → c' k = c k
theorem wkd.rf {c : Nat → Int32} : wkd c c := fun _ _ => rfl
theorem wkd.s {c c' : Nat → Int32} (h : wkd c c') : sS c c' := fun k hk => h k (by omega)
theorem due_same {c c' : Nat → Int32} (h : wkd c c') (h8 : hN c ≤ 8) {i : Nat} (hi : i < 8) : due c' i = due c i := by
  unfold due
  rw [h.s.h]
  exact sm_cong fun k hk => by rw [h _ (by omega), h _ (by omega)]
theorem canT_same {c c' : Nat → Int32} (h : wkd c c') (g4 : gN c ≤ 4) {g i : Nat} (hi : i < 8) : canT c' g i ↔ canT c g i := by
  unfold canT isOn free
  rw [h.s.g, h _ (by omega), h _ (by omega)]
  constructor
  · rintro ⟨h1, h2⟩
    exact ⟨h1, fun g' a b z => h2 g' a b (by rw [h _ (by omega)]; exact z)⟩
  · rintro ⟨h1, h2⟩
    exact ⟨h1, fun g' a b z => h2 g' a b (by rw [← h _ (by omega)]; exact z)⟩
theorem rank_same {c c' : Nat → Int32} (h : wkd c c') (h8 : hN c ≤ 8) {g i : Nat} (hi : i < 8) (hg : g < 4) : rank c' g i = rank c g i := by
  unfold rank
  rw [h 3 (by omega), h _ (by omega), due_same h h8 hi, h _ (by omega), h (5 + i) (by omega)]
theorem fb_same {c c' : Nat → Int32} (h : wkd c c') (h8 : hN c ≤ 8) (g4 : gN c ≤ 4) {g : Nat} (hg : g < 4) : ∀ n, n ≤ 8 → fb c' g n = fb c g n
  | 0, _ => rfl
  | n + 1, hn => by
    have ih := fb_same h h8 g4 hg n (by omega)
    unfold fb
    rw [ih, rank_same h h8 (by omega) hg]
    by_cases q : canT c g n
    · rw [if_pos q, if_pos ((canT_same h g4 (by omega)).mpr q)]
    · rw [if_neg q, if_neg (fun z => q ((canT_same h g4 (by omega)).mp z))]
/-- so many minutes of work of a gang's way, of its piece -/
def wayA (c : Nat → Int32) (g n : Nat) : Int32 := nI (na c (153 + g) - n)
def pieA (c : Nat → Int32) (g n : Nat) : Int32 := if na c (153 + g) < n then nI (na (fun _ => pcs c g) 0 - (n - na c (153 + g))) else c (157 + g)
/-- work of all gangs for n minutes, of the first j gangs -/
def wkA (c : Nat → Int32) (n j : Nat) : Nat → Int32 := fun k => if 153 ≤ k ∧ k < 153 + j ∧ 0 ≤ c (k - 4) then wayA c (k - 153) n else if 157 ≤ k ∧ k < 157 + j ∧ 0 ≤ c (k - 8) then pieA c (k - 157) n else c k
theorem wkA_o {c : Nat → Int32} {n j : Nat} (hj : j ≤ 4) {k : Nat} (h : k < 153 ∨ 161 ≤ k) : wkA c n j k = c k := by
  unfold wkA
  rw [if_neg (by omega), if_neg (by omega)]
theorem wkA_w {c : Nat → Int32} {n j g : Nat} (hj : j ≤ 4) (hg : g < 4) : wkA c n j (153 + g) = if g < j ∧ 0 ≤ c (149 + g) then wayA c g n else c (153 + g) := by
  unfold wkA
  rw [show 153 + g - 4 = 149 + g by omega, show 153 + g - 153 = g by omega]
  by_cases q : g < j ∧ 0 ≤ c (149 + g)
  · rw [if_pos ⟨by omega, by omega, q.2⟩, if_pos q]
  · rw [if_neg (fun z => q ⟨by omega, z.2.2⟩), if_neg q, if_neg (by omega)]
theorem wkA_p {c : Nat → Int32} {n j g : Nat} (hj : j ≤ 4) (hg : g < 4) : wkA c n j (157 + g) = if g < j ∧ 0 ≤ c (149 + g) then pieA c g n else c (157 + g) := by
  unfold wkA
  rw [show 157 + g - 8 = 149 + g by omega, show 157 + g - 157 = g by omega, if_neg (by omega)]
  by_cases q : g < j ∧ 0 ≤ c (149 + g)
  · rw [if_pos ⟨by omega, by omega, q.2⟩, if_pos q]
  · rw [if_neg (fun z => q ⟨by omega, z.2.2⟩), if_neg q]
theorem wkA_d {c : Nat → Int32} {n j : Nat} (hj : j ≤ 4) : wkd c (wkA c n j) := fun _ hk => wkA_o hj hk
theorem wkA_0 {c : Nat → Int32} {n : Nat} : wkA c n 0 = c := by
  funext k
  unfold wkA
  rw [if_neg (by omega), if_neg (by omega)]
/-- the piece's minutes as a number -/
def pN (c : Nat → Int32) (g : Nat) : Nat := na (fun _ => pcs c g) 0
theorem pN_hand {c : Nat → Int32} {g h : Nat} (O : okC c) (hg : g < gN c) (hh : h < hN c) (e : c (149 + g) = nI h) (on : isOn c h) : pcs c g = nI (pN c g) ∧ 1 ≤ pN c g ∧ pN c g ≤ 116 := by
  have h8 := (ok_h O).2
  obtain ⟨OB, pB, oB⟩ := okC_bgn O hg hh e on
  have bp := bgn_p (c := c) (g := g) e (show h < 8 by omega)
  have hB := OB.2.2.2.2.2.2.2.1 g (by rw [show gN (bgn c g h) = gN c from na_same (oB 1 (by omega))]; exact hg)
  have p7 := hB.2.2.2.2.2.1
  have e1 : pcs c g = nI (na (bgn c g h) (157 + g)) := by rw [← bp]; exact p7.1
  have e2 : pN c g = na (bgn c g h) (157 + g) := by
    unfold pN
    exact na_of e1 (by have := p7.2.2; omega)
  rw [e2]
  exact ⟨e1, pB, p7.2.2⟩
theorem neg_hand {c : Nat → Int32} {g : Nat} (O : okC c) (hg : g < gN c) : ¬ 0 ≤ c (149 + g) ↔ c (149 + g) = -1 := by
  have h8 := (ok_h O).2
  rcases hand_cases O hg with ⟨h1, -⟩ | ⟨h, hh, e, -⟩
  · rw [h1]; decide
  · rw [e]
    exact ⟨fun z => absurd (nI_pos' (by omega)) z, fun z => absurd z (neg1_ne (by omega))⟩
/-- a quiet minute of one gang -/
theorem minu_q {c : Nat → Int32} {g : Nat} (O : okC c) (hg : g < gN c) (h1 : 0 ≤ c (149 + g) → 1 < na c (153 + g) + pN c g) (h2 : ¬ 0 ≤ c (149 + g) → ¬ 0 ≤ (fb c g (hN c)).1) : minu c g = (fun k => if k = 153 + g ∧ 0 ≤ c (149 + g) then wayA c g 1 else if k = 157 + g ∧ 0 ≤ c (149 + g) then pieA c g 1 else c k, 0) := by
  have h8 := (ok_h O).2
  have g4 := (ok_g O).2
  unfold minu
  by_cases q : 0 ≤ c (149 + g)
  · rw [if_pos q]
    have h3 := h1 q
    rcases hand_cases O hg with ⟨z, -⟩ | ⟨h, hh, e, on, en⟩
    · rw [z] at q
      exact absurd q (by decide)
    · obtain ⟨p1, p2, p3⟩ := pN_hand O hg hh e on
      obtain ⟨-, -, -, -, h6, h7, -⟩ := O.2.2.2.2.2.2.2.1 g hg
      unfold m30
      rw [en]
      by_cases q1 : c (153 + g) ≤ 0
      · have w0 : na c (153 + g) = 0 := by
          rw [h6.1, show (0 : Int32) = nI 0 from rfl, nI_leI' (by have := h6.2.2; omega) (by omega)] at q1
          omega
        have bp := bgn_p (c := c) (g := g) e (show h < 8 by omega)
        have e1 : bgn c g h (157 + g) - 1 = nI (pN c g - 1) := by rw [bp, p1, show (1 : Int32) = nI 1 from rfl, nI_sub p2]
        rw [if_pos q1]
        unfold m98
        rw [e1, if_neg (by rw [show (0 : Int32) = nI 0 from rfl, nI_leI' (by omega) (by omega)]; omega)]
        refine Prod.ext (funext fun k => ?_) rfl
        show upd (bgn c g h) (157 + g) (nI (pN c g - 1)) k = _
        dsimp only
        by_cases k1 : k = 157 + g
        · subst k1
          rw [pk_us, if_neg (by omega), if_pos ⟨rfl, q⟩]
          unfold pieA
          rw [if_pos (by omega), w0]
          rfl
        · rw [pk_un k1, if_neg (show ¬ (k = 157 + g ∧ 0 ≤ c (149 + g)) from fun z => k1 z.1)]
          have : bgn c g h k = c k := by
            unfold bgn
            by_cases z : c (157 + g) = 0
            · rw [if_pos z, pk_un k1]
            · rw [if_neg z]
          rw [this]
          by_cases k2 : k = 153 + g
          · subst k2
            rw [if_pos ⟨rfl, q⟩]
            unfold wayA
            rw [w0, h6.1, w0]
          · rw [if_neg (fun z => k2 z.1)]
      · have w1 : 1 ≤ na c (153 + g) := by
          rw [h6.1, show (0 : Int32) = nI 0 from rfl, nI_leI' (by have := h6.2.2; omega) (by omega)] at q1
          omega
        rw [if_neg q1]
        refine Prod.ext (funext fun k => ?_) rfl
        show upd c (153 + g) (c (153 + g) - 1) k = _
        dsimp only
        by_cases k2 : k = 153 + g
        · subst k2
          rw [pk_us, if_pos ⟨rfl, q⟩]
          unfold wayA
          conv => lhs; rw [h6.1]
          rw [show (1 : Int32) = nI 1 from rfl, nI_sub w1]
        · rw [pk_un k2, if_neg (fun z => k2 z.1)]
          by_cases k1 : k = 157 + g
          · subst k1
            rw [if_pos ⟨rfl, q⟩]
            unfold pieA
            rw [if_neg (by omega)]
          · rw [if_neg (fun z => k1 z.1)]
  · rw [if_neg q, if_neg (h2 q)]
    refine Prod.ext (funext fun k => ?_) rfl
    show c k = _
    dsimp only
    rw [if_neg (fun z => q z.2), if_neg (fun z => q z.2)]
/-- quiet for n minutes -/
def qui (c : Nat → Int32) (n : Nat) : Prop := ∀ g, g < gN c → (0 ≤ c (149 + g) → n < na c (153 + g) + pN c g) ∧ (¬ 0 ≤ c (149 + g) → 0 < n → ¬ 0 ≤ (fb c g (hN c)).1)
/-- work keeps well -/
theorem wkA_ok {c : Nat → Int32} (O : okC c) {n : Nat} (Q : qui c n) : ∀ {j : Nat}, j ≤ gN c → okC (wkA c n j)
  | 0, _ => by rw [wkA_0]; exact O
  | j + 1, hj => by
    have h8 := (ok_h O).2
    have g4 := (ok_g O).2
    have ih := wkA_ok O Q (j := j) (by omega)
    have hg : j < gN c := by omega
    have hW := wkA_d (c := c) (n := n) (j := j) (by omega)
    by_cases q : 0 ≤ c (149 + j)
    · rcases hand_cases O hg with ⟨z, -⟩ | ⟨h, hh, e, on, en⟩
      · rw [z] at q
        exact absurd q (by decide)
      · obtain ⟨p1, p2, p3⟩ := pN_hand O hg hh e on
        obtain ⟨-, -, -, -, h6, h7, -⟩ := O.2.2.2.2.2.2.2.1 j hg
        refine okC_work (g := j) (h := h) ih (by rw [hW.s.g]; exact hg) (by rw [hW.s.h]; exact hh) ((hW _ (by omega)).trans e) ⟨(hW _ (by omega)).trans on.1, by rw [hW _ (by omega)]; exact on.2⟩ (fun k k1 k2 => ?_) ?_ ?_
        · by_cases z : k < 153 ∨ 161 ≤ k
          · rw [wkA_o (by omega) z, wkA_o (by omega) z]
          · by_cases z2 : k < 157
            · obtain ⟨i, rfl⟩ : ∃ i, k = 153 + i := ⟨k - 153, by omega⟩
              rw [wkA_w (by omega) (by omega), wkA_w (by omega) (by omega)]
              have : i < j + 1 ↔ i < j := by omega
              simp only [this]
            · obtain ⟨i, rfl⟩ : ∃ i, k = 157 + i := ⟨k - 157, by omega⟩
              rw [wkA_p (by omega) (by omega), wkA_p (by omega) (by omega)]
              have : i < j + 1 ↔ i < j := by omega
              simp only [this]
        · have : wkA c n (j + 1) (153 + j) = nI (na c (153 + j) - n) := by rw [wkA_w (by omega) (by omega), if_pos ⟨by omega, q⟩]; rfl
          exact bdd_of this (by omega) (by have := h6.2.2; omega) (by omega)
        · have Qj := (Q j hg).1 q
          by_cases z : na c (153 + j) < n
          · have : wkA c n (j + 1) (157 + j) = nI (pN c j - (n - na c (153 + j))) := by
              rw [wkA_p (by omega) (by omega), if_pos ⟨by omega, q⟩]
              unfold pieA
              rw [if_pos z]
              rfl
            exact bdd_of this (by omega) (by omega) (by omega)
          · have : wkA c n (j + 1) (157 + j) = c (157 + j) := by
              rw [wkA_p (by omega) (by omega), if_pos ⟨by omega, q⟩]
              unfold pieA
              rw [if_neg z]
            exact bdd_same this h7
    · have : wkA c n (j + 1) = wkA c n j := by
        funext k
        by_cases z : k < 153 ∨ 161 ≤ k
        · rw [wkA_o (by omega) z, wkA_o (by omega) z]
        · by_cases z2 : k < 157
          · obtain ⟨i, rfl⟩ : ∃ i, k = 153 + i := ⟨k - 153, by omega⟩
            rw [wkA_w (by omega) (by omega), wkA_w (by omega) (by omega)]
            by_cases y : i = j
            · subst y
              rw [if_neg (fun z => q z.2), if_neg (by omega)]
            · have : i < j + 1 ↔ i < j := by omega
              simp only [this]
          · obtain ⟨i, rfl⟩ : ∃ i, k = 157 + i := ⟨k - 157, by omega⟩
            rw [wkA_p (by omega) (by omega), wkA_p (by omega) (by omega)]
            by_cases y : i = j
            · subst y
              rw [if_neg (fun z => q z.2), if_neg (by omega)]
            · have : i < j + 1 ↔ i < j := by omega
              simp only [this]
      rw [this]
      exact ih
