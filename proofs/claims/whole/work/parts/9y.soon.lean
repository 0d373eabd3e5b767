/-! SOONEST: the way on from the first -/
def wy (p : Nat → Nat) (n f s : Nat) : Nat := dS (loS p f s n) (hiS p f s n) f
section Wy
variable {p w : Nat → Nat} {f s r l e n q : Nat}
theorem loS_mn : ∀ n, loS p (min f e) s n = min (loS p f s n) e
  | 0 => rfl
  | n + 1 => by
    have h := loS_mn n
    rw [loS, loS, h]
    by_cases q : s.testBit n = true
    · rw [if_pos q, if_pos q]; omega
    · rw [if_neg q, if_neg q]
theorem hiS_mx : ∀ n, hiS p (max f e) s n = max (hiS p f s n) e
  | 0 => rfl
  | n + 1 => by
    have h := hiS_mx n
    rw [hiS, hiS, h]
    by_cases q : s.testBit n = true
    · rw [if_pos q, if_pos q]; omega
    · rw [if_neg q, if_neg q]
theorem wy_ov (hr : ∀ k, r.testBit k = true ↔ s.testBit k = true ∧ k ≠ l) (hl : s.testBit l = true) (ln : l < n) : loS p f s n = min (loS p (p l) r n) f ∧ hiS p f s n = max (hiS p (p l) r n) f := by
  rw [loS_rm hr hl n, if_pos ln, hiS_rm hr hl n, if_pos ln, ← loS_mn, ← hiS_mx, Nat.min_comm f (p l), Nat.max_comm f (p l), loS_mn, hiS_mx]
  exact ⟨rfl, rfl⟩
theorem wy_le (hr : ∀ k, r.testBit k = true ↔ s.testBit k = true ∧ k ≠ l) (hl : s.testBit l = true) (ln : l < n) : wy p n f s ≤ dst f (p l) + wy p n (p l) r := by
  obtain ⟨e1, e2⟩ := wy_ov (p := p) (f := f) hr hl ln
  have b1 := loS_f (p := p) (f := p l) (s := r) n
  have b2 := hiS_f (p := p) (f := p l) (s := r) n
  unfold wy dS dst
  rw [e1, e2]
  omega
theorem wy_ex (hs : s < 256) (hne : ∃ k, k < n ∧ s.testBit k = true) : ∃ l, l < n ∧ s.testBit l = true ∧ wy p n f s = dst f (p l) + wy p n (p l) (rmB s l) := by
  obtain ⟨k0, hk0, hb0⟩ := hne
  have m1 : ∃ l, l < n ∧ s.testBit l = true ∧ ∀ k, k < n → s.testBit k = true → p l ≤ p k := by
    rcases loS_at (p := p) (f := p k0) (s := s) n with h | ⟨l, a1, a2, a3⟩
    · exact ⟨k0, hk0, hb0, fun k hk hb => by have := loS_k (p := p) (f := p k0) hb n hk; omega⟩
    · exact ⟨l, a1, a2, fun k hk hb => by rw [a3]; exact loS_k hb n hk⟩
  have m2 : ∃ l, l < n ∧ s.testBit l = true ∧ ∀ k, k < n → s.testBit k = true → p k ≤ p l := by
    rcases hiS_at (p := p) (f := p k0) (s := s) n with h | ⟨l, a1, a2, a3⟩
    · exact ⟨k0, hk0, hb0, fun k hk hb => by have := hiS_k (p := p) (f := p k0) hb n hk; omega⟩
    · exact ⟨l, a1, a2, fun k hk hb => by rw [a3]; exact hiS_k hb n hk⟩
  obtain ⟨l1, a1, a2, a3⟩ := m1
  obtain ⟨l2, b1, b2, b3⟩ := m2
  have at1 : ∀ l, l < n → s.testBit l = true → loS p (p l) (rmB s l) n = p l1 ∧ hiS p (p l) (rmB s l) n = p l2 := fun l hl hb => by
    have rb := rm_bit (l := l) hs
    have c1 := loS_f (p := p) (f := p l) (s := rmB s l) n
    have c2 := hiS_f (p := p) (f := p l) (s := rmB s l) n
    have c3 := a3 l hl hb
    have c4 := b3 l hl hb
    constructor
    · refine Nat.le_antisymm ?_ ?_
      · by_cases q : l1 = l
        · rw [q]; exact c1
        · exact loS_k ((rb l1).mpr ⟨a2, q⟩) n a1
      · rcases loS_at (p := p) (f := p l) (s := rmB s l) n with h | ⟨k, d1, d2, d3⟩
        · omega
        · rw [← d3]
          exact a3 k d1 ((rb k).mp d2).1
    · refine Nat.le_antisymm ?_ ?_
      · rcases hiS_at (p := p) (f := p l) (s := rmB s l) n with h | ⟨k, d1, d2, d3⟩
        · omega
        · rw [← d3]
          exact b3 k d1 ((rb k).mp d2).1
      · by_cases q : l2 = l
        · rw [q]; exact c2
        · exact hiS_k ((rb l2).mpr ⟨b2, q⟩) n b1
  obtain ⟨e1, e2⟩ := wy_ov (p := p) (f := f) (rm_bit (l := l1) hs) a2 a1
  obtain ⟨f1, f2⟩ := at1 l1 a1 a2
  obtain ⟨g1, g2⟩ := at1 l2 b1 b2
  rw [f1] at e1
  rw [f2] at e2
  have h12 := a3 l2 b1 b2
  have key : dS (min (p l1) f) (max (p l2) f) f = dst f (p l1) + dS (p l1) (p l2) (p l1) ∨ dS (min (p l1) f) (max (p l2) f) f = dst f (p l2) + dS (p l1) (p l2) (p l2) := by
    unfold dS dst
    omega
  rcases key with h | h
  · refine ⟨l1, a1, a2, ?_⟩
    unfold wy
    rw [e1, e2, f1, f2]
    exact h
  · refine ⟨l2, b1, b2, ?_⟩
    unfold wy
    rw [e1, e2, g1, g2]
    exact h
/-- the first by numbers from which a shortest way goes on -/
def isF (p : Nat → Nat) (q n f s h : Nat) : Prop := h < n ∧ s.testBit h = true ∧ q * (dst f (p h) + wy p n (p h) (rmB s h)) = q * wy p n f s ∧ ∀ k, k < h → s.testBit k = true → ¬ q * (dst f (p k) + wy p n (p k) (rmB s k)) = q * wy p n f s
theorem isF_ex (hs : s < 256) (hne : ∃ k, k < n ∧ s.testBit k = true) : ∃ h, isF p q n f s h := by
  obtain ⟨l, h1, h2, h3⟩ := wy_ex (p := p) (f := f) hs hne
  obtain ⟨b, ⟨b1, b2, b3⟩, hmin⟩ := pk_least (fun k => k < n ∧ s.testBit k = true ∧ q * (dst f (p k) + wy p n (p k) (rmB s k)) = q * wy p n f s) ⟨l, h1, h2, by rw [h3]⟩
  exact ⟨b, b1, b2, b3, fun k hk hb z => hmin k hk ⟨by omega, hb, z⟩⟩
/-- that order -/
def GO (p : Nat → Nat) (q n : Nat) : Nat → Nat → Nat → (Nat → Nat) → Prop
  | 0, _, s, _ => s = 0
  | d + 1, f, s, o => s ≠ 0 ∧ isF p q n f s (o 0) ∧ GO p q n d (p (o 0)) (rmB s (o 0)) (fun k => o (k + 1))
def cnt (s : Nat) : Nat := wkS (fun _ => 1) s 8
theorem wkS_ge {k : Nat} (hb : s.testBit k = true) : ∀ m, k < m → w k ≤ wkS w s m
  | 0, h => by omega
  | m + 1, h => by
    rw [wkS]
    by_cases e : k = m
    · subst e
      rw [if_pos hb]; omega
    · have h2 := wkS_ge hb m (by omega)
      by_cases e2 : s.testBit m = true
      · rw [if_pos e2]; omega
      · rw [if_neg e2]; exact h2
theorem cnt_0 (hs : s < 256) (h : cnt s = 0) : s = 0 := by
  refine Classical.byContradiction fun z => ?_
  obtain ⟨k, hk⟩ := nz_bit z
  have h1 := wkS_ge (w := fun _ => 1) hk 8 (bit_8 hs hk)
  unfold cnt at h
  omega
theorem cnt_rm (hs : s < 256) (hl : s.testBit l = true) : cnt s = cnt (rmB s l) + 1 := by
  have h := wkS_rm (w := fun _ => 1) (rm_bit (l := l) hs) hl 8
  rw [if_pos (bit_8 hs hl)] at h
  exact h
theorem GO_ex : ∀ d f s, s < 256 → (∀ k, s.testBit k = true → k < n) → cnt s = d → ∃ o, GO p q n d f s o
  | 0, f, s, hs, hb, hc => ⟨fun _ => 0, cnt_0 hs hc⟩
  | d + 1, f, s, hs, hb, hc => by
    have h0 : s ≠ 0 := fun z => by
      rw [z] at hc
      unfold cnt at hc
      rw [wkS_0] at hc
      omega
    obtain ⟨k, hk⟩ := nz_bit h0
    obtain ⟨h, hh⟩ := isF_ex (p := p) (q := q) (f := f) hs ⟨k, hb k hk, hk⟩
    have hle : rmB s h ≤ s := rm_le
    have hcr := cnt_rm hs hh.2.1
    obtain ⟨o, ho⟩ := GO_ex d (p h) (rmB s h) (by omega) (fun k hk => hb k ((rm_bit hs k).mp hk).1) (by omega)
    exact ⟨fun k => match k with
      | 0 => h
      | j + 1 => o j, h0, hh, ho⟩
theorem GO_cnt : ∀ d f s o, s < 256 → GO p q n d f s o → cnt s = d
  | 0, f, s, o, hs, h => by
    rw [show s = 0 from h]
    unfold cnt
    exact wkS_0 8
  | d + 1, f, s, o, hs, h => by
    obtain ⟨h0, h1, h2⟩ := h
    have hle : rmB s (o 0) ≤ s := rm_le
    rw [cnt_rm hs h1.2.1, GO_cnt d _ _ _ (by omega) h2]
end Wy
theorem pop_cnt {s : Nat} (hs : s < 256) : pop (nI s) = nI (cnt s) := by
  have h : ∀ m, m ≤ 8 → sm (fun k => if hasB (nI s) k then 1 else 0) m = nI (wkS (fun _ => 1) s m) := by
    intro m
    induction m with
    | zero => intro _; rfl
    | succ m ih =>
      intro hm
      rw [sm, ih (by omega), wkS]
      by_cases q : s.testBit m = true
      · rw [if_pos ((hasB_nI (by omega) (by omega)).mpr q), if_pos q, nI_1]
      · rw [if_neg (fun z => q ((hasB_nI (by omega) (by omega)).mp z)), if_neg q]
        exact nI_add _ 0
  exact h 8 (by omega)
theorem has0 {s k : Nat} (hs : s < 2147483648) (hk : k < 31) : ((nI s >>> (nI k &&& 31)) &&& 1) = 0 ↔ ¬ s.testBit k = true := by
  have h := hasB_nI hs hk
  unfold hasB at h
  rw [← h]
  rw [pk_shrN hs _ k (shs hk)]
  have h2 : s / 2 ^ k ≤ s := Nat.div_le_self _ _
  rw [pk_andN (by omega) 1 (by decide), show (1 : Int32) = nI 1 from rfl, show (0 : Int32) = nI 0 from rfl, nI_eq' (by omega) (by omega), nI_eq' (by omega) (by omega)]
  omega
def PO (x : Nat) : Prop := x = 88 ∨ x = 89
section G
variable {M : Mm} {c : Nat → Int32} {a g : Nat}
theorem wy_bd (O : okC c) {f s : Nat} (hf : f ≤ 60) : wy (ppc c) (hN c) f s ≤ 180 := by
  have a1 := loS_f (p := ppc c) (f := f) (s := s) (hN c)
  have a2 := hiS_f (p := ppc c) (f := f) (s := s) (hN c)
  have a3 := hiS_le (s := s) (p := ppc c) hf (hN c) (fun k hk => (pb O hk).2)
  unfold wy dS
  omega
theorem p_wayW (S : shO M a c) {f s : Nat} (hf : f ≤ 60) (hs : s < 256) (l0 : Option Nat) : f_X3_shortestWay M l0 (some a) (nI f) (nI s) = some (nI (wy (ppc c) (hN c) f s), M) := p_way S hf hs l0
theorem p_begins (S : shO M a c) (P : plL M) {q f s h V : Nat} (hq : q ≤ 9) (hf : f ≤ 60) (hs : s < 256) (hh : h < hN c) (hV : V ≤ 180) : f_X3_beginsShortest M (some 88) (some a) (nI h) (nI q) (nI f) (nI s) (nI V) = some (if s.testBit h = true ∧ q * (dst f (ppc c h) + wy (ppc c) (hN c) (ppc c h) (rmB s h)) = q * V then 1 else 0, M) := by
  have O := S.2.2
  have h8 := (ok_h O).2
  have b1 := (pb O hh).2
  have b2 := wy_bd O (s := rmB s h) b1
  have b3 : q * (dst f (ppc c h) + wy (ppc c) (hN c) (ppc c h) (rmB s h)) ≤ 9 * 240 := Nat.mul_le_mul hq (by unfold dst; omega)
  have b4 : q * V ≤ 9 * 180 := Nat.mul_le_mul hq hV
  have hle : rmB s h ≤ s := rm_le
  unfold f_X3_beginsShortest g_X3_beginsShortest
  by_cases q1 : s.testBit h = true
  · rw [if_neg (fun z => (has0 (by omega) (by omega)).mp z q1), e_hs S, e_h S (h_8 S hh), e_hat S hh, pl_ck P, rm_nI (by omega), (pb O hh).1, p_wayW S b1 (by omega), bd_s, abI_dst (by omega) (by omega), nI_add, nmI_s, nI_mul, nI_mul]
    by_cases q2 : q * (dst f (ppc c h) + wy (ppc c) (hN c) (ppc c h) (rmB s h)) = q * V
    · rw [if_pos (congrArg nI q2), zc1, if_pos ⟨q1, q2⟩]
    · rw [if_neg (fun z => q2 ((nI_eq' (by omega) (by omega)).mp z)), zc0, if_neg (fun z => q2 z.2)]
  · rw [if_pos ((has0 (by omega) (by omega)).mpr q1), if_neg (fun z => q1 z.1), zc0]
theorem p_firstOn (S : shO M a c) (P : plL M) {q f s h : Nat} (hq : q ≤ 9) (hf : f ≤ 60) (hs : s < 256) (hF : isF (ppc c) q (hN c) f s h) : f_X3_firstOnShortestWay M (some 88) (some a) (nI q) (nI f) (nI s) = some (nI h, M) := by
  have O := S.2.2
  have h8 := (ok_h O).2
  obtain ⟨f1, f2, f3, f4⟩ := hF
  have hV := wy_bd O (s := s) hf
  unfold f_X3_firstOnShortestWay
  rw [pl_ck P, p_wayW S hf hs, bd_s]
  refine lup0 (fun i k => f_X3_firstOnShortestWay_13 i M (some 88) (some a) (nI q) (nI f) (nI s) (nI (wy (ppc c) (hN c) f s)) (nI k)) h _ (by omega) (fun i k hk => ?_) (fun i => ?_)
  · rw [f_X3_firstOnShortestWay_13, e_hc S, (ok_h O).1, show (1 : Int32) = nI 1 from rfl, nI_sub (by omega), if_neg (by rw [nI_leI' (by omega) (by omega)]; omega), pl_ck P, p_begins S P hq hf hs (by omega) hV, bd_s, if_pos (ite01z.mpr (fun z => f4 k hk z.1 z.2)), nI_add]
  · rw [f_X3_firstOnShortestWay_13, e_hc S, (ok_h O).1, show (1 : Int32) = nI 1 from rfl, nI_sub (by omega)]
    by_cases q1 : hN c - 1 ≤ h
    · rw [if_pos (by rw [nI_leI' (by omega) (by omega)]; exact q1)]
    · rw [if_neg (by rw [nI_leI' (by omega) (by omega)]; exact q1), pl_ck P, p_begins S P hq hf hs f1 hV, bd_s, if_neg (fun e => ite01z.mp e ⟨f2, f3⟩)]
theorem p_find33 (ha : a = 12 ∨ a = 43) {q : Nat} (hq : q ≤ 9) : ∀ d i k f s o (N : Mm), d < i → shO N a c → plL N → GO (ppc c) q (hN c) d f s o → f ≤ 60 → s < 256 → k + d ≤ 8 → mI N 88 1 = nI k → ∃ N', f_X3_findOrder_33 i N (some 88) (some a) (nI q) (nI f) (nI s) (nI k) = some N' ∧ FS PO N N' ∧ mI N' 88 1 = nI (k + d) ∧ (∀ j, j < k → mI N' 89 j = mI N 89 j) ∧ ∀ j, j < d → mI N' 89 (k + j) = nI (o j) := by
  intro d
  induction d with
  | zero =>
    intro i k f s o N hi S P hG hf hs hk hc
    cases i with
    | zero => omega
    | succ i =>
      refine ⟨N, ?_, FS.rf, hc, fun _ _ => rfl, fun j hj => by omega⟩
      rw [f_X3_findOrder_33]
      by_cases q1 : (8 : Int32) ≤ nI k
      · rw [if_pos q1]
      · rw [if_neg q1, if_pos ((nI_z (by omega)).mpr hG)]
  | succ d ih =>
    intro i k f s o N hi S P hG hf hs hk hc
    cases i with
    | zero => omega
    | succ i =>
      have O := S.2.2
      have h8 := (ok_h O).2
      obtain ⟨g0, g1, g2⟩ := hG
      have hle : rmB s (o 0) ≤ s := rm_le
      have ho := g1.1
      obtain ⟨N1, hN1⟩ : ∃ N1, sI N 89 k (nI (o 0)) = N1 := ⟨_, rfl⟩
      have F1 : FS PO N N1 := by rw [← hN1]; exact FS.rf.sI (Or.inr rfl) _ _
      have c1 : mI N1 88 1 = nI k := by rw [← hN1, mI_o (by decide)]; exact hc
      have v1 : ∀ j, j < k → mI N1 89 j = mI N 89 j := fun j hj => by rw [← hN1, mI_f (by omega)]
      have w1 : mI N1 89 k = nI (o 0) := by rw [← hN1, mI_sI_s]
      have P1 := FS_pl F1 P
      obtain ⟨N2, hN2⟩ : ∃ N2, sI N1 88 1 (nI (k + 1)) = N2 := ⟨_, rfl⟩
      have F2 : FS PO N N2 := by rw [← hN2]; exact F1.sI (Or.inl rfl) _ _
      have S2 : shO N2 a c := F2.sho (fun x h1 h2 => by unfold PO; omega) S
      have P2 := FS_pl F2 P
      have c2 : mI N2 88 1 = nI (k + 1) := by rw [← hN2, mI_sI_s]
      have v2 : ∀ j, mI N2 89 j = mI N1 89 j := fun j => by rw [← hN2, mI_o (by decide)]
      obtain ⟨N', e1, e2, e3, e4, e5⟩ := ih i (k + 1) (ppc c (o 0)) (rmB s (o 0)) (fun j => o (j + 1)) N2 (by omega) S2 P2 g2 (pb O ho).2 (by omega) (by omega) c2
      refine ⟨N', ?_, F2.tr e2, by rw [e3]; exact congrArg nI (by omega), fun j hj => ?_, fun j hj => ?_⟩
      · rw [f_X3_findOrder_33, if_neg (by rw [show (8 : Int32) = nI 8 from rfl, nI_leI' (by omega) (by omega)]; omega), if_neg (fun z => g0 ((nI_z (by omega)).mp z)), pl_ck P, p_firstOn S P hq hf hs g1, bd_s, pl_r0 P, asI_s P.2.2.2.2.1 (by omega) (by decide), hN1, gfI_s (by rw [P1.1]), c1, nI_1, pfI_s (by rw [P1.1]), hN2, e_hs S2, e_h S2 (h_8 S2 ho), e_hat S2 ho, (pb O ho).1, rm_nI (by omega), nmI_s]
        exact e1
      · rw [e4 j (by omega), v2, v1 j hj]
      · cases j with
        | zero => rw [e4 _ (by omega), v2]; exact w1
        | succ j =>
          rw [show k + (j + 1) = k + 1 + j by omega]
          exact e5 j (by omega)
theorem p_findOrder (S : shO M a c) (ha : a = 12 ∨ a = 43) (P : plL M) (hg : g < gN c) {d s : Nat} {o : Nat → Nat} (hs : s < 256) (hd : d ≤ 8) (hG : GO (ppc c) (na c (141 + g)) (hN c) d (na c (145 + g)) s o) : ∃ N, f_X3_findOrder M (some 88) (some a) (nI g) (nI s) = some N ∧ FS PO M N ∧ mI N 88 1 = nI d ∧ ∀ j, j < d → mI N 89 j = nI (o j) := by
  have O := S.2.2
  obtain ⟨b1, b2, b3, b4⟩ := gb O hg
  obtain ⟨N1, hN1⟩ : ∃ N1, sI M 88 1 0 = N1 := ⟨_, rfl⟩
  have F1 : FS PO M N1 := by rw [← hN1]; exact FS.rf.sI (Or.inl rfl) _ _
  have S1 : shO N1 a c := F1.sho (fun x h1 h2 => by unfold PO; omega) S
  have P1 := FS_pl F1 P
  have c1 : mI N1 88 1 = nI 0 := by rw [← hN1, mI_sI_s]; rfl
  obtain ⟨N, e1, e2, e3, e4, e5⟩ := p_find33 ha b2 d fu 0 (na c (145 + g)) s o N1 (by unfold fu; omega) S1 P1 hG b4 hs (by omega) c1
  refine ⟨N, ?_, F1.tr e2, by rw [e3]; exact congrArg nI (by omega), fun j hj => ?_⟩
  · unfold f_X3_findOrder
    rw [e_gs S, e_g S (g_4 S hg), e_gpa S hg, e_gs S, e_g S (g_4 S hg), e_gat S hg, pfI_s (by rw [P.1]), hN1, b1, b3]
    exact e1
  · have := e5 j hj
    rw [Nat.zero_add] at this
    exact this
end G
