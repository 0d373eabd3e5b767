/-! YEARS ARE LIVED: what a step makes of all; the reference -/
abbrev LvT := (Nat → Int32) × Nat × Int32 × Int32 × Int32 × Int32
abbrev LvX := LvT × Nat × Nat
def lvR (r : Nat) : Nat := (r * 2909 + 10597) % 65536
def pkW (ch : Nat → Nat) : Nat → Nat → Nat → Nat
  | 0, k, _ => k
  | n + 1, k, v => if v < ch k then k else pkW ch n (k + 1) (v - ch k)
def lvW (f : Nat → Int32) (r : Nat) : Nat := pkW (fun j => na f (167 + j)) (wN f) 0 (lvR r / 8 % allChN f)
def lvM (x : LvT) : LvT := (x.1, x.2.1, x.2.2.1 + 1, x.2.2.2.1, x.2.2.2.2.1, x.2.2.2.2.2)
def lvF (x : LvT) (f : Nat → Int32) : LvT := (f, x.2)
def lvH (x : LvT) (n : Nat) (v : Int32) : LvT := (hrs x.1 n, x.2.1, x.2.2.1, x.2.2.2.1 + v, x.2.2.2.2.1 + (hmin x.1 n).2, x.2.2.2.2.2)
def lvG (x : LvT) : LvT := (galS x.1 (x.1 (161 + lvW x.1 x.2.1)), lvR x.2.1, x.2.2.1, x.2.2.2.1, x.2.2.2.2.1, x.2.2.2.2.2 + pop (st (falls x.1 (x.1 (161 + lvW x.1 x.2.1))) (hN x.1)))
def lvS (x : LvT) (s : Nat) : LvT :=
  if x.1 (175 + 9 * s) = 0 then (if na x.1 4 + na x.1 (176 + 9 * s) ≤ 9999 then lvH x (na x.1 (176 + 9 * s)) (x.1 (176 + 9 * s)) else lvM x)
  else if x.1 (175 + 9 * s) = 1 then (if wN x.1 = 0 then lvM x else lvG x)
  else if x.1 (175 + 9 * s) = 2 then lvF x (dwn x.1)
  else if x.1 (175 + 9 * s) = 3 then (if canT x.1 (na x.1 (177 + 9 * s)) (na x.1 (176 + 9 * s)) then lvF x (takesUp x.1 (na x.1 (177 + 9 * s)) (na x.1 (176 + 9 * s))) else lvM x)
  else lvF x (drops x.1 (na x.1 (176 + 9 * s)))
/-- whether a test holds -/
def lvQ (f : Nat → Int32) (s : Nat) : Int32 :=
  if f (181 + 9 * s) = 0 then (if f (53 + na f (176 + 9 * s)) = 0 then 1 else 0)
  else if f (181 + 9 * s) = 1 then (if f (61 + na f (176 + 9 * s)) = 1 then 1 else 0)
  else if f (182 + 9 * s) = 60 then (if f (177 + 9 * s) ≤ wst f 1 then 0 else 1)
  else if f (182 + 9 * s) = 62 then (if wst f 1 ≤ f (177 + 9 * s) then 0 else 1)
  else (if wst f 1 = f (177 + 9 * s) then 1 else 0)
def itr (g : LvX → LvX) : Nat → LvX → LvX
  | 0, X => X
  | n + 1, X => if X.2.2 = 0 then itr g n (g X) else X
def big (c : Nat → Int32) : Nat → Nat → Nat → LvX → LvX
  | 0, _, _, X => X
  | F + 1, s, t, X => if s < t ∧ X.2.2 = 0 then
      big c F (na c (183 + 9 * s)) t
        (if X.2.1 = 300 then (X.1, X.2.1, 2)
        else if c (175 + 9 * s) = 5 then (if lvQ X.1.1 s = 0 then (X.1, X.2.1 + 1, 0) else big c F (s + 1) (na c (183 + 9 * s)) (X.1, X.2.1 + 1, 0))
        else if c (175 + 9 * s) = 6 then itr (fun Y => big c F (s + 1) (na c (183 + 9 * s)) Y) (na c (176 + 9 * s)) (X.1, X.2.1 + 1, 0)
        else if c (175 + 9 * s) = 7 then (X.1, X.2.1 + 1, 1)
        else (lvS X.1 s, X.2.1 + 1, 0))
    else X
/-- a state of a life -/
def LvO (c : Nat → Int32) (x : LvT) : Prop := okC x.1 ∧ (∀ k, k < 3 ∨ 173 ≤ k → x.1 k = c k) ∧ na x.1 4 ≤ 9999 ∧ x.2.1 < 65536
/-- what is known of a step -/
def okS (c : Nat → Int32) (s : Nat) : Prop := ∃ k, k < 8 ∧ c (175 + 9 * s) = nI k ∧ (k = 0 → bdd c (176 + 9 * s) 1 240) ∧ (k = 3 → (∃ h, h < hN c ∧ c (176 + 9 * s) = nI h) ∧ ∃ g, g < gN c ∧ c (177 + 9 * s) = nI g) ∧ (k = 4 → ∃ g, g < gN c ∧ c (176 + 9 * s) = nI g) ∧ (k = 6 → bdd c (176 + 9 * s) 1 99) ∧ (k = 5 → (c (181 + 9 * s) = 0 ∧ ∃ h, h < hN c ∧ c (176 + 9 * s) = nI h) ∨ (c (181 + 9 * s) = 1 ∧ ∃ h, h < hN c ∧ c (176 + 9 * s) = nI h) ∨ c (181 + 9 * s) = 2)
theorem okS_of {M : Mm} {y s r : Nat} {c : Nat → Int32} (h : stp M y c s r) : okS c s := by
  obtain ⟨k, h1, h2, h3, h4, h5, h6, h7, h8⟩ := h
  refine ⟨k, h1, h2, fun z => (h4 z).2, fun z => ⟨(h5 z).2.2.1, (h5 z).2.2.2⟩, fun z => (h6 z).2, fun z => (h7 z).2, fun z => ?_⟩
  rcases h8 z with ⟨a, -, -, b⟩ | ⟨a, -, -, b⟩ | ⟨a, -⟩
  · exact Or.inl ⟨a, b⟩
  · exact Or.inr (Or.inl ⟨a, b⟩)
  · exact Or.inr (Or.inr a)
section L
variable {c : Nat → Int32} {x : LvT} {s : Nat}
theorem LvO.h (W : LvO c x) : hN x.1 = hN c := na_same (W.2.1 0 (by omega))
theorem LvO.g (W : LvO c x) : gN x.1 = gN c := na_same (W.2.1 1 (by omega))
theorem LvO.w (W : LvO c x) : wN x.1 = wN c := na_same (W.2.1 2 (by omega))
theorem LvO.cc (W : LvO c x) {k : Nat} (hk : 173 ≤ k) : x.1 k = c k := W.2.1 k (by omega)
theorem LW_M (W : LvO c x) : LvO c (lvM x) := W
theorem LW_F (W : LvO c x) {f : Nat → Int32} (h1 : okC f) (h2 : ∀ k, k < 3 ∨ 173 ≤ k → f k = x.1 k) (h3 : na f 4 ≤ 9999) : LvO c (lvF x f) := ⟨h1, fun k hk => (h2 k hk).trans (W.2.1 k hk), h3, W.2.2.2⟩
theorem lvR_lt (r : Nat) : lvR r < 65536 := Nat.mod_lt _ (by omega)
theorem LW_H (W : LvO c x) {n : Nat} (hn : na x.1 4 + n ≤ 9999) (v : Int32) : LvO c (lvH x n v) := by
  have O := W.1
  obtain ⟨h1, h2⟩ := hmin_ok O n
  have e4 : hrs x.1 n 4 = nI (na x.1 4 + n) := by
    unfold hrs
    rw [pk_us, h2 4 (by omega), ← nI_add, ← O.2.2.2.2.1.1]
  refine ⟨hrs_ok O (by omega), fun k hk => ?_, ?_, W.2.2.2⟩
  · refine Eq.trans ?_ (W.2.1 k hk)
    show hrs x.1 n k = x.1 k
    unfold hrs
    rw [pk_un (by omega)]
    exact h2 k (by omega)
  · show na (hrs x.1 n) 4 ≤ 9999
    rw [na_of e4 (by omega)]
    exact hn
theorem LW_G (W : LvO c x) : LvO c (lvG x) := by
  refine ⟨okC_galS W.1 _, fun k hk => Eq.trans (gal_o (by omega)) (W.2.1 k hk), ?_, lvR_lt _⟩
  show na (galS x.1 (x.1 (161 + lvW x.1 x.2.1))) 4 ≤ 9999
  rw [na_same (show galS x.1 (x.1 (161 + lvW x.1 x.2.1)) 4 = x.1 4 from gal_o (by omega))]
  exact W.2.2.1
theorem LW_D (W : LvO c x) : LvO c (lvF x (dwn x.1)) := by
  have h8 := (ok_h W.1).2
  refine LW_F W (okC_dwn W.1) (fun k hk => ?_) ?_
  · unfold dwn
    rw [pk_un (by omega), gal_o (by omega), onF_o (by omega)]
  · rw [na_of (n := 0) (show dwn x.1 4 = nI 0 from pk_us) (by omega)]
    omega
theorem LW_T (W : LvO c x) {g h : Nat} (hg : g < gN c) (hh : h < hN c) (hc : canT x.1 g h) : LvO c (lvF x (takesUp x.1 g h)) := by
  have g4 := (ok_g W.1).2
  have h1 := W.g
  have h2 := W.h
  refine LW_F W (okC_take W.1 (by omega) (by omega) hc) (fun k hk => take_o (by omega) (by omega) (by omega) (by omega)) ?_
  rw [na_same (show takesUp x.1 g h 4 = x.1 4 from take_o (by omega) (by omega) (by omega) (by omega))]
  exact W.2.2.1
theorem LW_P (W : LvO c x) {g : Nat} (hg : g < gN c) : LvO c (lvF x (drops x.1 g)) := by
  have g4 := (ok_g W.1).2
  have h1 := W.g
  refine LW_F W (okC_drops W.1 (by omega)) (fun k hk => drops_o (by omega) (by omega) (by omega)) ?_
  rw [na_same (show drops x.1 g 4 = x.1 4 from drops_o (by omega) (by omega) (by omega))]
  exact W.2.2.1
theorem nI8 {a b : Nat} (ha : a < 8) (hb : b < 8) : nI a = nI b ↔ a = b := nI_eq' (by omega) (by omega)
/-- the step, by its kind -/
theorem lvS_k (W : LvO c x) (hS : okS c s) : (c (175 + 9 * s) = 0 ∧ ∃ n, 1 ≤ n ∧ n ≤ 240 ∧ x.1 (176 + 9 * s) = nI n ∧ lvS x s = if na x.1 4 + n ≤ 9999 then lvH x n (nI n) else lvM x) ∨ (c (175 + 9 * s) = 1 ∧ lvS x s = if wN x.1 = 0 then lvM x else lvG x) ∨ (c (175 + 9 * s) = 2 ∧ lvS x s = lvF x (dwn x.1)) ∨ (c (175 + 9 * s) = 3 ∧ ∃ g h, g < gN c ∧ h < hN c ∧ x.1 (176 + 9 * s) = nI h ∧ x.1 (177 + 9 * s) = nI g ∧ lvS x s = if canT x.1 g h then lvF x (takesUp x.1 g h) else lvM x) ∨ (c (175 + 9 * s) = 4 ∧ ∃ g, g < gN c ∧ x.1 (176 + 9 * s) = nI g ∧ lvS x s = lvF x (drops x.1 g)) ∨ (c (175 + 9 * s) = 5) ∨ (c (175 + 9 * s) = 6) ∨ (c (175 + 9 * s) = 7) := by
  have h8 := (ok_h W.1).2
  have g4 := (ok_g W.1).2
  have e1 := W.h
  have e2 := W.g
  obtain ⟨k, k8, hk, h0, h3, h4, h6, h5⟩ := hS
  have a5 := W.cc (k := 175 + 9 * s) (by omega)
  have a6 := W.cc (k := 176 + 9 * s) (by omega)
  have a7 := W.cc (k := 177 + 9 * s) (by omega)
  have z0 : (0 : Int32) = nI 0 := rfl
  have z1 : (1 : Int32) = nI 1 := rfl
  have z2 : (2 : Int32) = nI 2 := rfl
  have z3 : (3 : Int32) = nI 3 := rfl
  rcases (show k = 0 ∨ k = 1 ∨ k = 2 ∨ k = 3 ∨ k = 4 ∨ k = 5 ∨ k = 6 ∨ k = 7 by omega) with h | h | h | h | h | h | h | h <;> subst h
  · obtain ⟨b1, b2, b3⟩ := h0 rfl
    refine Or.inl ⟨hk, na c (176 + 9 * s), b2, b3, a6.trans b1, ?_⟩
    unfold lvS
    rw [if_pos (show x.1 (175 + 9 * s) = 0 from a5.trans hk), na_same a6, a6.trans b1]
  · refine Or.inr (Or.inl ⟨hk, ?_⟩)
    unfold lvS
    rw [if_neg (by rw [a5, hk, z0, nI8 (by omega) (by omega)]; omega), if_pos (show x.1 (175 + 9 * s) = 1 from a5.trans hk)]
  · refine Or.inr (Or.inr (Or.inl ⟨hk, ?_⟩))
    unfold lvS
    rw [if_neg (by rw [a5, hk, z0, nI8 (by omega) (by omega)]; omega), if_neg (by rw [a5, hk, z1, nI8 (by omega) (by omega)]; omega), if_pos (show x.1 (175 + 9 * s) = 2 from a5.trans hk)]
  · obtain ⟨⟨h, hh, eh⟩, g, hg, eg⟩ := h3 rfl
    refine Or.inr (Or.inr (Or.inr (Or.inl ⟨hk, g, h, hg, hh, a6.trans eh, a7.trans eg, ?_⟩)))
    unfold lvS
    rw [if_neg (by rw [a5, hk, z0, nI8 (by omega) (by omega)]; omega), if_neg (by rw [a5, hk, z1, nI8 (by omega) (by omega)]; omega), if_neg (by rw [a5, hk, z2, nI8 (by omega) (by omega)]; omega), if_pos (show x.1 (175 + 9 * s) = 3 from a5.trans hk), na_of (a6.trans eh) (by omega), na_of (a7.trans eg) (by omega)]
  · obtain ⟨g, hg, eg⟩ := h4 rfl
    refine Or.inr (Or.inr (Or.inr (Or.inr (Or.inl ⟨hk, g, hg, a6.trans eg, ?_⟩))))
    unfold lvS
    rw [if_neg (by rw [a5, hk, z0, nI8 (by omega) (by omega)]; omega), if_neg (by rw [a5, hk, z1, nI8 (by omega) (by omega)]; omega), if_neg (by rw [a5, hk, z2, nI8 (by omega) (by omega)]; omega), if_neg (by rw [a5, hk, z3, nI8 (by omega) (by omega)]; omega), na_of (a6.trans eg) (by omega)]
  · exact Or.inr (Or.inr (Or.inr (Or.inr (Or.inr (Or.inl hk)))))
  · exact Or.inr (Or.inr (Or.inr (Or.inr (Or.inr (Or.inr (Or.inl hk))))))
  · exact Or.inr (Or.inr (Or.inr (Or.inr (Or.inr (Or.inr (Or.inr hk))))))
theorem LW_S (W : LvO c x) (hS : okS c s) (hk : ¬ (c (175 + 9 * s) = 5 ∨ c (175 + 9 * s) = 6 ∨ c (175 + 9 * s) = 7)) : LvO c (lvS x s) := by
  rcases lvS_k W hS with ⟨-, n, -, -, -, e⟩ | ⟨-, e⟩ | ⟨-, e⟩ | ⟨-, g, h, hg, hh, -, -, e⟩ | ⟨-, g, hg, -, e⟩ | h | h | h
  · rw [e]
    by_cases q : na x.1 4 + n ≤ 9999
    · rw [if_pos q]; exact LW_H W q _
    · rw [if_neg q]; exact LW_M W
  · rw [e]
    by_cases q : wN x.1 = 0
    · rw [if_pos q]; exact LW_M W
    · rw [if_neg q]; exact LW_G W
  · rw [e]
    exact LW_D W
  · rw [e]
    by_cases q : canT x.1 g h
    · rw [if_pos q]; exact LW_T W hg hh q
    · rw [if_neg q]; exact LW_M W
  · rw [e]
    exact LW_P W hg
  · exact absurd (Or.inl h) hk
  · exact absurd (Or.inr (Or.inl h)) hk
  · exact absurd (Or.inr (Or.inr h)) hk
/-- the wind that is drawn -/
theorem pkW_lt {ch : Nat → Nat} {W : Nat} : ∀ n k v, k + n = W → smN ch k + v < smN ch W → pkW ch n k v < W
  | 0, k, v, h, h2 => by
    rw [show k = W by omega] at h2
    omega
  | n + 1, k, v, h, h2 => by
    rw [pkW]
    by_cases q : v < ch k
    · rw [if_pos q]; omega
    · rw [if_neg q]
      have e : smN ch (k + 1) = smN ch k + ch k := rfl
      exact pkW_lt n (k + 1) (v - ch k) (by omega) (by omega)
theorem lvW_lt (O : okC x.1) (hw : 1 ≤ wN x.1) : lvW x.1 x.2.1 < wN x.1 := by
  have h := (allCh_nI O).2.2 hw
  refine pkW_lt _ _ _ (by omega) ?_
  have := Nat.mod_lt (lvR x.2.1 / 8) h
  show 0 + _ < allChN x.1
  omega
end L
theorem sm_pre {ch : Nat → Nat} : ∀ {n k : Nat}, k ≤ n → smN ch k ≤ smN ch n
  | 0, k, h => by rw [show k = 0 by omega]; exact Nat.le_refl _
  | n + 1, k, h => by
    by_cases q : k = n + 1
    · rw [q]; exact Nat.le_refl _
    · have := sm_pre (ch := ch) (n := n) (k := k) (by omega)
      have e : smN ch (n + 1) = smN ch n + ch n := rfl
      omega
def PfR (y : Nat) : Prop := y = 207 ∨ y = 212
theorem FS.sa {P : Nat → Prop} {M M' : Mm} (h : FS P M M') {a : Nat} (hP : P a) (f : Nat → Int32) : FS P M (sA M' a f) := ⟨h.1, h.2.1, h.2.2.1, h.2.2.2.1, fun x hx => by
  rw [mI_sA_o _ _ (fun e => hx (by rw [e]; exact hP))]
  exact h.2.2.2.2 x hx⟩
/-- the reference's state -/
def RfS (M0 : Mm) (x : LvT) (d ov lo : Nat) (N : Mm) : Prop := FS PfR M0 N ∧ mI N 212 = x.1 ∧ mI N 207 38 = nI x.2.1 ∧ mI N 207 39 = nI d ∧ mI N 207 40 = x.2.2.1 ∧ mI N 207 41 = x.2.2.2.1 ∧ mI N 207 42 = x.2.2.2.2.1 ∧ mI N 207 43 = x.2.2.2.2.2 ∧ mI N 207 37 = nI ov ∧ mI N 207 44 = nI lo ∧ ∀ k, (k < 26 ∨ (26 < k ∧ k < 37) ∨ 44 < k) → mI N 207 k = mI M0 207 k
section Q
variable {M0 N : Mm} {c : Nat → Int32} {x : LvT} {s d ov lo : Nat}
theorem RfS.md (R : RfS M0 x d ov lo N) (D0 : mdL M0) : md N x.1 := ⟨R.1.mdl D0, R.2.1⟩
theorem RfS.cells (R : RfS M0 x d ov lo N) (f : Nat → Int32) : RfS M0 (lvF x f) d ov lo (sA N 212 f) := by
  obtain ⟨h1, h2, h3, h4, h5, h6, h7, h8, h9, h10, h11⟩ := R
  refine ⟨h1.sa (Or.inr rfl) f, mI_sA_s _ _ _, ?_, ?_, ?_, ?_, ?_, ?_, ?_, ?_, fun k hk => ?_⟩ <;> rw [mI_sA_o _ _ (by decide)]
  · exact h3
  · exact h4
  · exact h5
  · exact h6
  · exact h7
  · exact h8
  · exact h9
  · exact h10
  · exact h11 k hk
theorem RfS.w26 (R : RfS M0 x d ov lo N) (v : Int32) : RfS M0 x d ov lo (sI N 207 26 v) := by
  obtain ⟨h1, h2, h3, h4, h5, h6, h7, h8, h9, h10, h11⟩ := R
  refine ⟨h1.sI (Or.inl rfl) _ _, by rw [mI_o (by decide)]; exact h2, ?_, ?_, ?_, ?_, ?_, ?_, ?_, ?_, fun k hk => ?_⟩ <;> rw [mI_f (by omega)]
  · exact h3
  · exact h4
  · exact h5
  · exact h6
  · exact h7
  · exact h8
  · exact h9
  · exact h10
  · exact h11 k hk
theorem RfS.w38 (R : RfS M0 x d ov lo N) (v : Nat) : RfS M0 (x.1, v, x.2.2) d ov lo (sI N 207 38 (nI v)) := by
  obtain ⟨h1, h2, h3, h4, h5, h6, h7, h8, h9, h10, h11⟩ := R
  refine ⟨h1.sI (Or.inl rfl) _ _, by rw [mI_o (by decide)]; exact h2, mI_sI_s _ _ _ _, ?_, ?_, ?_, ?_, ?_, ?_, ?_, fun k hk => ?_⟩ <;> rw [mI_f (by omega)]
  · exact h4
  · exact h5
  · exact h6
  · exact h7
  · exact h8
  · exact h9
  · exact h10
  · exact h11 k hk
theorem RfS.w39 (R : RfS M0 x d ov lo N) (v : Nat) : RfS M0 x v ov lo (sI N 207 39 (nI v)) := by
  obtain ⟨h1, h2, h3, h4, h5, h6, h7, h8, h9, h10, h11⟩ := R
  refine ⟨h1.sI (Or.inl rfl) _ _, by rw [mI_o (by decide)]; exact h2, ?_, mI_sI_s _ _ _ _, ?_, ?_, ?_, ?_, ?_, ?_, fun k hk => ?_⟩ <;> rw [mI_f (by omega)]
  · exact h3
  · exact h5
  · exact h6
  · exact h7
  · exact h8
  · exact h9
  · exact h10
  · exact h11 k hk
theorem RfS.w40 (R : RfS M0 x d ov lo N) (v : Int32) : RfS M0 (x.1, x.2.1, v, x.2.2.2) d ov lo (sI N 207 40 v) := by
  obtain ⟨h1, h2, h3, h4, h5, h6, h7, h8, h9, h10, h11⟩ := R
  refine ⟨h1.sI (Or.inl rfl) _ _, by rw [mI_o (by decide)]; exact h2, ?_, ?_, mI_sI_s _ _ _ _, ?_, ?_, ?_, ?_, ?_, fun k hk => ?_⟩ <;> rw [mI_f (by omega)]
  · exact h3
  · exact h4
  · exact h6
  · exact h7
  · exact h8
  · exact h9
  · exact h10
  · exact h11 k hk
theorem RfS.w41 (R : RfS M0 x d ov lo N) (v : Int32) : RfS M0 (x.1, x.2.1, x.2.2.1, v, x.2.2.2.2) d ov lo (sI N 207 41 v) := by
  obtain ⟨h1, h2, h3, h4, h5, h6, h7, h8, h9, h10, h11⟩ := R
  refine ⟨h1.sI (Or.inl rfl) _ _, by rw [mI_o (by decide)]; exact h2, ?_, ?_, ?_, mI_sI_s _ _ _ _, ?_, ?_, ?_, ?_, fun k hk => ?_⟩ <;> rw [mI_f (by omega)]
  · exact h3
  · exact h4
  · exact h5
  · exact h7
  · exact h8
  · exact h9
  · exact h10
  · exact h11 k hk
theorem RfS.w42 (R : RfS M0 x d ov lo N) (v : Int32) : RfS M0 (x.1, x.2.1, x.2.2.1, x.2.2.2.1, v, x.2.2.2.2.2) d ov lo (sI N 207 42 v) := by
  obtain ⟨h1, h2, h3, h4, h5, h6, h7, h8, h9, h10, h11⟩ := R
  refine ⟨h1.sI (Or.inl rfl) _ _, by rw [mI_o (by decide)]; exact h2, ?_, ?_, ?_, ?_, mI_sI_s _ _ _ _, ?_, ?_, ?_, fun k hk => ?_⟩ <;> rw [mI_f (by omega)]
  · exact h3
  · exact h4
  · exact h5
  · exact h6
  · exact h8
  · exact h9
  · exact h10
  · exact h11 k hk
theorem RfS.w43 (R : RfS M0 x d ov lo N) (v : Int32) : RfS M0 (x.1, x.2.1, x.2.2.1, x.2.2.2.1, x.2.2.2.2.1, v) d ov lo (sI N 207 43 v) := by
  obtain ⟨h1, h2, h3, h4, h5, h6, h7, h8, h9, h10, h11⟩ := R
  refine ⟨h1.sI (Or.inl rfl) _ _, by rw [mI_o (by decide)]; exact h2, ?_, ?_, ?_, ?_, ?_, mI_sI_s _ _ _ _, ?_, ?_, fun k hk => ?_⟩ <;> rw [mI_f (by omega)]
  · exact h3
  · exact h4
  · exact h5
  · exact h6
  · exact h7
  · exact h9
  · exact h10
  · exact h11 k hk
theorem RfS.w37 (R : RfS M0 x d ov lo N) (v : Nat) : RfS M0 x d v lo (sI N 207 37 (nI v)) := by
  obtain ⟨h1, h2, h3, h4, h5, h6, h7, h8, h9, h10, h11⟩ := R
  refine ⟨h1.sI (Or.inl rfl) _ _, by rw [mI_o (by decide)]; exact h2, ?_, ?_, ?_, ?_, ?_, ?_, mI_sI_s _ _ _ _, ?_, fun k hk => ?_⟩ <;> rw [mI_f (by omega)]
  · exact h3
  · exact h4
  · exact h5
  · exact h6
  · exact h7
  · exact h8
  · exact h10
  · exact h11 k hk
theorem RfS.w44 (R : RfS M0 x d ov lo N) (v : Nat) : RfS M0 x d ov v (sI N 207 44 (nI v)) := by
  obtain ⟨h1, h2, h3, h4, h5, h6, h7, h8, h9, h10, h11⟩ := R
  refine ⟨h1.sI (Or.inl rfl) _ _, by rw [mI_o (by decide)]; exact h2, ?_, ?_, ?_, ?_, ?_, ?_, ?_, mI_sI_s _ _ _ _, fun k hk => ?_⟩ <;> rw [mI_f (by omega)]
  · exact h3
  · exact h4
  · exact h5
  · exact h6
  · exact h7
  · exact h8
  · exact h9
  · exact h11 k hk
theorem RfS.to (R : RfS M0 x d ov lo N) {y : LvT} (h : y = x) : RfS M0 y d ov lo N := by
  rw [h]
  exact R
theorem RfS.eta (R : RfS M0 x d ov lo N) : sA N 212 x.1 = N := by
  rw [← R.2.1]
  exact sA_self N 212
theorem mod_eq (a n : Nat) : a - a / n * n = a % n := by
  have h : a / n * n + a % n = a := by
    rw [Nat.mul_comm]
    exact Nat.div_add_mod a n
  omega
theorem q_draw (D0 : mdL M0) (R : RfS M0 x d ov lo N) (hr : x.2.1 < 65536) {n : Nat} (h1 : 1 ≤ n) (h2 : n ≤ 1000) : f_X12_draw N (some 207) (nI n) = some (nI (lvR x.2.1 / 8 % n), sI N 207 38 (nI (lvR x.2.1))) := by
  have D := R.md D0
  have hl := lvR_lt x.2.1
  have D2 : mdL (sI N 207 38 (nI (lvR x.2.1))) := D.1
  have e1 : ((nI x.2.1 * 2909) + 10597) - ((nI x.2.1 * 2909) + 10597) / 65536 * 65536 = nI (lvR x.2.1) := by
    rw [show (2909 : Int32) = nI 2909 from rfl, show (10597 : Int32) = nI 10597 from rfl, show (65536 : Int32) = nI 65536 from rfl, nI_mul, nI_add, pk_div (by omega) (by omega) (by omega), nI_mul, nI_sub (Nat.div_mul_le_self _ _), mod_eq]
    rfl
  unfold f_X12_draw
  rw [m_gI D.1, R.2.2.1, dvI_s (by decide), m_pI D.1, e1, m_gI D2, mI_sI_s, dvI_s (by decide), dvI_s (nI_pos0 (by omega) (by omega)), show (8 : Int32) = nI 8 from rfl, pk_div (by omega) (by omega) (by omega), pk_div (by omega) (by omega) (by omega), nI_mul, nI_sub (Nat.div_mul_le_self _ _), mod_eq]
theorem q_pick (D0 : mdL M0) (R : RfS M0 x d ov lo N) (O : okC x.1) : ∀ n k v i, n < i → k + n = wN x.1 → smN (fun j => na x.1 (167 + j)) k + v < allChN x.1 → f_X12_galeComes_22 i N (some 207) (nI v) (nI k) = some (1, sI (sA N 212 (galS x.1 (x.1 (161 + pkW (fun j => na x.1 (167 + j)) n k v)))) 207 43 (x.2.2.2.2.2 + pop (st (falls x.1 (x.1 (161 + pkW (fun j => na x.1 (167 + j)) n k v))) (hN x.1)))) := by
  have w6 := (ok_w O).2
  have D := R.md D0
  have hb := (allCh_nI O).2.1
  intro n
  induction n with
  | zero =>
    intro k v i hi hk hv
    have e : allChN x.1 = smN (fun j => na x.1 (167 + j)) (wN x.1) := rfl
    rw [show k = wN x.1 by omega] at hv
    omega
  | succ n ih =>
    intro k v i hi hk hv
    cases i with
    | zero => omega
    | succ i =>
      obtain ⟨c1, c2, c3⟩ := (O.2.2.2.2.2.2.2.2.1 k (by omega)).2
      have hs := (O.2.2.2.2.2.2.2.2.1 k (by omega)).1
      rw [f_X12_galeComes_22, m_r20 D.1, i167, m_c D (by omega), c1, pkW]
      by_cases q : v < na x.1 (167 + k)
      · have qb := q_blows D.1 O (x.1 (161 + k))
        rw [R.eta] at qb
        have D2 : mdL (sA N 212 (galS x.1 (x.1 (161 + k)))) := D.1
        rw [if_pos (by rw [nI_ltI' (by omega) (by omega)]; exact q), if_pos q, m_gI D.1, R.2.2.2.2.2.2.2.1, m_r20 D.1, i161, m_c D (by omega), m_ck D.1, qb, bd_s, m_pI D2]
      · have e : smN (fun j => na x.1 (167 + j)) (k + 1) = smN (fun j => na x.1 (167 + j)) k + na x.1 (167 + k) := rfl
        rw [if_neg (by rw [nI_ltI' (by omega) (by omega)]; exact q), if_neg q, m_r20 D.1, m_c D (by omega), c1, nI_sub (by omega), nmI_s, nI_1]
        exact ih (k + 1) _ i (by omega) (by omega) (by omega)
theorem q_does (D0 : mdL M0) (R : RfS M0 x d ov lo N) (W : LvO c x) (hs : s < 30) (hS : okS c s) (hk : ¬ (c (175 + 9 * s) = 5 ∨ c (175 + 9 * s) = 6 ∨ c (175 + 9 * s) = 7)) : ∃ v N', f_X12_does N (some 207) (nI (175 + 9 * s)) = some (v, N') ∧ ((v = 0 ∧ lvS x s = lvM x ∧ RfS M0 x d ov lo N') ∨ (v = 1 ∧ RfS M0 (lvS x s) d ov lo N' ∧ (lvS x s).2.2.1 = x.2.2.1)) := by
  have O := W.1
  have D := R.md D0
  have h8 := (ok_h O).2
  have g4 := (ok_g O).2
  have a5 := W.cc (k := 175 + 9 * s) (by omega)
  have e6 : 175 + 9 * s + 1 = 176 + 9 * s := by omega
  have e7 : nI (175 + 9 * s) + 2 = nI (177 + 9 * s) := by
    rw [show (2 : Int32) = nI 2 from rfl, nI_add]
    exact congrArg nI (by omega)
  have hkk : ∀ a b : Nat, a < 8 → b < 8 → a ≠ b → ¬ nI a = nI b := fun a b ha hb hne z => hne ((nI8 ha hb).mp z)
  unfold f_X12_does g_X12_does
  rw [m_r20 D.1, m_c D (by omega), a5]
  rcases lvS_k W hS with ⟨k0, n, n1, n2, en, e⟩ | ⟨k0, e⟩ | ⟨k0, e⟩ | ⟨k0, g, h, hg, hh, eh, eg, e⟩ | ⟨k0, g, hg, eg, e⟩ | h | h | h
  · have e4 := O.2.2.2.2.1
    have e41 := e4.1
    have e49 := e4.2.2
    rw [k0, if_pos rfl, m_r20 D.1, m_c4 D, e41, m_r20 D.1, nI_1, e6, m_c D (by omega), en, nI_add]
    by_cases q : na x.1 4 + n ≤ 9999
    · have qh := q_hours D.1 O n2
      rw [R.eta] at qh
      have R1 := (R.w26 (hmin x.1 n).2).cells (hrs x.1 n)
      have R2 := R1.w42 (x.2.2.2.2.1 + (hmin x.1 n).2)
      have R3 := R2.w41 (x.2.2.2.1 + nI n)
      have D1 : mdL (sA (sI N 207 26 (hmin x.1 n).2) 212 (hrs x.1 n)) := D.1
      have D2 : md (sI (sA (sI N 207 26 (hmin x.1 n).2) 212 (hrs x.1 n)) 207 42 (x.2.2.2.2.1 + (hmin x.1 n).2)) (hrs x.1 n) := md_sI (md_f (M := sI N 207 26 (hmin x.1 n).2) D.1 _) (by decide)
      have h1 := (hmin_ok O n).2
      have e6c : hrs x.1 n (176 + 9 * s) = nI n := by
        rw [← en]
        unfold hrs
        rw [pk_un (by omega)]
        exact h1 _ (by omega)
      have eS : lvS x s = lvH x n (nI n) := by rw [e, if_pos q]
      refine ⟨1, _, ?_, Or.inr ⟨rfl, R3.to eS, by rw [eS]; rfl⟩⟩
      · rw [if_pos (by rw [show (9999 : Int32) = nI 9999 from rfl, nI_leI' (by omega) (by omega)]; exact q), m_gI D.1, R.2.2.2.2.2.2.1, m_r20 D.1, m_c D (by omega), en, m_ck D.1, qh, bd_s, m_pI D1, m_gI D2.1, R2.2.2.2.2.2.1, m_r20 D2.1, m_c D2 (by omega), e6c, m_pI D2.1, zc1]
        rfl
    · refine ⟨0, N, ?_, Or.inl ⟨rfl, by rw [e, if_neg q], R⟩⟩
      rw [if_neg (by rw [show (9999 : Int32) = nI 9999 from rfl, nI_leI' (by omega) (by omega)]; exact q), zc0]
  · have hw := w_pos O
    rw [k0, if_neg (by decide), if_pos rfl, m_ck D.1]
    unfold f_X12_galeComes g_X12_galeComes
    rw [m_r20 D.1, m_c2 D]
    by_cases q : wN x.1 = 0
    · refine ⟨0, N, ?_, Or.inl ⟨rfl, by rw [e, if_pos q], R⟩⟩
      have q2 : x.1 2 = 0 := Decidable.byContradiction fun z => by
        have := hw.mp z
        omega
      rw [if_pos q2, zc0, bd_s, zc0]
    · have q2 : ¬ x.1 2 = 0 := hw.mpr (by omega)
      obtain ⟨c1, c2, c3⟩ := allCh_nI O
      have c4 := c3 (by omega)
      have R1 := R.w38 (lvR x.2.1)
      have hp : f_X12_galeComes_22 fu (sI N 207 38 (nI (lvR x.2.1))) (some 207) (nI (lvR x.2.1 / 8 % allChN x.1)) 0 = some (1, sI (sA (sI N 207 38 (nI (lvR x.2.1))) 212 (galS x.1 (x.1 (161 + lvW x.1 x.2.1)))) 207 43 (x.2.2.2.2.2 + pop (st (falls x.1 (x.1 (161 + lvW x.1 x.2.1))) (hN x.1)))) := q_pick D0 R1 O (wN x.1) 0 (lvR x.2.1 / 8 % allChN x.1) fu (by unfold fu; have := (ok_w O).2; omega) (Nat.zero_add _) (by
        have := Nat.mod_lt (lvR x.2.1 / 8) c4
        show 0 + lvR x.2.1 / 8 % allChN x.1 < allChN x.1
        omega)
      have D1 : mdL (sI N 207 38 (nI (lvR x.2.1))) := D.1
      have R2 := (R1.cells (galS x.1 (x.1 (161 + lvW x.1 x.2.1)))).w43 (x.2.2.2.2.2 + pop (st (falls x.1 (x.1 (161 + lvW x.1 x.2.1))) (hN x.1)))
      have eS : lvS x s = lvG x := by rw [e, if_neg q]
      refine ⟨1, _, ?_, Or.inr ⟨rfl, R2.to eS, by rw [eS]; rfl⟩⟩
      · rw [if_neg q2, m_ck D.1, q_allCh D O, bd_s, m_ck D.1, c1, q_draw D0 R W.2.2.2 c4 (by omega), bd_s]
        rw [hp, zc1, bd_s, zc1]
  · have qd := q_dawns D.1 O
    rw [R.eta] at qd
    refine ⟨1, _, ?_, Or.inr ⟨rfl, (R.cells (dwn x.1)).to e, by rw [e]; rfl⟩⟩
    · rw [k0, if_neg (by decide), if_neg (by decide), if_neg (by decide), if_pos rfl, m_ck D.1, qd, bd_s, zc1]
  · have e1 := W.h
    have e2 := W.g
    have ql := q_lifts D.1 O (g := g) (h := h) (by omega) (by omega)
    rw [R.eta] at ql
    rw [k0, if_neg (by decide), if_neg (by decide), if_pos rfl, m_r20 D.1, e7, m_c D (by omega), m_r20 D.1, nI_1, e6, m_c D (by omega), eh, eg, m_ck D.1, ql]
    by_cases q : canT x.1 g h
    · have eS : lvS x s = lvF x (takesUp x.1 g h) := by rw [e, if_pos q]
      refine ⟨1, _, ?_, Or.inr ⟨rfl, (R.cells (takesUp x.1 g h)).to eS, by rw [eS]; rfl⟩⟩
      rw [if_pos q, bd_s, zc1]
    · refine ⟨0, N, ?_, Or.inl ⟨rfl, by rw [e, if_neg q], R⟩⟩
      rw [if_neg q, bd_s, zc0]
  · have e2 := W.g
    have qd := q_drops D.1 (f := x.1) (g := g) (by omega)
    rw [R.eta] at qd
    refine ⟨1, _, ?_, Or.inr ⟨rfl, (R.cells (drops x.1 g)).to e, by rw [e]; rfl⟩⟩
    · rw [k0, if_neg (by decide), if_neg (by decide), if_neg (by decide), if_neg (by decide), m_r20 D.1, nI_1, e6, m_c D (by omega), eg, m_ck D.1, qd, bv_s, zc1]
  · exact absurd (Or.inl h) hk
  · exact absurd (Or.inr (Or.inl h)) hk
  · exact absurd (Or.inr (Or.inr h)) hk
theorem q_isSo (D0 : mdL M0) (R : RfS M0 x d ov lo N) (W : LvO c x) (hs : s < 30) (hS : okS c s) (hk : c (175 + 9 * s) = 5) : f_X12_isSo N (some 207) (nI (175 + 9 * s)) = some (lvQ x.1 s, N) := by
  have O := W.1
  have D := R.md D0
  have h8 := (ok_h O).2
  have eh := W.h
  obtain ⟨k, k8, hk2, -, -, -, -, h5⟩ := hS
  have k5 : k = 5 := (nI8 k8 (by omega)).mp (hk2.symm.trans hk)
  have a81 := W.cc (k := 181 + 9 * s) (by omega)
  have a76 := W.cc (k := 176 + 9 * s) (by omega)
  have e6 : 175 + 9 * s + 1 = 176 + 9 * s := by omega
  have e7 : nI (175 + 9 * s) + 2 = nI (177 + 9 * s) := by
    rw [show (2 : Int32) = nI 2 from rfl, nI_add]
    exact congrArg nI (by omega)
  have e8 : nI (175 + 9 * s) + 6 = nI (181 + 9 * s) := by
    rw [show (6 : Int32) = nI 6 from rfl, nI_add]
    exact congrArg nI (by omega)
  have e9 : nI (175 + 9 * s) + 7 = nI (182 + 9 * s) := by
    rw [show (7 : Int32) = nI 7 from rfl, nI_add]
    exact congrArg nI (by omega)
  unfold f_X12_isSo g_X12_isSo lvQ
  rw [m_r20 D.1, e8, m_c D (by omega), m_r20 D.1, nI_1, e6, m_c D (by omega)]
  rcases h5 k5 with ⟨t1, h, hh, e1⟩ | ⟨t1, h, hh, e1⟩ | t1
  · have p := O.2.2.2.2.2.1 h (by omega)
    have p7 := p.2.2.2.2.2.2.1
    have p8 := p.2.2.2.2.2.2.2.1
    have p10 := p.2.2.2.2.2.2.2.2.2
    rw [if_pos (a81.trans t1), if_pos (a81.trans t1), a76.trans e1, na_of (a76.trans e1) (by omega), m_ck D.1, q_stands D (by omega), bd_s]
    by_cases q : x.1 (53 + h) = 0
    · have n0 : na x.1 (53 + h) = 0 := na_of (n := 0) q (by omega)
      have s1 : x.1 (61 + h) = 1 := by
        have p81 := p8.1
        have p83 := p8.2.2
        rw [p81, show na x.1 (61 + h) = 1 by
          have z : ¬ na x.1 (61 + h) = 0 := fun z => by
            have := p10 z
            omega
          omega]
        rfl
      rw [if_pos s1, if_neg (by decide), m_r20 D.1, i53, m_c D (by omega), if_pos q, zc1, if_pos q]
    · rw [if_neg q]
      by_cases q2 : x.1 (61 + h) = 1
      · rw [if_pos q2, if_neg (by decide), m_r20 D.1, i53, m_c D (by omega), if_neg q, zc0]
      · rw [if_neg q2, if_pos rfl, zc0]
  · have n0 : ¬ x.1 (181 + 9 * s) = 0 := by rw [a81, t1]; decide
    rw [if_neg n0, if_neg n0, if_pos (a81.trans t1), if_pos (a81.trans t1), a76.trans e1, na_of (a76.trans e1) (by omega), m_ck D.1, q_stands D (by omega), bd_s]
    by_cases q : x.1 (61 + h) = 1
    · rw [if_pos q, zc1]
    · rw [if_neg q, zc0]
  · have n0 : ¬ x.1 (181 + 9 * s) = 0 := by rw [a81, t1]; decide
    have n1 : ¬ x.1 (181 + 9 * s) = 1 := by rw [a81, t1]; decide
    rw [if_neg n0, if_neg n0, if_neg n1, if_neg n1, m_ck D.1, q_worthOf D O, bd_s, m_r20 D.1, e9, m_c D (by omega)]
    by_cases q : x.1 (182 + 9 * s) = 60
    · rw [if_pos q, if_pos q, m_r20 D.1, e7, m_c D (by omega)]
      by_cases q2 : x.1 (177 + 9 * s) ≤ wst x.1 1
      · rw [if_pos q2, if_pos q2, zc0]
      · rw [if_neg q2, if_neg q2, zc1]
    · rw [if_neg q, if_neg q, m_r20 D.1, m_c D (by omega)]
      by_cases q3 : x.1 (182 + 9 * s) = 62
      · rw [if_pos q3, if_pos q3, m_r20 D.1, e7, m_c D (by omega)]
        by_cases q2 : wst x.1 1 ≤ x.1 (177 + 9 * s)
        · rw [if_pos q2, if_pos q2, zc0]
        · rw [if_neg q2, if_neg q2, zc1]
      · rw [if_neg q3, if_neg q3, m_r20 D.1, e7, m_c D (by omega)]
        by_cases q2 : wst x.1 1 = x.1 (177 + 9 * s)
        · rw [if_pos q2, if_pos q2, zc1]
        · rw [if_neg q2, if_neg q2, zc0]
end Q
