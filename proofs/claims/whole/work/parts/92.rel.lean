/-! WHAT THE TWO HAVE IN COMMON -/
/-- names: letters 1 to 26, to the base 27, to the base 32 -/
def n27 (ws : List Nat) : Nat := ws.foldl (fun x l => x * 27 + l) 0
def n32 (ws : List Nat) : Nat := ws.foldl (fun x l => x * 32 + l) 0
def okN (ws : List Nat) : Prop := 1 ≤ ws.length ∧ ws.length ≤ 8 ∧ ∀ l ∈ ws, 1 ≤ l ∧ l ≤ 26
def nmE (x y : Int64) : Prop := ∃ ws, okN ws ∧ x = lN (n27 ws) ∧ y = lN (n32 ws)
/-- the words of the language, as the class has them -/
def wrd (w : Nat) : Int64 := match w with
  | 0 => 4562600 | 1 => 47 | 2 => 12532058 | 3 => 234466237 | 4 => 332864552 | 5 => 247516 | 6 => 318781 | 7 => 138895 | 8 => 4281544 | 9 => 315743 | 10 => 117696460 | 11 => 79 | 12 => 459652 | 13 => 411 | 14 => 8798 | 15 => 312151 | 16 => 279252 | 17 => 404923 | 18 => 168984 | 19 => 138839 | 20 => 80096 | 21 => 358472 | 22 => 242939 | 23 => 459818 | 24 => 458690 | 25 => 11103 | 26 => 283288069 | 27 => 247552 | 28 => 4027 | _ => 388978
def rFr (M : Mm) : Prop := mL M 0 1 = mL M 207 2 ∧ mL M 0 2 = mL M 207 3
def rFa (M : Mm) : Prop := mI M 0 3 = mI M 207 10 ∧ mI M 0 4 = mI M 207 11
def rTp (M : Mm) : Prop := (∃ n, n ≤ 900 ∧ mI M 1 1 = nI n ∧ mI M 207 8 = nI n ∧ ∀ k, k < n → mI M 2 k = mI M 211 k ∧ ∃ v : Int32, mI M 2 k = v.toInt8.toInt32) ∧ ∀ w, w < 30 → mL M 3 w = wrd w
def rTy (M : Mm) : Prop := ∀ t, t < 4 → (mI M 11 t = -1 ∧ mI M 209 t = -1) ∨ ∃ n, n ≤ 60 ∧ mI M 11 t = nI n ∧ mI M 209 t = nI n ∧ mI M 10 t = mI M 208 t ∧ ∀ k, k < n → mL M (6 + t) k = mL M 210 (60 * t + k)
/-- the names of the shore at a, in the block j; its minute -/
def rNm (M : Mm) (a j : Nat) (c : Nat → Int32) : Prop := na c 4 ≤ 9999 ∧ (∀ h, h < hN c → nmE (mL M (a + 13 + h) 0) (mL M 214 (18 * j + h))) ∧ (∀ g, g < gN c → nmE (mL M (a + 21 + g) 0) (mL M 214 (18 * j + 8 + g))) ∧ ∀ w, w < wN c → nmE (mL M (a + 25 + w) 0) (mL M 214 (18 * j + 12 + w))
/-- the kinds of steps, as words -/
def kW (k : Nat) : Int32 := match k with
  | 0 => 18 | 1 => 19 | 2 => 20 | 3 => 22 | 4 => 21 | 5 => 24 | 6 => 27 | _ => 29
/-- the step s is the row r -/
def stp (M : Mm) (y : Nat) (c : Nat → Int32) (s r : Nat) : Prop := ∃ k, k < 8 ∧ c (175 + 9 * s) = nI k ∧ mI M (y + 1) r = kW k ∧
  (k = 0 → mI M (y + 2) r = c (176 + 9 * s) ∧ bdd c (176 + 9 * s) 1 240) ∧
  (k = 3 → mI M (y + 2) r = c (176 + 9 * s) ∧ mI M (y + 3) r = c (177 + 9 * s) ∧ (∃ h, h < hN c ∧ c (176 + 9 * s) = nI h) ∧ ∃ g, g < gN c ∧ c (177 + 9 * s) = nI g) ∧
  (k = 4 → mI M (y + 3) r = c (176 + 9 * s) ∧ ∃ g, g < gN c ∧ c (176 + 9 * s) = nI g) ∧
  (k = 6 → mI M (y + 2) r = c (176 + 9 * s) ∧ bdd c (176 + 9 * s) 1 99) ∧
  (k = 5 → (c (181 + 9 * s) = 0 ∧ mI M (y + 3) r = 25 ∧ mI M (y + 2) r = c (176 + 9 * s) ∧ ∃ h, h < hN c ∧ c (176 + 9 * s) = nI h) ∨ (c (181 + 9 * s) = 1 ∧ mI M (y + 3) r = 26 ∧ mI M (y + 2) r = c (176 + 9 * s) ∧ ∃ h, h < hN c ∧ c (176 + 9 * s) = nI h) ∨ (c (181 + 9 * s) = 2 ∧ mI M (y + 3) r = 2 ∧ mI M (y + 4) r = c (182 + 9 * s) ∧ mI M (y + 2) r = c (177 + 9 * s) ∧ bdd c (177 + 9 * s) 0 9999))
/-- the steps from .. to are the rows r .. r', at most m within each other -/
def seg (M : Mm) (y : Nat) (c : Nat → Int32) : Nat → Nat → Nat → Nat → Nat → Nat → Prop
  | 0, _, _, _, _, _ => False
  | f + 1, m, s, t, r, r' => (s = t ∧ r = r') ∨ (s < t ∧ r < 60 ∧ stp M y c s r ∧ ((¬ (c (175 + 9 * s) = 5 ∨ c (175 + 9 * s) = 6) ∧ c (183 + 9 * s) = nI (s + 1) ∧ seg M y c f m (s + 1) t (r + 1) r') ∨ ((c (175 + 9 * s) = 5 ∨ c (175 + 9 * s) = 6) ∧ ∃ e q, c (183 + 9 * s) = nI e ∧ s < e ∧ e ≤ t ∧ q < 60 ∧ (∃ m', m = m' + 1 ∧ seg M y c f m' (s + 1) e (r + 1) q) ∧ mI M (y + 1) q = 28 ∧ mI M (y + 5) q = nI r ∧ mI M (y + 5) r = nI q ∧ seg M y c f m e t (q + 1) r')))
def rYr (M : Mm) (y : Nat) (c : Nat → Int32) : Prop := mI M y 0 = c 173 ∧ (c 173 = 0 ∨ (c 173 = 1 ∧ ∃ N R, N ≤ 30 ∧ R ≤ 60 ∧ mI M y 1 = nI N ∧ c 174 = nI N ∧ mI M y 2 = nI R ∧ seg M y c 91 3 0 N 0 R))
def cb (M : Mm) (j : Nat) : Nat → Int32 := fun k => mI M 212 (450 * j + k)
def rMk (M : Mm) : Prop := ∃ n, n ≤ 3 ∧ mI M 0 13 = nI n ∧ mI M 207 23 = nI n ∧ ∀ i, i < n → shO M (96 + 37 * i) (cb M (i + 1)) ∧ rNm M (96 + 37 * i) (i + 1) (cb M (i + 1)) ∧ rYr M (127 + 37 * i) (cb M (i + 1))
def rPl (M : Mm) : Prop := mI M 0 15 = mI M 207 30 ∧ (mI M 0 15 = -1 ∨ ∃ s, s < 256 ∧ mI M 0 15 = nI s) ∧ ((mI M 88 1 = 0 ∧ mI M 207 33 = -1) ∨ ∃ n, n ≤ 8 ∧ mI M 88 1 = nI n ∧ mI M 207 33 = nI n ∧ ∀ k, k < n → mI M 89 k = mI M 218 k)
def rLi (M : Mm) : Prop := mI M 0 18 = mI M 207 36 ∧ (mI M 0 18 = 0 ∨ (mI M 0 18 = 1 ∧ ∀ j, j < 5 → mI M 92 (1 + j) = mI M 220 j))
/-- all but the shore that is there -/
def RO (M : Mm) (y : Nat) : Prop := mI M 0 0 = mI M 207 0 ∧ rFr M ∧ rFa M ∧ rTp M ∧ rTy M ∧ rYr M y (mI M 212) ∧ rMk M ∧ rPl M ∧ rLi M
def RA (M : Mm) (a b y z : Nat) : Prop := LL M a b y z ∧ shO M a (mI M 212) ∧ rNm M a 0 (mI M 212) ∧ RO M y
def RR (M : Mm) : Prop := ∃ a b y z, RA M a b y z
theorem shO_same {M M' : Mm} {a : Nat} {c : Nat → Int32} (S : shO M a c) (hK : mK M' = mK M) (hR : mR M' = mR M) (hI : ∀ x, a ≤ x → x < a + 31 → mI M' x = mI M x) : shO M' a c := by
  have W := shW_of S
  refine shO_of (e := ecl c) ⟨shL_same W.1 hK hR, fun K hK2 => ?_⟩ (fun _ _ => rfl) S.2.2
  have h31 := off_31 K (vld_lt hK2)
  rw [hI _ (by omega) (by omega)]
  exact W.2 K hK2
theorem rNm_same {M M' : Mm} {a j : Nat} {c c' : Nat → Int32} (h : rNm M a j c) (hL : mL M' = mL M) (h0 : c' 0 = c 0) (h1 : c' 1 = c 1) (h2 : c' 2 = c 2) (h4 : na c' 4 ≤ 9999) : rNm M' a j c' := by
  unfold rNm at *
  refine ⟨h4, ?_⟩
  replace h := h.2
  rw [hL, show hN c' = hN c from na_same h0, show gN c' = gN c from na_same h1, show wN c' = wN c from na_same h2]
  exact h
theorem stp_same {M M' : Mm} {y : Nat} {c c' : Nat → Int32} {s r : Nat} (hI : ∀ x, y ≤ x → x < y + 6 → mI M' x = mI M x) (h0 : hN c' = hN c) (h1 : gN c' = gN c) (hc : ∀ k, 173 ≤ k → c' k = c k) (h : stp M y c s r) : stp M' y c' s r := by
  unfold stp bdd na at *
  rw [hI (y + 1) (by omega) (by omega), hI (y + 2) (by omega) (by omega), hI (y + 3) (by omega) (by omega), hI (y + 4) (by omega) (by omega), h0, h1, hc (175 + 9 * s) (by omega), hc (176 + 9 * s) (by omega), hc (177 + 9 * s) (by omega), hc (181 + 9 * s) (by omega), hc (182 + 9 * s) (by omega)]
  exact h
theorem seg_same {M M' : Mm} {y : Nat} {c c' : Nat → Int32} (hI : ∀ x, y ≤ x → x < y + 6 → mI M' x = mI M x) (h0 : hN c' = hN c) (h1 : gN c' = gN c) (hc : ∀ k, 173 ≤ k → c' k = c k) : ∀ (f m s t r r' : Nat), seg M y c f m s t r r' → seg M' y c' f m s t r r'
  | 0, _, _, _, _, _, h => h
  | f + 1, m, s, t, r, r', h => by
    rcases h with h | ⟨p1, p2, p3, h⟩
    · exact Or.inl h
    · refine Or.inr ⟨p1, p2, stp_same hI h0 h1 hc p3, ?_⟩
      rw [hc (175 + 9 * s) (by omega), hc (183 + 9 * s) (by omega)]
      rcases h with ⟨q1, q2, q3⟩ | ⟨q1, e, q, q2, q3, q4, q5, ⟨m', q0, q6⟩, q7, q8, q9, q10⟩
      · exact Or.inl ⟨q1, q2, seg_same hI h0 h1 hc f _ _ _ _ _ q3⟩
      · exact Or.inr ⟨q1, e, q, q2, q3, q4, q5, ⟨m', q0, seg_same hI h0 h1 hc f _ _ _ _ _ q6⟩, by rw [hI (y + 1) (by omega) (by omega)]; exact q7, by rw [hI (y + 5) (by omega) (by omega)]; exact q8, by rw [hI (y + 5) (by omega) (by omega)]; exact q9, seg_same hI h0 h1 hc f _ _ _ _ _ q10⟩
theorem rYr_same {M M' : Mm} {y : Nat} {c c' : Nat → Int32} (hI : ∀ x, y ≤ x → x < y + 6 → mI M' x = mI M x) (h0 : c' 0 = c 0) (h1 : c' 1 = c 1) (hc : ∀ k, 173 ≤ k → c' k = c k) (h : rYr M y c) : rYr M' y c' := by
  unfold rYr at *
  rw [hI y (by omega) (by omega), hc 173 (by omega), hc 174 (by omega)]
  refine ⟨h.1, ?_⟩
  rcases h.2 with h | ⟨h2, N, R, q1, q2, q3, q4, q5, q6⟩
  · exact Or.inl h
  · exact Or.inr ⟨h2, N, R, q1, q2, q3, q4, q5, seg_same hI (na_same h0) (na_same h1) hc _ _ _ _ _ _ q6⟩
/-- the shore that is there, the statuses and what is not told changed -/
def Ag (M M' : Mm) (a : Nat) : Prop := mK M' = mK M ∧ mL M' = mL M ∧ mR M' = mR M ∧ mT M' = mT M ∧ (∀ x, x < a ∨ a + 31 ≤ x → x ≠ 0 → x ≠ 207 → x ≠ 212 → x ≠ 213 → mI M' x = mI M x) ∧ (∀ k, k ≠ 0 → mI M' 0 k = mI M 0 k) ∧ (∀ k, k = 8 ∨ k = 10 ∨ k = 11 ∨ k = 23 ∨ k = 30 ∨ k = 33 ∨ k = 36 → mI M' 207 k = mI M 207 k) ∧ ∀ k, k < 3 ∨ 173 ≤ k → mI M' 212 k = mI M 212 k
theorem RA_sh {M M' : Mm} {a b y z : Nat} (H : RA M a b y z) (A : Ag M M' a) (hs : mI M' 0 0 = mI M' 207 0) (S : shO M' a (mI M' 212)) (h9 : na (mI M' 212) 4 ≤ 9999) : RA M' a b y z := by
  obtain ⟨hL, hS, hN, h0, h1, h2, h3, h4, h5, h6, h7, h8⟩ := H
  obtain ⟨aK, aL, aR, aT, aI, a0, a7, a2⟩ := A
  have ha := ll_a hL
  have hy := ll_y hL
  have hL' := LL_same hL aK aR aT
  have ecb : ∀ i, cb M' (i + 1) = cb M (i + 1) := fun i => funext fun k => a2 _ (by omega)
  refine ⟨hL', S, rNm_same hN aL (a2 0 (by omega)) (a2 1 (by omega)) (a2 2 (by omega)) h9, hs, ?_, ?_, ?_, ?_, ?_, ?_, ?_, ?_⟩
  · unfold rFr at *; rw [aL]; exact h1
  · unfold rFa at *; rw [a0 3 (by omega), a0 4 (by omega), a7 10 (by omega), a7 11 (by omega)]; exact h2
  · unfold rTp at *; rw [aL, aI 1 (by omega) (by omega) (by omega) (by omega) (by omega), aI 2 (by omega) (by omega) (by omega) (by omega) (by omega), aI 211 (by omega) (by omega) (by omega) (by omega) (by omega), a7 8 (by omega)]; exact h3
  · unfold rTy at *; rw [aL, aI 11 (by omega) (by omega) (by omega) (by omega) (by omega), aI 10 (by omega) (by omega) (by omega) (by omega) (by omega), aI 209 (by omega) (by omega) (by omega) (by omega) (by omega), aI 208 (by omega) (by omega) (by omega) (by omega) (by omega)]; exact h4
  · exact rYr_same (fun x x1 x2 => aI x (by omega) (by omega) (by omega) (by omega) (by omega)) (a2 0 (by omega)) (a2 1 (by omega)) (fun k hk => a2 k (by omega)) h5
  · obtain ⟨n, n3, e1, e2, hm⟩ := h6
    refine ⟨n, n3, by rw [a0 13 (by omega)]; exact e1, by rw [a7 23 (by omega)]; exact e2, fun i hi => ?_⟩
    obtain ⟨m1, m2, m3⟩ := hm i hi
    rw [ecb i]
    refine ⟨shO_same m1 aK aR (fun x x1 x2 => aI x (by omega) (by omega) (by omega) (by omega) (by omega)), rNm_same m2 aL rfl rfl rfl m2.1, rYr_same (fun x x1 x2 => aI x (by omega) (by omega) (by omega) (by omega) (by omega)) rfl rfl (fun k hk => rfl) m3⟩
  · unfold rPl at *; rw [a0 15 (by omega), a7 30 (by omega), a7 33 (by omega), aI 88 (by omega) (by omega) (by omega) (by omega) (by omega), aI 89 (by omega) (by omega) (by omega) (by omega) (by omega), aI 218 (by omega) (by omega) (by omega) (by omega) (by omega)]; exact h7
  · unfold rLi at *; rw [a0 18 (by omega), a7 36 (by omega), aI 92 (by omega) (by omega) (by omega) (by omega) (by omega), aI 220 (by omega) (by omega) (by omega) (by omega) (by omega)]; exact h8
theorem mI_o {M : Mm} {a k x : Nat} {v : Int32} (h : x ≠ a) : mI (sI M a k v) x = mI M x := funext fun j => if_neg (fun z => h z.1)
theorem mI_f {M : Mm} {a k j : Nat} {v : Int32} (h : j ≠ k) : mI (sI M a k v) a j = mI M a j := if_neg (fun z => h z.2)
theorem Ag.rf {M : Mm} {a : Nat} : Ag M M a := ⟨rfl, rfl, rfl, rfl, fun _ _ _ _ _ _ => rfl, fun _ _ => rfl, fun _ _ => rfl, fun _ _ => rfl⟩
theorem Ag.s0 {M M' : Mm} {a : Nat} (A : Ag M M' a) (v : Int32) : Ag M (sI M' 0 0 v) a := ⟨A.1, A.2.1, A.2.2.1, A.2.2.2.1, fun x h1 h2 h3 h4 h5 => by rw [mI_o h2]; exact A.2.2.2.2.1 x h1 h2 h3 h4 h5, fun k hk => by rw [mI_f hk]; exact A.2.2.2.2.2.1 k hk, fun k hk => by rw [mI_o (by decide)]; exact A.2.2.2.2.2.2.1 k hk, fun k hk => by rw [mI_o (by decide)]; exact A.2.2.2.2.2.2.2 k hk⟩
theorem Ag.s7 {M M' : Mm} {a : Nat} (A : Ag M M' a) {j : Nat} (hj : j < 8 ∨ j = 9 ∨ (11 < j ∧ j < 23) ∨ (23 < j ∧ j < 30) ∨ (30 < j ∧ j < 33) ∨ (33 < j ∧ j < 36) ∨ 36 < j) (v : Int32) : Ag M (sI M' 207 j v) a := ⟨A.1, A.2.1, A.2.2.1, A.2.2.2.1, fun x h1 h2 h3 h4 h5 => by rw [mI_o h3]; exact A.2.2.2.2.1 x h1 h2 h3 h4 h5, fun k hk => by rw [mI_o (by decide)]; exact A.2.2.2.2.2.1 k hk, fun k hk => by rw [mI_f (by omega)]; exact A.2.2.2.2.2.2.1 k hk, fun k hk => by rw [mI_o (by decide)]; exact A.2.2.2.2.2.2.2 k hk⟩
theorem Ag.fr {M M' M'' : Mm} {a : Nat} (A : Ag M M' a) (ha : a = 12 ∨ a = 43) (F : FrI M' M'' a 31) : Ag M M'' a := ⟨F.1.trans A.1, F.2.1.trans A.2.1, F.2.2.1.trans A.2.2.1, F.2.2.2.1.trans A.2.2.2.1, fun x h1 h2 h3 h4 h5 => by rw [F.2.2.2.2 x h1]; exact A.2.2.2.2.1 x h1 h2 h3 h4 h5, fun k hk => by rw [F.2.2.2.2 0 (by omega)]; exact A.2.2.2.2.2.1 k hk, fun k hk => by rw [F.2.2.2.2 207 (by omega)]; exact A.2.2.2.2.2.2.1 k hk, fun k hk => by rw [F.2.2.2.2 212 (by omega)]; exact A.2.2.2.2.2.2.2 k hk⟩
theorem Ag.sc {M M' : Mm} {a : Nat} (A : Ag M M' a) {f : Nat → Int32} (hf : ∀ k, k < 3 ∨ 173 ≤ k → f k = mI M 212 k) : Ag M (sA M' 212 f) a := ⟨A.1, A.2.1, A.2.2.1, A.2.2.2.1, fun x h1 h2 h3 h4 h5 => by rw [mI_sA_o M' f h4]; exact A.2.2.2.2.1 x h1 h2 h3 h4 h5, fun k hk => by rw [mI_sA_o M' f (by decide)]; exact A.2.2.2.2.2.1 k hk, fun k hk => by rw [mI_sA_o M' f (by decide)]; exact A.2.2.2.2.2.2.1 k hk, fun k hk => by rw [mI_sA_s]; exact hf k hk⟩
/-- nothing but a status came -/
theorem RR_st {M : Mm} (h : RR M) (s : Int32) : RR (stM M s) := by
  obtain ⟨a, b, y, z, H⟩ := h
  refine ⟨a, b, y, z, RA_sh H (((Ag.rf.s0 s).s7 (by omega) 0).s7 (by omega) s) ?_ ?_ ?_⟩
  · unfold stM
    rw [mI_o (by decide), mI_o (by decide), mI_sI_s, mI_sI_s]
  · have ha := ll_a H.1
    have e : mI (stM M s) 212 = mI M 212 := by
      unfold stM
      rw [mI_o (by decide), mI_o (by decide), mI_o (by decide)]
    rw [e]
    refine shO_same H.2.1 rfl rfl fun x x1 x2 => ?_
    unfold stM
    rw [mI_o (by omega), mI_o (by omega), mI_o (by omega)]
  · unfold stM
    rw [mI_o (by decide), mI_o (by decide), mI_o (by decide)]
    exact H.2.2.1.1
