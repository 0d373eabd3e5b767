/-! BY ALL GANGS: the least greatest share -/
def mnv (A T : Nat → Nat) (s : Nat) : Nat → Nat → Nat → Nat
  | 0, _, acc => acc
  | f + 1, o, acc => if o = 0 then acc else mnv A T s f ((o - 1) &&& s) (min acc (max (A o) (T (s &&& (o ^^^ 4294967295)))))
def TT (c : Nat → Int32) : Nat → Nat → Nat
  | 0, s => if s = 0 then 0 else 1000000
  | g + 1, s => mnv (sV c g) (TT c g) s fu s (TT c g s)
def inS (o s : Nat) : Prop := ∀ k, o.testBit k = true → s.testBit k = true
theorem inS_and {x s : Nat} : inS (x &&& s) s := fun k h => by
  rw [Nat.testBit_and, Bool.and_eq_true] at h
  exact h.2
theorem inS_and1 {x s : Nat} : inS (s &&& x) s := fun k h => by
  rw [Nat.testBit_and, Bool.and_eq_true] at h
  exact h.1
theorem inS_le {o s : Nat} (h : inS o s) : o ≤ s := by
  have e : o &&& s = o := Nat.eq_of_testBit_eq fun k => by
    rw [Nat.testBit_and]
    cases q : o.testBit k
    · rfl
    · rw [h k q]; rfl
  rw [← e]
  exact Nat.and_le_right
theorem inS_ne {o s : Nat} (hs : s < 256) (h : inS o s) (h0 : o ≠ 0) : s &&& (o ^^^ 4294967295) < s := by
  refine Nat.lt_of_le_of_ne Nat.and_le_left fun e => ?_
  obtain ⟨k, hk⟩ := nz_bit h0
  have h2 := h k hk
  have h8 := bit_8 hs h2
  have h3 : (s &&& (o ^^^ 4294967295)).testBit k = true := by rw [e]; exact h2
  rw [andn_bit (by omega), hk] at h3
  simp at h3
theorem mnv_le {A T : Nat → Nat} {s : Nat} : ∀ f o acc, mnv A T s f o acc ≤ acc
  | 0, _, _ => Nat.le_refl _
  | f + 1, o, acc => by
    rw [mnv]
    by_cases q : o = 0
    · rw [if_pos q]; exact Nat.le_refl _
    · rw [if_neg q]
      exact Nat.le_trans (mnv_le f _ _) (Nat.min_le_left _ _)
theorem mnv_ge {A T : Nat → Nat} {s v : Nat} (h : ∀ o, o ≠ 0 → inS o s → v ≤ max (A o) (T (s &&& (o ^^^ 4294967295)))) : ∀ f o acc, inS o s → v ≤ acc → v ≤ mnv A T s f o acc
  | 0, _, _, _, h2 => h2
  | f + 1, o, acc, h1, h2 => by
    rw [mnv]
    by_cases q : o = 0
    · rw [if_pos q]; exact h2
    · rw [if_neg q]
      have h3 := h o q h1
      exact mnv_ge h f _ _ inS_and (by omega)
theorem TT_0 (c : Nat → Int32) : ∀ g, TT c g 0 = 0
  | 0 => rfl
  | g + 1 => by
    show mnv (sV c g) (TT c g) 0 fu 0 (TT c g 0) = 0
    rw [TT_0 c g]
    exact Nat.le_zero.mp (mnv_le _ _ _)
theorem TT_le (c : Nat → Int32) : ∀ g s, TT c g s ≤ 1000000
  | 0, s => by
    show (if s = 0 then 0 else 1000000) ≤ 1000000
    by_cases q : s = 0
    · rw [if_pos q]; omega
    · rw [if_neg q]; omega
  | g + 1, s => Nat.le_trans (mnv_le _ _ _) (TT_le c g s)
theorem TT_ns (c : Nat → Int32) : ∀ g s, s < 256 → ¬ sub c s → 99999 ≤ TT c g s
  | 0, s, hs, h => by
    show 99999 ≤ (if s = 0 then 0 else 1000000)
    rw [if_neg (fun e => h (by rw [e]; exact sub_0))]
    omega
  | g + 1, s, hs, h => by
    show 99999 ≤ mnv (sV c g) (TT c g) s fu s (TT c g s)
    refine mnv_ge (fun o h0 ho => ?_) _ _ _ (fun k hk => hk) (TT_ns c g s hs h)
    have hlt := inS_ne hs ho h0
    have hle := inS_le ho
    by_cases q : sub c o
    · by_cases q2 : sub c (s &&& (o ^^^ 4294967295))
      · exfalso
        refine h ((sub_bit hs).mpr fun k hk => ?_)
        have h8 := bit_8 hs hk
        cases e : o.testBit k
        · refine (sub_bit (by omega)).mp q2 k ?_
          rw [andn_bit (by omega), hk, e]
          rfl
        · exact (sub_bit (by omega)).mp q k e
      · have := TT_ns c g _ (by omega) q2
        omega
    · have : sV c g o = 99999 := by
        unfold sV
        exact if_neg q
      omega
theorem sub_in {c : Nat → Int32} {o s : Nat} (hs : s < 256) (h : sub c s) (ho : inS o s) : sub c o := by
  have := inS_le ho
  rw [sub_bit (by omega)]
  intro k hk
  exact (sub_bit hs).mp h k (ho k hk)
theorem sub_u {c : Nat → Int32} {s : Nat} (hs : s < 256) (h : sub c s) : s ≤ uN c := inS_le fun k hk => by
  have h2 := (sub_bit hs).mp h k hk
  unfold uN
  rw [stN_bit]
  simpa using h2
theorem u_sub {c : Nat → Int32} (O : okC c) : sub c (uN c) := (sub_bit (u_set O).2).mpr fun k hk => by
  unfold uN at hk
  rw [stN_bit] at hk
  simpa using hk
theorem nI_le0 {n : Nat} (h : n < 2147483648) : nI n ≤ 0 ↔ n = 0 := by
  rw [show (0 : Int32) = nI 0 from rfl, nI_leI' h (by omega)]
  omega
theorem nI_m1 (n : Nat) : nI (n + 1) + (-1) = nI n := by
  rw [← nI_1, Int32.add_assoc, show (1 : Int32) + -1 = 0 from by decide, Int32.add_zero]
def plL (M : Mm) : Prop := mK M 88 = (3, 4) ∧ mR M 88 0 = some 89 ∧ mR M 88 2 = some 90 ∧ mR M 88 3 = some 91 ∧ mK M 89 = (21, 8) ∧ mK M 90 = (21, 256) ∧ mK M 91 = (21, 256)
theorem pl_of {M : Mm} {a b y z : Nat} (H : LL M a b y z) : plL M := H.1.2.2.2.2.2.1
theorem FS_pl {P : Nat → Prop} {M M' : Mm} (h : FS P M M') (D : plL M) : plL M' := by
  unfold plL at *
  rw [h.1, h.2.2.1]
  exact D
section R
variable {ρ : Type} {M : Mm} {k : Nat}
theorem pl_ck (D : plL M) {x : Option ρ} : ck M (some 88) 3 x = x := ck_s (by rw [D.1])
theorem pl_r0 (D : plL M) {K : Option Nat → Option ρ} : gfR M (some 88) 3 0 K = K (some 89) := by rw [gfR_s (by rw [D.1]), D.2.1]
theorem pl_r2 (D : plL M) {K : Option Nat → Option ρ} : gfR M (some 88) 3 2 K = K (some 90) := by rw [gfR_s (by rw [D.1]), D.2.2.1]
theorem pl_r3 (D : plL M) {K : Option Nat → Option ρ} : gfR M (some 88) 3 3 K = K (some 91) := by rw [gfR_s (by rw [D.1]), D.2.2.2.1]
theorem r90 (D : plL M) (hk : k < 256) {K : Int32 → Option ρ} : alI M (some 90) 21 (nI k) K = K (mI M 90 k) := alI_s D.2.2.2.2.2.1 hk (by decide)
theorem s90 (D : plL M) (hk : k < 256) {v : Int32} {K : Mm → Option ρ} : asI M (some 90) 21 (nI k) v K = K (sI M 90 k v) := asI_s D.2.2.2.2.2.1 hk (by decide)
theorem r91 (D : plL M) (hk : k < 256) {K : Int32 → Option ρ} : alI M (some 91) 21 (nI k) K = K (mI M 91 k) := alI_s D.2.2.2.2.2.2 hk (by decide)
theorem s91 (D : plL M) (hk : k < 256) {v : Int32} {K : Mm → Option ρ} : asI M (some 91) 21 (nI k) v K = K (sI M 91 k v) := asI_s D.2.2.2.2.2.2 hk (by decide)
end R
section G
variable {M : Mm} {c : Nat → Int32} {a g : Nat}
theorem p_27 (P : plL M) {A T : Nat → Nat} {s u : Nat} (hs : s < 256) (hA : ∀ o, inS o s → mI M 90 o = nI (A o) ∧ A o ≤ 1000000) (hT : ∀ o, inS o s → o < s → mI M 91 o = nI (T o) ∧ T o ≤ 1000000) (k2 : Mm → Option Nat → Int32 → Int32 → Option Mm) : ∀ n o acc, o < n → inS o s → acc ≤ 1000000 → f_X3_addGang_27 k2 n M (some 88) (nI u) (nI s) (nI acc) (nI o) = f_X3_addGang_76 k2 (sI M 91 s (nI (mnv A T s n o acc))) (some 88) (nI u) (nI s) := by
  intro n
  induction n with
  | zero => intro o acc h; omega
  | succ n ih =>
    intro o acc h ho hacc
    have hle := inS_le ho
    rw [f_X3_addGang_27, mnv]
    by_cases q : o = 0
    · rw [if_pos ((nI_le0 (by omega)).mpr q), if_pos q, pl_r3 P, s91 P hs]
    · have hlt := inS_ne hs ho q
      have a1 := hA o ho
      have a2 := hT _ (inS_and1 (x := o ^^^ 4294967295)) hlt
      have hle2 : (o - 1) &&& s ≤ o - 1 := Nat.and_le_left
      rw [if_neg (fun z => q ((nI_le0 (by omega)).mp z)), if_neg q, pl_r2 P, r90 P (by omega), a1.1, pl_r3 P, nI_not, nI_and, r91 P (by omega), a2.1, mx_nI (by omega) (by omega), mn_nI (by omega) (by omega), nmI_s, show (1 : Int32) = nI 1 from rfl, nI_sub (by omega), nI_and, nmI_s]
      exact ih _ _ (by omega) inS_and (by omega)
theorem p_addGang (P : plL M) (O : okC c) (hg : g < gN c) (hA : ∀ t, t < 256 → sub c t → mI M 90 t = nI (sV c g t)) (hT : ∀ t, t < 256 → sub c t → mI M 91 t = nI (TT c g t)) : ∃ N, f_X3_addGang M (some 88) (nI (uN c)) = some N ∧ FS P9 M N ∧ ∀ t, t < 256 → sub c t → mI N 91 t = nI (TT c (g + 1) t) := by
  have u8 := (u_set O).2
  have loop : ∃ N, f_X3_addGang_2 fu M (some 88) (nI (uN c)) (nI (uN c)) = some N ∧ (FS P9 M N ∧ (∀ o, mI N 90 o = mI M 90 o) ∧ ∀ t, t < 256 → sub c t → mI N 91 t = nI (if 0 < t then TT c (g + 1) t else TT c g t)) := by
    refine ldnE0 (fun f N S => f_X3_addGang_2 f N (some 88) (nI (uN c)) (nI S)) (fun S N => FS P9 M N ∧ (∀ o, mI N 90 o = mI M 90 o) ∧ ∀ t, t < 256 → sub c t → mI N 91 t = nI (if S < t then TT c (g + 1) t else TT c g t)) (uN c) (fun N => some N) (by omega) (fun f S N hS hI => ?_) (fun f N hI => ?_) M ⟨FS.rf, fun _ => rfl, fun t ht h2 => by rw [if_neg (by have := sub_u ht h2; omega)]; exact hT t ht h2⟩
    · obtain ⟨h1, h2, h3⟩ := hI
      have PN := FS_pl h1 P
      by_cases q : sub c (S + 1)
      · have e : f_X3_addGang_2 (f + 1) N (some 88) (nI (uN c)) (nI (S + 1)) = f_X3_addGang_2 f (sI N 91 (S + 1) (nI (TT c (g + 1) (S + 1)))) (some 88) (nI (uN c)) (nI S) := by
          rw [f_X3_addGang_2, if_neg (fun z => by have := (nI_le0 (by omega)).mp z; omega), if_pos ((sub_nI (by omega)).mpr q), pl_r3 PN, r91 PN (by omega), h3 _ (by omega) q, if_neg (by omega)]
          rw [p_27 PN (A := sV c g) (T := TT c g) (by omega) (fun o ho => ⟨by
            have := inS_le ho
            rw [h2 o]
            exact hA o (by omega) (sub_in (by omega) q ho), by have := sV_le O hg o; omega⟩) (fun o ho hlt => ⟨by
            rw [h3 o (by omega) (sub_in (by omega) q ho), if_neg (by omega)], TT_le c g o⟩) _ _ _ _ (by unfold fu; omega) (fun k hk => hk) (TT_le c g _), f_X3_addGang_76, nI_m1]
          rfl
        refine ⟨_, e, h1.sI (Or.inr rfl) _ _, fun o => by rw [mI_o (by decide)]; exact h2 o, fun t ht hst => ?_⟩
        by_cases q2 : t = S + 1
        · rw [q2, mI_sI_s, if_pos (by omega)]
        · rw [mI_f q2, h3 t ht hst]
          by_cases q3 : S + 1 < t
          · rw [if_pos q3, if_pos (by omega)]
          · rw [if_neg q3, if_neg (by omega)]
      · refine ⟨N, ?_, h1, h2, fun t ht hst => ?_⟩
        · rw [f_X3_addGang_2, if_neg (fun z => by have := (nI_le0 (by omega)).mp z; omega), if_neg (fun z => q ((sub_nI (by omega)).mp z)), f_X3_addGang_76, nI_m1]
        · have q2 : t ≠ S + 1 := fun e => q (by rw [← e]; exact hst)
          rw [h3 t ht hst]
          by_cases q3 : S + 1 < t
          · rw [if_pos q3, if_pos (by omega)]
          · rw [if_neg q3, if_neg (by omega)]
    · show f_X3_addGang_2 (f + 1) N (some 88) (nI (uN c)) (nI 0) = _
      rw [f_X3_addGang_2, if_pos ((nI_le0 (by omega)).mpr rfl)]
  obtain ⟨N, e1, e2, e3, e4⟩ := loop
  refine ⟨N, e1, e2, fun t ht hst => ?_⟩
  rw [e4 t ht hst]
  by_cases q : 0 < t
  · rw [if_pos q]
  · rw [if_neg q, show t = 0 by omega, TT_0, TT_0]
theorem p_46 (S : shO M a c) (ha : a = 12 ∨ a = 43) (P : plL M) (hg : g < gN c) (k35 : Mm → Option Nat → Option Nat → Int32 → Int32 → Option Mm) (hT : ∀ t, t < 256 → sub c t → mI M 91 t = nI (TT c g t)) : ∃ N, f_X3_shareOut_46 k35 fu M (some 88) (some a) (nI (uN c)) (nI g) 0 = k35 N (some 88) (some a) (nI (uN c)) (nI (g + 1)) ∧ FS P9 M N ∧ ∀ t, t < 256 → sub c t → mI N 91 t = nI (TT c (g + 1) t) := by
  have u8 := (u_set S.2.2).2
  have O := S.2.2
  have hP9 : ∀ x, a ≤ x → x < a + 31 → ¬ P9 x := fun x h1 h2 => by unfold P9; omega
  obtain ⟨N, e1, e2, e3, e4⟩ : ∃ N, f_X3_shareOut_46 k35 fu M (some 88) (some a) (nI (uN c)) (nI g) (nI 0) = (bv (f_X3_addGang N (some 88) (nI (uN c))) fun M89 => k35 M89 (some 88) (some a) (nI (uN c)) (nI g + 1)) ∧ (FS P9 M N ∧ (∀ t, t < uN c + 1 → sub c t → mI N 90 t = nI (sSm c g t)) ∧ ∀ t, mI N 91 t = mI M 91 t) := by
    refine lupE0 (fun f N x => f_X3_shareOut_46 k35 f N (some 88) (some a) (nI (uN c)) (nI g) (nI x)) (fun x N => FS P9 M N ∧ (∀ t, t < x → sub c t → mI N 90 t = nI (sSm c g t)) ∧ ∀ t, mI N 91 t = mI M 91 t) (uN c + 1) (fun N => bv (f_X3_addGang N (some 88) (nI (uN c))) fun M89 => k35 M89 (some 88) (some a) (nI (uN c)) (nI g + 1)) (by omega) (fun f x N hx hI => ?_) (fun f N hI => ?_) M ⟨FS.rf, fun t ht => by omega, fun _ => rfl⟩
    · obtain ⟨h1, h2, h3⟩ := hI
      have PN := FS_pl h1 P
      have SN := h1.sho hP9 S
      have fin : ∀ v, (sub c x → v = sSm c g x) → FS P9 M (sI N 90 x (nI v)) ∧ (∀ t, t < x + 1 → sub c t → mI (sI N 90 x (nI v)) 90 t = nI (sSm c g t)) ∧ ∀ t, mI (sI N 90 x (nI v)) 91 t = mI M 91 t := fun v hv => by
        refine ⟨h1.sI (Or.inl rfl) _ _, fun t ht hst => ?_, fun t => by rw [mI_o (by decide)]; exact h3 t⟩
        by_cases q : t = x
        · subst q
          rw [mI_sI_s, hv hst]
        · rw [mI_f q]
          exact h2 t (by omega) hst
      by_cases q : sub c x
      · refine ⟨_, ?_, fin (sSm c g x) (fun _ => rfl)⟩
        rw [f_X3_shareOut_46, if_neg (by rw [nI_ltI' (by omega) (by omega)]; omega), pl_r2 PN, if_pos ((sub_nI (by omega)).mpr q), pl_ck PN, p_minF SN (by rw [PN.1]) hg (by omega), bd_s, f_X3_shareOut_80, s90 PN (by omega), nI_1]
      · refine ⟨_, ?_, fin 1000000 (fun z => absurd z q)⟩
        rw [f_X3_shareOut_46, if_neg (by rw [nI_ltI' (by omega) (by omega)]; omega), pl_r2 PN, if_neg (fun z => q ((sub_nI (by omega)).mp z)), f_X3_shareOut_80, s90 PN (by omega), nI_1]
        rfl
    · have PN := FS_pl hI.1 P
      rw [f_X3_shareOut_46, if_pos (by rw [nI_ltI' (by omega) (by omega)]; omega), pl_ck PN]
  have PN := FS_pl e2 P
  obtain ⟨N2, f1, f2, f3⟩ := p_addGang PN O hg (fun t ht hst => by
    rw [e3 t (by have := sub_u ht hst; omega) hst]
    unfold sV
    rw [if_pos hst]) (fun t ht hst => by rw [e4 t]; exact hT t ht hst)
  refine ⟨N2, ?_, e2.tr f2, f3⟩
  show f_X3_shareOut_46 k35 fu M (some 88) (some a) (nI (uN c)) (nI g) (nI 0) = _
  rw [e1, f1, bv_s, nI_1]
theorem p_shareOut (S : shO M a c) (ha : a = 12 ∨ a = 43) (P : plL M) : ∃ N, f_X3_shareOut M (some 88) (some a) = some N ∧ FS P9 M N ∧ ∀ t, t < 256 → sub c t → mI N 91 t = nI (TT c (gN c) t) := by
  have u8 := (u_set S.2.2).2
  have O := S.2.2
  have g4 := (ok_g O).2
  have hP9 : ∀ x, a ≤ x → x < a + 31 → ¬ P9 x := fun x h1 h2 => by unfold P9; omega
  obtain ⟨N, e1, e2, e3⟩ : ∃ N, f_X3_shareOut_7 fu M (some 88) (some a) (nI (uN c)) (nI 1) = f_X3_shareOut_35 fu (sI N 91 0 0) (some 88) (some a) (nI (uN c)) 0 ∧ (FS P9 M N ∧ ∀ t, 1 ≤ t → t < uN c + 1 → mI N 91 t = nI 1000000) := by
    refine lupE (fun f N x => f_X3_shareOut_7 f N (some 88) (some a) (nI (uN c)) (nI x)) (fun x N => FS P9 M N ∧ ∀ t, 1 ≤ t → t < x → mI N 91 t = nI 1000000) (uN c + 1) (fun N => f_X3_shareOut_35 fu (sI N 91 0 0) (some 88) (some a) (nI (uN c)) 0) (fun f x N hx hI => ?_) (fun f N hI => ?_) fu 1 M (by omega) (by unfold fu; omega) ⟨FS.rf, fun t h1 h2 => by omega⟩
    · obtain ⟨h1, h2⟩ := hI
      have PN := FS_pl h1 P
      refine ⟨sI N 91 x (nI 1000000), ?_, h1.sI (Or.inr rfl) _ _, fun t t1 t2 => ?_⟩
      · rw [f_X3_shareOut_7, if_neg (by rw [nI_ltI' (by omega) (by omega)]; omega), pl_r3 PN, s91 PN (by omega), nI_1]
        rfl
      · by_cases q : t = x
        · rw [q, mI_sI_s]
        · rw [mI_f q]
          exact h2 t t1 (by omega)
    · have PN := FS_pl hI.1 P
      rw [f_X3_shareOut_7, if_pos (by rw [nI_ltI' (by omega) (by omega)]; omega), pl_r3 PN]
      exact s91 (k := 0) PN (by omega)
  have F0 : FS P9 M (sI N 91 0 0) := e2.sI (Or.inr rfl) _ _
  obtain ⟨N3, f1, f2, f3⟩ : ∃ N3, f_X3_shareOut_35 fu (sI N 91 0 0) (some 88) (some a) (nI (uN c)) 0 = some N3 ∧ (FS P9 M N3 ∧ ∀ t, t < 256 → sub c t → mI N3 91 t = nI (TT c (gN c) t)) := by
    refine lupE0 (fun f N g => f_X3_shareOut_35 f N (some 88) (some a) (nI (uN c)) (nI g)) (fun g N => FS P9 M N ∧ ∀ t, t < 256 → sub c t → mI N 91 t = nI (TT c g t)) (gN c) (fun N => some N) (by omega) (fun f g N hg hI => ?_) (fun f N hI => ?_) (sI N 91 0 0) ⟨F0, fun t ht hst => ?_⟩
    · obtain ⟨h1, h2⟩ := hI
      have SN := h1.sho hP9 S
      obtain ⟨N2, k1, k2, k3⟩ := p_46 SN ha (FS_pl h1 P) hg (f_X3_shareOut_35 f) h2
      refine ⟨N2, ?_, h1.tr k2, k3⟩
      rw [f_X3_shareOut_35, e_gc SN, if_neg (gc_in O hg)]
      exact k1
    · have SN := hI.1.sho hP9 S
      rw [f_X3_shareOut_35, e_gc SN, if_pos (gc_out O)]
    · show mI (sI N 91 0 0) 91 t = nI (if t = 0 then 0 else 1000000)
      by_cases q : t = 0
      · rw [q, mI_sI_s, if_pos rfl]
        rfl
      · rw [mI_f q, if_neg q]
        exact e3 t (by omega) (by have := sub_u ht hst; omega)
  refine ⟨N3, ?_, f2, f3⟩
  unfold f_X3_shareOut
  rw [lc_s S.1, p_open S, bd_s, (u_set O).1]
  exact e1.trans f1
/-! the reference's -/
def P7 (x : Nat) : Prop := x = 217
theorem q_68 {A T : Nat → Nat} {s : Nat} (g4 : g < 4) (hs : s < 256) (k48 : Mm → Option Nat → Int32 → Option (Int32 × Mm)) (k62 : Mm → Option Nat → Int32 → Int32 → Option (Int32 × Mm)) : ∀ n o acc N, o < n → inS o s → acc ≤ 1000000 → mdL N → (∀ o, o < 256 → mI N 216 (256 * g + o) = nI (A o) ∧ A o ≤ 99999) → (∀ t, t < s → mI N 217 t = nI (min (T t) 99999)) → mI N 217 s = nI (min acc 99999) → ∃ N', f_X12_allOff_68 k48 k62 n N (some 207) (nI g) (nI s) (nI o) = k62 N' (some 207) (nI g) (nI s + (-1)) ∧ FS P7 N N' ∧ (∀ t, t ≠ s → mI N' 217 t = mI N 217 t) ∧ mI N' 217 s = nI (min (mnv A T s n o acc) 99999) := by
  intro n
  induction n with
  | zero => intro o acc N h; omega
  | succ n ih =>
    intro o acc N h ho hacc D hA hT hacc2
    have hle := inS_le ho
    by_cases q : o = 0
    · refine ⟨N, ?_, FS.rf, fun _ _ => rfl, ?_⟩
      · rw [f_X12_allOff_68, if_pos ((nI_le0 (by omega)).mpr q)]
      · rw [mnv, if_pos q]
        exact hacc2
    · have hlt := inS_ne hs ho q
      have a1 := hA o (by omega)
      have a2 := hT _ hlt
      have hle2 : (o - 1) &&& s ≤ o - 1 := Nat.and_le_left
      have D2 : mdL (sI N 217 s (nI (min (min acc 99999) (max (A o) (min (T (s &&& (o ^^^ 4294967295))) 99999))))) := D
      have em : min (min acc 99999) (max (A o) (min (T (s &&& (o ^^^ 4294967295))) 99999)) = min (min acc (max (A o) (T (s &&& (o ^^^ 4294967295))))) 99999 := by omega
      obtain ⟨N', k1, k2, k3, k4⟩ := ih ((o - 1) &&& s) (min acc (max (A o) (T (s &&& (o ^^^ 4294967295))))) (sI N 217 s (nI (min (min acc 99999) (max (A o) (min (T (s &&& (o ^^^ 4294967295))) 99999))))) (by omega) inS_and (by omega) D2 (fun o ho => by rw [mI_o (by decide)]; exact hA o ho) (fun t ht => by rw [mI_f (by omega)]; exact hT t ht) (by rw [mI_sI_s, em])
      refine ⟨N', ?_, ((FS.rf (P := P7)).sI rfl _ _).tr k2, fun t ht => ?_, ?_⟩
      · rw [f_X12_allOff_68, if_neg (fun z => q ((nI_le0 (by omega)).mp z)), m_r29 D, m_r29 D, r217 D hs, hacc2, m_r28 D, i256m, nI_add, r216 D (by omega), a1.1, m_r29 D, nI_not, nI_and, r217 D (by omega), a2, mx_nI (by omega) (by omega), mn_nI (by omega) (by omega), s217 D hs, show (1 : Int32) = nI 1 from rfl, nI_sub (by omega), nI_and, nmI_s]
        exact k1
      · rw [k3 t ht, mI_f ht]
      · rw [mnv, if_neg q]
        exact k4
def IO (M : Mm) (c : Nat → Int32) (F : Nat → Nat) (N : Mm) : Prop := FS P6 M N ∧ (∀ g t, g < gN c → t < 256 → mI N 216 (256 * g + t) = nI (sV c g t)) ∧ ∀ t, t < 256 → mI N 217 t = nI (F t)
theorem q_62 (D : md M c) (O : okC c) (hg : g < gN c) (k48 : Mm → Option Nat → Int32 → Option (Int32 × Mm)) {N : Mm} (h : IO M c (fun t => min (TT c g t) 99999) N) : ∃ N', f_X12_allOff_62 k48 fu N (some 207) (nI g) 255 = k48 N' (some 207) (nI (g + 1)) ∧ IO M c (fun t => min (TT c (g + 1) t) 99999) N' := by
  have g4 := (ok_g O).2
  obtain ⟨N', e1, e2, e3, e4⟩ : ∃ N', f_X12_allOff_62 k48 fu N (some 207) (nI g) (nI 255) = k48 N' (some 207) (nI g + 1) ∧ IO M c (fun t => min (if 0 < t then TT c (g + 1) t else TT c g t) 99999) N' := by
    refine ldnE0 (fun f N S => f_X12_allOff_62 k48 f N (some 207) (nI g) (nI S)) (fun S N => IO M c (fun t => min (if S < t then TT c (g + 1) t else TT c g t) 99999) N) 255 (fun N => k48 N (some 207) (nI g + 1)) (by omega) (fun f S N hS hI => ?_) (fun f N hI => ?_) N ⟨h.1, h.2.1, fun t ht => by rw [h.2.2 t ht]; dsimp only; rw [if_neg (by omega)]⟩
    · obtain ⟨h1, h2, h3⟩ := hI
      have DN : md N c := h1.mdc (by unfold P6; omega) D
      obtain ⟨N', k1, k2, k3, k4⟩ := q_68 (A := sV c g) (T := TT c g) (s := S + 1) (by omega) (by omega) k48 (f_X12_allOff_62 k48 f) fu (S + 1) (TT c g (S + 1)) N (by unfold fu; omega) (fun k hk => hk) (TT_le c g _) DN.1 (fun o ho => ⟨h2 g o hg ho, sV_le O hg o⟩) (fun t ht => by rw [h3 t (by omega)]; dsimp only; rw [if_neg (by omega)]) (by rw [h3 _ (by omega)]; dsimp only; rw [if_neg (by omega)])
      refine ⟨N', ?_, h1.tr (k2.mo fun x hx => Or.inr (Or.inr hx)), fun g' t hg' ht => ?_, fun t ht => ?_⟩
      · rw [f_X12_allOff_62, if_neg (fun z => by have := (nI_le0 (by omega)).mp z; omega), k1, nI_m1]
      · rw [k2.2.2.2.2 216 (by unfold P7; omega)]
        exact h2 g' t hg' ht
      · by_cases q : t = S + 1
        · rw [q, k4]
          dsimp only
          rw [if_pos (by omega)]
          rfl
        · rw [k3 t q, h3 t ht]
          dsimp only
          by_cases q3 : S + 1 < t
          · rw [if_pos q3, if_pos (by omega)]
          · rw [if_neg q3, if_neg (by omega)]
    · show f_X12_allOff_62 k48 (f + 1) N (some 207) (nI g) (nI 0) = _
      rw [f_X12_allOff_62, if_pos ((nI_le0 (by omega)).mpr rfl)]
  refine ⟨N', ?_, e2, e3, fun t ht => ?_⟩
  · show f_X12_allOff_62 k48 fu N (some 207) (nI g) (nI 255) = _
    rw [e1, nI_1]
  · rw [e4 t ht]
    dsimp only
    by_cases q : 0 < t
    · rw [if_pos q]
    · rw [if_neg q, show t = 0 by omega, TT_0, TT_0]
theorem q_allOff (D : md M c) (O : okC c) : ∃ N, FS P6 M N ∧ (bv (f_X12_fillAll M (some 207)) fun M11 => f_X12_allOff_16 fu M11 (some 207) 0) = if TT c (gN c) (uN c) ≤ 999 then some (nI (TT c (gN c) (uN c)), N) else some (-1, sI N 207 0 8) := by
  have g4 := (ok_g O).2
  have u8 := (u_set O).2
  obtain ⟨N0, a1, a2, a3⟩ := q_fillAll D O
  obtain ⟨N1, b1, b2, b3, b4⟩ : ∃ N1, f_X12_allOff_16 fu N0 (some 207) (nI 0) = f_X12_allOff_48 fu N1 (some 207) 0 ∧ (FS P6 M N1 ∧ (∀ g t, g < gN c → t < 256 → mI N1 216 (256 * g + t) = nI (sV c g t)) ∧ ∀ t, t < 256 → mI N1 217 t = nI (min (TT c 0 t) 99999)) := by
    refine lupE0 (fun f N x => f_X12_allOff_16 f N (some 207) (nI x)) (fun x N => FS P6 M N ∧ (∀ g t, g < gN c → t < 256 → mI N 216 (256 * g + t) = nI (sV c g t)) ∧ ∀ t, t < x → mI N 217 t = nI (min (TT c 0 t) 99999)) 256 (fun N => f_X12_allOff_48 fu N (some 207) 0) (by omega) (fun f x N hx hI => ?_) (fun f N hI => ?_) N0 ⟨a2, a3, fun t ht => by omega⟩
    · obtain ⟨h1, h2, h3⟩ := hI
      have DN : md N c := h1.mdc (by unfold P6; omega) D
      have fin : ∀ v, v = min (TT c 0 x) 99999 → FS P6 M (sI N 217 x (nI v)) ∧ (∀ g t, g < gN c → t < 256 → mI (sI N 217 x (nI v)) 216 (256 * g + t) = nI (sV c g t)) ∧ ∀ t, t < x + 1 → mI (sI N 217 x (nI v)) 217 t = nI (min (TT c 0 t) 99999) := fun v hv => by
        refine ⟨h1.sI (Or.inr (Or.inr rfl)) _ _, fun g t hg ht => by rw [mI_o (by decide)]; exact h2 g t hg ht, fun t ht => ?_⟩
        by_cases q : t = x
        · rw [q, mI_sI_s, hv]
        · rw [mI_f q]
          exact h3 t (by omega)
      by_cases q : x = 0
      · refine ⟨_, ?_, fin 0 (by rw [q]; rfl)⟩
        rw [f_X12_allOff_16, if_neg (by rw [show (256 : Int32) = nI 256 from rfl, nI_leI' (by omega) (by omega)]; omega), m_r29 DN.1, if_pos ((nI_z (by omega)).mpr q), f_X12_allOff_39, s217 DN.1 hx, nI_1]
        rfl
      · refine ⟨_, ?_, fin 99999 (by show _ = min (if x = 0 then 0 else 1000000) 99999; rw [if_neg q]; rfl)⟩
        rw [f_X12_allOff_16, if_neg (by rw [show (256 : Int32) = nI 256 from rfl, nI_leI' (by omega) (by omega)]; omega), m_r29 DN.1, if_neg (fun z => q ((nI_z (by omega)).mp z)), f_X12_allOff_39, s217 DN.1 hx, nI_1]
        rfl
    · show f_X12_allOff_16 (f + 1) N (some 207) (nI 256) = _
      rw [f_X12_allOff_16, if_pos (by decide)]
  obtain ⟨N, d1, d2⟩ : ∃ N, f_X12_allOff_48 fu N1 (some 207) (nI 0) = (if TT c (gN c) (uN c) ≤ 999 then some (nI (TT c (gN c) (uN c)), N) else some (-1, sI N 207 0 8)) ∧ IO M c (fun t => min (TT c (gN c) t) 99999) N := by
    refine lupE0 (fun f N g => f_X12_allOff_48 f N (some 207) (nI g)) (fun g N => IO M c (fun t => min (TT c g t) 99999) N) (gN c) (fun N => if TT c (gN c) (uN c) ≤ 999 then some (nI (TT c (gN c) (uN c)), N) else some (-1, sI N 207 0 8)) (by omega) (fun f g N hg hI => ?_) (fun f N hI => ?_) N1 ⟨b2, b3, b4⟩
    · have DN : md N c := hI.1.mdc (by unfold P6; omega) D
      obtain ⟨N', e1, e2⟩ := q_62 D O hg (f_X12_allOff_48 f) hI
      refine ⟨N', ?_, e2⟩
      rw [f_X12_allOff_48, m_r20 DN.1, m_c1 DN, if_neg (gc_in O hg)]
      exact e1
    · have DN : md N c := hI.1.mdc (by unfold P6; omega) D
      have e1 := hI.2.2 (uN c) u8
      dsimp only at e1
      rw [f_X12_allOff_48, m_r20 DN.1, m_c1 DN, if_pos (gc_out O), m_r29 DN.1, m_ck DN.1, q_onSet DN O, bd_s, (u_set O).1, r217 DN.1 u8, e1]
      by_cases q : TT c (gN c) (uN c) ≤ 999
      · have e2 : min (TT c (gN c) (uN c)) 99999 = TT c (gN c) (uN c) := by omega
        rw [if_pos q, e2, if_pos (by rw [show (999 : Int32) = nI 999 from rfl, nI_leI' (by omega) (by omega)]; exact q), m_r29 DN.1, m_ck DN.1, q_onSet DN O, bd_s, (u_set O).1, r217 DN.1 u8, e1, e2]
      · rw [if_neg q, if_neg (by rw [show (999 : Int32) = nI 999 from rfl, nI_leI' (by omega) (by omega)]; omega), m_ck DN.1]
        unfold f_X12_refuse
        rw [m_pI DN.1, bd_s]
  refine ⟨N, d2.1, ?_⟩
  rw [a1, bv_s]
  exact b1.trans d1
end G
theorem RR_scr {M N : Mm} {s : Int32} (hR : RR M) (hK : mK N = mK M) (hL : mL N = mL M) (hRf : mR N = mR M) (hT : mT N = mT M) (hI : ∀ x, x ≠ 90 → x ≠ 91 → x ≠ 215 → x ≠ 216 → x ≠ 217 → x ≠ 219 → mI N x = mI (stM M s) x) : RR N := by
  obtain ⟨a, b, y, z, H⟩ := RR_st hR s
  refine ⟨a, b, y, z, RA_out H (LL_same H.1 hK hRf hT) fun x hx => ⟨?_, by rw [hL]; rfl, by rw [hK]; rfl, by rw [hRf]; rfl⟩⟩
  unfold scr at hx
  exact hI x (by omega) (by omega) (by omega) (by omega) (by omega) (by omega)
theorem pre_x {M M1 : Mm} {x : Nat} (s : Int32) (h : mI M1 x = mI M x) : mI (pre M1 s) x = mI (pre M s) x := by
  funext k
  unfold pre
  simp only [mI_sI, h]
theorem stM_x {M N : Mm} {x : Nat} {s : Int32} (h : mI N x = mI (pre M s) x) : mI (sI N 207 0 s) x = mI (stM M s) x := by
  funext k
  rw [mI_sI, h]
  unfold pre stM
  by_cases q : x = 207 ∧ k = 0
  · rw [if_pos q, mI_sI, if_pos q]
  · rw [if_neg q, mI_sI (sI (sI M 0 0 s) 207 1 0) 207 0 0 x k, if_neg q, mI_sI (sI (sI M 0 0 s) 207 1 0) 207 0 s x k, if_neg q]
theorem op_allOff : opI (fun M => f_X11_allOff M (some 0)) (fun M => f_X12_allOff M (some 207)) := by
  intro M hR
  obtain ⟨a, b, y, z, H⟩ := id hR
  have hL := H.1
  have S := H.2.1
  have O := S.2.2
  have ha := ll_a hL
  have P := pl_of hL
  have u8 := (u_set O).2
  have tb := TT_le (mI M 212) (gN (mI M 212)) (uN (mI M 212))
  obtain ⟨M1, e1, F1, h1⟩ := p_shareOut S ha P
  have hL1 : LL M1 a b y z := LL_same hL F1.1 F1.2.2.1 F1.2.2.2.1
  have S1 : shO M1 a (mI M 212) := F1.sho (fun x h1 h2 => by unfold P9; omega) S
  have P1 := pl_of hL1
  have i1 : mI M1 212 = mI M 212 := F1.2.2.2.2 212 (by unfold P9; omega)
  have ev := h1 _ u8 (u_sub O)
  by_cases q : TT (mI M 212) (gN (mI M 212)) (uN (mI M 212)) ≤ 999
  · have D := pre_md hL1 0
    rw [i1] at D
    obtain ⟨N, F2, e2⟩ := q_allOff D O
    rw [if_pos q] at e2
    refine ⟨nI (TT (mI M 212) (gN (mI M 212)) (uN (mI M 212))), sI M1 0 0 0, N, ?_, ?_, RR_scr (s := 0) hR (F2.1.trans F1.1) (F2.2.1.trans F1.2.1) (F2.2.2.1.trans F1.2.2.1) (F2.2.2.2.1.trans F1.2.2.2.1) fun x x1 x2 x3 x4 x5 x6 => ?_⟩
    · dsimp only
      unfold f_X11_allOff
      rw [c_pl hL, c_sh hL, pl_ck P, e1, bv_s, c_pl hL1, pl_r3 P1, c_sh hL1, lc_s S1.1, p_open S1, bd_s, (u_set O).1, r91 P1 u8, ev, if_pos (by rw [show (999 : Int32) = nI 999 from rfl, nI_leI' (by omega) (by omega)]; exact q), c_ck hL1, c_answer hL1, bd_s]
    · dsimp only
      unfold f_X12_allOff
      rw [m_pre hL1, m_ck D.1]
      exact e2
    · rw [F2.2.2.2.2 x (by unfold P6; omega), pre_x 0 (F1.2.2.2.2 x (by unfold P9; omega))]
      rfl
  · have D := pre_md hL1 8
    rw [i1] at D
    obtain ⟨N, F2, e2⟩ := q_allOff D O
    rw [if_neg q] at e2
    refine ⟨-1, sI M1 0 0 8, sI N 207 0 8, ?_, ?_, RR_scr (s := 8) hR (F2.1.trans F1.1) (F2.2.1.trans F1.2.1) (F2.2.2.1.trans F1.2.2.1) (F2.2.2.2.1.trans F1.2.2.2.1) fun x x1 x2 x3 x4 x5 x6 => ?_⟩
    · dsimp only
      unfold f_X11_allOff
      rw [c_pl hL, c_sh hL, pl_ck P, e1, bv_s, c_pl hL1, pl_r3 P1, c_sh hL1, lc_s S1.1, p_open S1, bd_s, (u_set O).1, r91 P1 u8, ev, if_neg (by rw [show (999 : Int32) = nI 999 from rfl, nI_leI' (by omega) (by omega)]; exact q), c_ck hL1, c_none hL1, bd_s]
    · dsimp only
      unfold f_X12_allOff
      rw [m_pre hL1, m_ck D.1]
      exact e2
    · refine stM_x ?_
      rw [F2.2.2.2.2 x (by unfold P6; omega), pre_x 8 (F1.2.2.2.2 x (by unfold P9; omega))]
