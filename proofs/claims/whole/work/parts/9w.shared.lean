/-! SHARED: what can be saved within the minutes -/
def mxW (c : Nat → Int32) (m : Nat) : Nat → Nat
  | 0 => 0
  | n + 1 => if TT c (gN c) n ≤ m then max (mxW c m n) (wofN c (nI n)) else mxW c m n
theorem mxW_le {c : Nat → Int32} (O : okC c) (m : Nat) : ∀ n, mxW c m n ≤ 7992
  | 0 => Nat.zero_le _
  | n + 1 => by
    have h1 := mxW_le O m n
    have h2 := (wof_nI O (nI n)).2
    rw [mxW]
    by_cases q : TT c (gN c) n ≤ m
    · rw [if_pos q]; omega
    · rw [if_neg q]; exact h1
theorem mxW_u {c : Nat → Int32} {m : Nat} (hm : m ≤ 240) : ∀ d, uN c + 1 + d ≤ 256 → mxW c m (uN c + 1 + d) = mxW c m (uN c + 1)
  | 0, _ => rfl
  | d + 1, h => by
    have h1 := mxW_u (c := c) hm d (by omega)
    have h2 : ¬ sub c (uN c + 1 + d) := fun z => by
      have := sub_u (by omega) z
      omega
    have h3 := TT_ns c (gN c) (uN c + 1 + d) (by omega) h2
    show mxW c m (uN c + 1 + d + 1) = _
    rw [mxW, if_neg (by omega), h1]
section G
variable {M : Mm} {c : Nat → Int32} {a g : Nat}
theorem p_most (S : shO M a c) (P : plL M) {m : Nat} (hm : m ≤ 240) (hT : ∀ t, t < 256 → sub c t → mI M 91 t = nI (TT c (gN c) t)) : f_X3_mostShared M (some 88) (some a) (nI m) = some (nI (mxW c m 256), M) := by
  have O := S.2.2
  have u8 := (u_set O).2
  have tb := fun t => TT_le c (gN c) t
  rw [show 256 = uN c + 1 + (255 - uN c) by omega, mxW_u hm _ (by omega)]
  unfold f_X3_mostShared
  rw [lc_s S.1, p_open S, bd_s, (u_set O).1]
  refine lup0 (fun f t => f_X3_mostShared_11 f M (some 88) (some a) (nI m) (nI (mxW c m t)) (nI (uN c)) (nI t)) (uN c + 1) _ (by omega) (fun f t ht => ?_) (fun f => ?_)
  · have b1 := mxW_le O m t
    have b2 := (wof_nI O (nI t)).2
    rw [f_X3_mostShared_11, if_neg (by rw [nI_ltI' (by omega) (by omega)]; omega), mxW]
    by_cases q : sub c t
    · have e := hT t (by omega) q
      have b3 := tb t
      rw [if_pos ((sub_nI (by omega)).mpr q), pl_r3 P, r91 P (by omega), e]
      by_cases q2 : TT c (gN c) t ≤ m
      · rw [if_neg (by rw [nI_ltI' (by omega) (by omega)]; omega), if_pos q2, lc_s S.1, p_worth S, bd_s, (wof_nI O (nI t)).1, mx_nI (by omega) (by omega), nmI_s, f_X3_mostShared_50, nI_1]
      · rw [if_pos (by rw [nI_ltI' (by omega) (by omega)]; omega), if_neg q2, f_X3_mostShared_50, nI_1]
    · have b3 := TT_ns c (gN c) t (by omega) q
      rw [if_neg (fun z => q ((sub_nI (by omega)).mp z)), if_neg (by omega), f_X3_mostShared_50, nI_1]
  · rw [f_X3_mostShared_11, if_pos (by rw [nI_ltI' (by omega) (by omega)]; omega)]
theorem q_85 {A T : Nat → Nat} {s m : Nat} (g4 : g < 4) (hs : s < 256) (hm : m ≤ 240) (k64 : Mm → Option Nat → Int32 → Int32 → Option (Int32 × Mm)) (k78 : Mm → Option Nat → Int32 → Int32 → Int32 → Option (Int32 × Mm)) : ∀ n o acc N, o < n → inS o s → mdL N → (∀ o, o < 256 → mI N 216 (256 * g + o) = nI (A o) ∧ A o ≤ 99999) → (∀ t, t < s → mI N 217 t = nI (if T t ≤ m then 1 else 0)) → mI N 217 s = nI (if acc ≤ m then 1 else 0) → ∃ N', f_X12_shared_85 k64 k78 n N (some 207) (nI m) (nI g) (nI s) (nI o) = k78 N' (some 207) (nI m) (nI g) (nI s + (-1)) ∧ FS P7 N N' ∧ (∀ t, t ≠ s → mI N' 217 t = mI N 217 t) ∧ mI N' 217 s = nI (if mnv A T s n o acc ≤ m then 1 else 0) := by
  intro n
  induction n with
  | zero => intro o acc N h; omega
  | succ n ih =>
    intro o acc N h ho D hA hT hacc2
    have hle := inS_le ho
    by_cases q : o = 0
    · refine ⟨N, ?_, FS.rf, fun _ _ => rfl, ?_⟩
      · rw [f_X12_shared_85, if_pos ((nI_le0 (by omega)).mpr q), f_X12_shared_149]
      · rw [mnv, if_pos q]
        exact hacc2
    · have hlt := inS_ne hs ho q
      have a1 := hA o (by omega)
      have a2 := hT _ hlt
      have hle2 : (o - 1) &&& s ≤ o - 1 := Nat.and_le_left
      have go := ih ((o - 1) &&& s) (min acc (max (A o) (T (s &&& (o ^^^ 4294967295)))))
      by_cases q1 : acc ≤ m
      · refine ⟨N, ?_, FS.rf, fun _ _ => rfl, ?_⟩
        · rw [f_X12_shared_85, if_neg (fun z => q ((nI_le0 (by omega)).mp z)), m_r29 D, r217 D hs, hacc2, if_pos q1, if_neg (by decide), f_X12_shared_149]
        · have := mnv_le (A := A) (T := T) (s := s) (n + 1) o acc
          rw [hacc2, if_pos q1, if_pos (by omega)]
      · rw [if_neg q1] at hacc2
        have hst : f_X12_shared_138 k64 k78 (f_X12_shared_85 k64 k78 n) = fun N l0 l1 l2 l3 l4 => f_X12_shared_85 k64 k78 n N l0 l1 l2 l3 ((l4 - 1) &&& l3) := by
          funext N l0 l1 l2 l3 l4
          rw [f_X12_shared_138, nmI_s]
        have e1 : (nI o - 1) &&& nI s = nI ((o - 1) &&& s) := by
          rw [show (1 : Int32) = nI 1 from rfl, nI_sub (by omega), nI_and]
        by_cases q2 : A o ≤ m
        · by_cases q3 : T (s &&& (o ^^^ 4294967295)) ≤ m
          · have D2 : mdL (sI N 217 s 1) := D
            obtain ⟨N', k1, k2, k3, k4⟩ := go (sI N 217 s 1) (by omega) inS_and D2 (fun o ho => by rw [mI_o (by decide)]; exact hA o ho) (fun t ht => by rw [mI_f (by omega)]; exact hT t ht) (by rw [mI_sI_s, if_pos (by omega)]; rfl)
            refine ⟨N', ?_, ((FS.rf (P := P7)).sI rfl _ _).tr k2, fun t ht => ?_, ?_⟩
            · rw [f_X12_shared_85, if_neg (fun z => q ((nI_le0 (by omega)).mp z)), m_r29 D, r217 D hs, hacc2, if_pos (by decide), m_r28 D, i256m, nI_add, r216 D (by omega), a1.1, if_neg (by rw [nI_ltI' (by omega) (by omega)]; omega), m_r29 D, nI_not, nI_and, r217 D (by omega), a2, if_pos q3, if_pos (by decide), m_r29 D, s217 D hs, hst]
              dsimp only
              rw [e1]
              exact k1
            · rw [k3 t ht, mI_f ht]
            · rw [mnv, if_neg q]
              exact k4
          · obtain ⟨N', k1, k2, k3, k4⟩ := go N (by omega) inS_and D hA hT (by rw [hacc2, if_neg (by omega)])
            refine ⟨N', ?_, k2, k3, ?_⟩
            · rw [f_X12_shared_85, if_neg (fun z => q ((nI_le0 (by omega)).mp z)), m_r29 D, r217 D hs, hacc2, if_pos (by decide), m_r28 D, i256m, nI_add, r216 D (by omega), a1.1, if_neg (by rw [nI_ltI' (by omega) (by omega)]; omega), m_r29 D, nI_not, nI_and, r217 D (by omega), a2, if_neg q3, if_neg (by decide), hst]
              dsimp only
              rw [e1]
              exact k1
            · rw [mnv, if_neg q]
              exact k4
        · obtain ⟨N', k1, k2, k3, k4⟩ := go N (by omega) inS_and D hA hT (by rw [hacc2, if_neg (by omega)])
          refine ⟨N', ?_, k2, k3, ?_⟩
          · rw [f_X12_shared_85, if_neg (fun z => q ((nI_le0 (by omega)).mp z)), m_r29 D, r217 D hs, hacc2, if_pos (by decide), m_r28 D, i256m, nI_add, r216 D (by omega), a1.1, if_pos (by rw [nI_ltI' (by omega) (by omega)]; omega), hst]
            dsimp only
            rw [e1]
            exact k1
          · rw [mnv, if_neg q]
            exact k4
theorem q_78 (D : md M c) (O : okC c) (hg : g < gN c) {m : Nat} (hm : m ≤ 240) (k64 : Mm → Option Nat → Int32 → Int32 → Option (Int32 × Mm)) {N : Mm} (h : IO M c (fun t => if TT c g t ≤ m then 1 else 0) N) : ∃ N', f_X12_shared_78 k64 fu N (some 207) (nI m) (nI g) 255 = k64 N' (some 207) (nI m) (nI (g + 1)) ∧ IO M c (fun t => if TT c (g + 1) t ≤ m then 1 else 0) N' := by
  have g4 := (ok_g O).2
  obtain ⟨N', e1, e2, e3, e4⟩ : ∃ N', f_X12_shared_78 k64 fu N (some 207) (nI m) (nI g) (nI 255) = k64 N' (some 207) (nI m) (nI g + 1) ∧ IO M c (fun t => if (if 0 < t then TT c (g + 1) t else TT c g t) ≤ m then 1 else 0) N' := by
    refine ldnE0 (fun f N S => f_X12_shared_78 k64 f N (some 207) (nI m) (nI g) (nI S)) (fun S N => IO M c (fun t => if (if S < t then TT c (g + 1) t else TT c g t) ≤ m then 1 else 0) N) 255 (fun N => k64 N (some 207) (nI m) (nI g + 1)) (by omega) (fun f S N hS hI => ?_) (fun f N hI => ?_) N ⟨h.1, h.2.1, fun t ht => by rw [h.2.2 t ht]; dsimp only; rw [if_neg (show ¬ 255 < t by omega)]⟩
    · obtain ⟨h1, h2, h3⟩ := hI
      have DN : md N c := h1.mdc (by unfold P6; omega) D
      obtain ⟨N', k1, k2, k3, k4⟩ := q_85 (A := sV c g) (T := TT c g) (s := S + 1) (g := g) (by omega) (by omega) hm k64 (f_X12_shared_78 k64 f) fu (S + 1) (TT c g (S + 1)) N (by unfold fu; omega) (fun k hk => hk) DN.1 (fun o ho => ⟨h2 g o hg ho, sV_le O hg o⟩) (fun t ht => by rw [h3 t (by omega)]; dsimp only; rw [if_neg (show ¬ S + 1 < t by omega)]) (by rw [h3 _ (by omega)]; dsimp only; rw [if_neg (show ¬ S + 1 < S + 1 by omega)])
      refine ⟨N', ?_, h1.tr (k2.mo fun x hx => Or.inr (Or.inr hx)), fun g' t hg' ht => ?_, fun t ht => ?_⟩
      · rw [f_X12_shared_78, if_neg (fun z => by have := (nI_le0 (by omega)).mp z; omega), k1, nI_m1]
      · rw [k2.2.2.2.2 216 (by unfold P7; omega)]
        exact h2 g' t hg' ht
      · by_cases q : t = S + 1
        · rw [q, k4]
          dsimp only
          rw [if_pos (show S < S + 1 by omega)]
          rfl
        · rw [k3 t q, h3 t ht]
          dsimp only
          by_cases q3 : S + 1 < t
          · rw [if_pos q3, if_pos (show S < t by omega)]
          · rw [if_neg q3, if_neg (show ¬ S < t by omega)]
    · show f_X12_shared_78 k64 (f + 1) N (some 207) (nI m) (nI g) (nI 0) = _
      rw [f_X12_shared_78, if_pos ((nI_le0 (by omega)).mpr rfl)]
  refine ⟨N', ?_, e2, e3, fun t ht => ?_⟩
  · show f_X12_shared_78 k64 fu N (some 207) (nI m) (nI g) (nI 255) = _
    rw [e1, nI_1]
  · rw [e4 t ht]
    dsimp only
    by_cases q : 0 < t
    · rw [if_pos q]
    · rw [if_neg q, show t = 0 by omega, TT_0, TT_0]
theorem q_165 (D : md M c) (O : okC c) {m : Nat} (h : ∀ t, t < 256 → mI M 217 t = nI (if TT c (gN c) t ≤ m then 1 else 0)) : f_X12_shared_165 fu M (some 207) 0 0 = some (nI (mxW c m 256), M) := by
  refine lup0 (fun f t => f_X12_shared_165 f M (some 207) (nI (mxW c m t)) (nI t)) 256 _ (by omega) (fun f t ht => ?_) (fun f => ?_)
  · have b1 := mxW_le O m t
    have b2 := (wof_nI O (nI t)).2
    rw [f_X12_shared_165, if_neg (by rw [show (256 : Int32) = nI 256 from rfl, nI_leI' (by omega) (by omega)]; omega), m_r29 D.1, r217 D.1 ht, h t ht, mxW]
    by_cases q : TT c (gN c) t ≤ m
    · rw [if_pos q, if_pos q, if_pos (by decide), m_ck D.1, q_worthIn D O, bd_s, (wof_nI O (nI t)).1, mx_nI (by omega) (by omega), nmI_s, f_X12_shared_192, nI_1]
    · rw [if_neg q, if_neg q, if_neg (by decide), f_X12_shared_192, nI_1]
  · show f_X12_shared_165 (f + 1) M (some 207) (nI (mxW c m 256)) (nI 256) = _
    rw [f_X12_shared_165, if_pos (by decide)]
theorem q_shared (D : md M c) (O : okC c) {m : Nat} (hm : m ≤ 240) : ∃ N, FS P6 M N ∧ (bv (f_X12_fillAll M (some 207)) fun M29 => f_X12_shared_34 fu M29 (some 207) (nI m) 0) = some (nI (mxW c m 256), N) := by
  have g4 := (ok_g O).2
  have u8 := (u_set O).2
  obtain ⟨N0, a1, a2, a3⟩ := q_fillAll D O
  obtain ⟨N1, b1, b2, b3, b4⟩ : ∃ N1, f_X12_shared_34 fu N0 (some 207) (nI m) (nI 0) = f_X12_shared_64 fu N1 (some 207) (nI m) 0 ∧ (FS P6 M N1 ∧ (∀ g t, g < gN c → t < 256 → mI N1 216 (256 * g + t) = nI (sV c g t)) ∧ ∀ t, t < 256 → mI N1 217 t = nI (if TT c 0 t ≤ m then 1 else 0)) := by
    refine lupE0 (fun f N x => f_X12_shared_34 f N (some 207) (nI m) (nI x)) (fun x N => FS P6 M N ∧ (∀ g t, g < gN c → t < 256 → mI N 216 (256 * g + t) = nI (sV c g t)) ∧ ∀ t, t < x → mI N 217 t = nI (if TT c 0 t ≤ m then 1 else 0)) 256 (fun N => f_X12_shared_64 fu N (some 207) (nI m) 0) (by omega) (fun f x N hx hI => ?_) (fun f N hI => ?_) N0 ⟨a2, a3, fun t ht => by omega⟩
    · obtain ⟨h1, h2, h3⟩ := hI
      have DN : md N c := h1.mdc (by unfold P6; omega) D
      have fin : ∀ v, v = (if TT c 0 x ≤ m then 1 else 0) → FS P6 M (sI N 217 x (nI v)) ∧ (∀ g t, g < gN c → t < 256 → mI (sI N 217 x (nI v)) 216 (256 * g + t) = nI (sV c g t)) ∧ ∀ t, t < x + 1 → mI (sI N 217 x (nI v)) 217 t = nI (if TT c 0 t ≤ m then 1 else 0) := fun v hv => by
        refine ⟨h1.sI (Or.inr (Or.inr rfl)) _ _, fun g t hg ht => by rw [mI_o (by decide)]; exact h2 g t hg ht, fun t ht => ?_⟩
        by_cases q : t = x
        · rw [q, mI_sI_s, hv]
        · rw [mI_f q]
          exact h3 t (by omega)
      by_cases q : x = 0
      · refine ⟨_, ?_, fin 1 (by rw [q]; rfl)⟩
        rw [f_X12_shared_34, if_neg (by rw [show (256 : Int32) = nI 256 from rfl, nI_leI' (by omega) (by omega)]; omega), m_r29 DN.1, if_pos ((nI_z (by omega)).mpr q), f_X12_shared_55, s217 DN.1 hx, nI_1]
        rfl
      · have hx0 : TT c 0 x = 1000000 := by
          show (if x = 0 then 0 else 1000000) = 1000000
          rw [if_neg q]
        refine ⟨_, ?_, fin 0 (by rw [hx0, if_neg (by omega)])⟩
        rw [f_X12_shared_34, if_neg (by rw [show (256 : Int32) = nI 256 from rfl, nI_leI' (by omega) (by omega)]; omega), m_r29 DN.1, if_neg (fun z => q ((nI_z (by omega)).mp z)), f_X12_shared_55, s217 DN.1 hx, nI_1]
        rfl
    · show f_X12_shared_34 (f + 1) N (some 207) (nI m) (nI 256) = _
      rw [f_X12_shared_34, if_pos (by decide)]
  obtain ⟨N, d1, d2⟩ : ∃ N, f_X12_shared_64 fu N1 (some 207) (nI m) (nI 0) = some (nI (mxW c m 256), N) ∧ IO M c (fun t => if TT c (gN c) t ≤ m then 1 else 0) N := by
    refine lupE0 (fun f N g => f_X12_shared_64 f N (some 207) (nI m) (nI g)) (fun g N => IO M c (fun t => if TT c g t ≤ m then 1 else 0) N) (gN c) (fun N => some (nI (mxW c m 256), N)) (by omega) (fun f g N hg hI => ?_) (fun f N hI => ?_) N1 ⟨b2, b3, b4⟩
    · have DN : md N c := hI.1.mdc (by unfold P6; omega) D
      obtain ⟨N', e1, e2⟩ := q_78 D O hg hm (f_X12_shared_64 f) hI
      refine ⟨N', ?_, e2⟩
      rw [f_X12_shared_64, m_r20 DN.1, m_c1 DN, if_neg (gc_in O hg)]
      exact e1
    · have DN : md N c := hI.1.mdc (by unfold P6; omega) D
      rw [f_X12_shared_64, m_r20 DN.1, m_c1 DN, if_pos (gc_out O)]
      exact q_165 DN O hI.2.2
  refine ⟨N, d2.1, ?_⟩
  rw [a1, bv_s]
  exact b1.trans d1
end G
theorem op_shared (x : Int32) : opI (fun M => f_X11_shared M (some 0) x) (fun M => f_X12_shared M (some 207) x) := by
  intro M hR
  obtain ⟨a, b, y, z, H⟩ := id hR
  have hL := H.1
  have S := H.2.1
  have O := S.2.2
  have h8 := (ok_h O).2
  by_cases q : 0 ≤ x ∧ x ≤ 240
  · obtain ⟨m, hm, rfl⟩ := rng (n := 240) (by decide) q
    have ha := ll_a hL
    have P := pl_of hL
    obtain ⟨M1, e1, F1, h1⟩ := p_shareOut S ha P
    have hL1 : LL M1 a b y z := LL_same hL F1.1 F1.2.2.1 F1.2.2.2.1
    have S1 : shO M1 a (mI M 212) := F1.sho (fun x h1 h2 => by unfold P9; omega) S
    have P1 := pl_of hL1
    have i1 : mI M1 212 = mI M 212 := F1.2.2.2.2 212 (by unfold P9; omega)
    have D := pre_md hL1 0
    rw [i1] at D
    obtain ⟨N, F2, e2⟩ := q_shared D O hm
    refine ⟨nI (mxW (mI M 212) m 256), sI M1 0 0 0, N, ?_, ?_, RR_scr (s := 0) hR (F2.1.trans F1.1) (F2.2.1.trans F1.2.1) (F2.2.2.1.trans F1.2.2.1) (F2.2.2.2.1.trans F1.2.2.2.1) fun x x1 x2 x3 x4 x5 x6 => ?_⟩
    · dsimp only
      unfold f_X11_shared
      rw [q_within, bd_s, if_pos q, if_neg (by decide), c_pl hL, c_sh hL, pl_ck P, e1, bv_s, c_pl hL1, c_sh hL1, pl_ck P1, p_most S1 P1 hm h1, bd_s, c_ck hL1, c_answer hL1, bd_s]
    · dsimp only
      unfold f_X12_shared
      rw [m_pre hL1]
      simp (disch := omega) only [↓q_isIn, j0, j1, u1, u3, u4, u5, u8, u9, u20, u60, u99, u100, u240, u9999, ite01z, not_true_eq_false, not_false_eq_true, if_true, if_false, z10, eq_true q, ↓bd_s]
      rw [m_ck D.1]
      exact e2
    · rw [F2.2.2.2.2 x (by unfold P6; omega), pre_x 0 (F1.2.2.2.2 x (by unfold P9; omega))]
      rfl
  · refine ⟨-1, sI M 0 0 5, stM M 5, ?_, ?_, RR_st hR 5⟩
    · dsimp only
      unfold f_X11_shared
      rw [q_within, bd_s, if_neg q, if_pos rfl, c_ck hL, c_none hL, bd_s]
    · have D := pre_md hL 5
      dsimp only
      unfold f_X12_shared
      rw [m_pre hL]
      simp (disch := omega) only [↓q_isIn, j0, j1, u1, u3, u4, u5, u8, u9, u20, u60, u99, u100, u240, u9999, ite01z, not_true_eq_false, not_false_eq_true, if_true, if_false, z10, eq_false q, ↓bd_s, ↓m_r4 D.1, ↓m_r5 D.1, ↓m_r6 D.1, ↓m_r7 D.1, ↓m_r20 D.1, ↓m_r21 D.1, ↓m_r22 D.1, ↓m_r27 D.1, ↓m_r28 D.1, ↓m_r29 D.1, ↓m_r31 D.1, ↓m_r32 D.1, ↓m_r35 D.1, ↓m_ck D.1, ↓m_c0 D, ↓m_c1 D, ↓m_c2 D, ↓m_c3 D, ↓m_c4 D, ↓m_c D, i2, i3, i4, i5, i13, i21, i29, i37, i45, i53, i61, i69, i133, i137, i141, i145, i149, i153, i157, i161, i167, i4m, i6m, i8m, i9m, i18m, i60m, i256m, i450m, nI_add, ↓nmI_s, ↓bd_s, ↓bv_s, nI_1, ↓reduceIte, ↓q_isHouse D, ↓q_isGang D, ↓m_refuse hL, ↓m_no hL]
      rfl
