/-! THE CLASS'S HOUR -/
section P
variable {M : Mm} {a : Nat} {c : Nat → Int32}
theorem p_take (S : shO M a c) {g h : Nat} (hg : g < gN c) (hh : h < hN c) (hc : canT c g h) : ∃ M', f_X4_take M (some a) (nI g) (nI h) = some (walk c g h, M') ∧ shO M' a (takesUp c g h) ∧ FrI M M' a 31 := by
  have O := S.2.2
  have g4 := (ok_g O).2
  have h8 := (ok_h O).2
  have W := shW_of S
  obtain ⟨M', e1, W1, F1⟩ := pw_take W (g := g) (h := h) (by rw [ecl_g]; exact hg) (by rw [ecl_h]; exact hh) (by omega) (by omega) (bdd_same (ecl_o (by omega)) (O.2.2.2.2.2.2.2.1 g hg).2.1)
  have ew : walk (ecl c) g h = walk c g h := by unfold walk; rw [ecl_o (by omega), ecl_o (by omega), ecl_o (by omega)]
  have et : takes (ecl c) g h = takes c g h := by unfold takes; rw [ecl_o (by omega), ecl_o (by omega), ecl_o (by omega)]
  have hs : sS c (takesUp c g h) := sS_take (by omega)
  rw [ew, et, ecl_o (by omega)] at W1
  rw [ew] at e1
  refine ⟨M', e1, shO_of W1 (ecl_ext O hg hs (fun k hk => ?_) ?_ (fun g' hg' hne => ⟨?_, take_o (by omega) (by omega) (by omega) (by omega), take_o (by omega) (by omega) (by omega) (by omega)⟩)) (okC_take O hg hh hc), F1⟩
  · unfold takesUp
    by_cases k1 : k = 145 + g
    · rw [k1, pk_us, pk_us]
    · rw [pk_un k1, pk_un k1]
      by_cases k2 : k = 149 + g
      · rw [k2, pk_us, pk_us]
      · rw [pk_un k2, pk_un k2, pk_un (show k ≠ 157 + g by omega), pk_un (show k ≠ 157 + g by omega)]
        by_cases k3 : k = 153 + g
        · rw [k3, pk_us, pk_us]
        · rw [pk_un k3, pk_un k3, ecl_o hk]
  · rw [pk_un (by omega), pk_un (by omega), pk_us, pcs_hand (take_9 c g h) (by omega), if_pos (take_7 c g h), takes_sS hs (by omega) (by omega)]
  · rw [pk_un (by omega), pk_un (by omega), pk_un (by omega), pk_un (by omega), ecl_p (by omega)]
theorem p_minute (S : shO M a c) {g : Nat} (hg : g < gN c) : ∃ M', f_X4_passMinute M (some a) (nI g) = some ((minu c g).2, M') ∧ shO M' a (minu c g).1 ∧ FrI M M' a 31 := by
  have O := S.2.2
  have g4 := (ok_g O).2
  have h8 := (ok_h O).2
  unfold f_X4_passMinute minu
  rw [l_gs S.1, l_g S.1 (by omega), e_ghd S hg]
  by_cases q : 0 ≤ c (149 + g)
  · rw [if_pos q]
    rcases hand_cases O hg with ⟨h1, -⟩ | ⟨h, hh, e, on, -⟩
    · rw [h1] at q
      exact absurd q (by decide)
    · rw [if_neg (by rw [e]; exact neg1_ne (by omega))]
      exact p_35 S hg hh e on
  · rw [if_neg q, if_pos ((neg_hand O hg).mp q), lc_s S.1, p_first S hg, bd_s]
    by_cases q2 : 0 ≤ (fb c g (hN c)).1
    · rw [if_pos q2]
      obtain ⟨b, hb, e, hc⟩ := fb_pos q2
      rw [e, nI_cl (by omega), if_neg (neg1_ne (by omega)), lc_s S.1]
      obtain ⟨M1, e1, S1, F1⟩ := p_take S hg hb hc
      rw [e1, bd_s]
      have hs : sS c (takesUp c g b) := sS_take (by omega)
      obtain ⟨M2, e2, S2, F2⟩ := p_35 S1 (g := g) (h := b) (by rw [hs.g]; exact hg) (by rw [hs.h]; exact hb) (take_9 c g b) ⟨(take_o (by omega) (by omega) (by omega) (by omega)).trans hc.1.1, by rw [take_o (by omega) (by omega) (by omega) (by omega)]; exact hc.1.2⟩
      exact ⟨M2, e2, S2, F1.tr F2⟩
    · rw [if_neg q2]
      have : (fb c g (hN c)).1 = -1 := by
        rcases fb_inv c g (hN c) with z | ⟨b, h1, h2, -⟩
        · exact z
        · rw [h2] at q2
          exact absurd (nI_pos' (by omega)) q2
      rw [if_pos this]
      exact ⟨M, rfl, S, FrI.rf⟩
/-- in how many minutes nothing but work happens -/
def qm (c : Nat → Int32) (m : Nat) : Nat → Nat
  | 0 => m
  | g + 1 => if 0 ≤ c (149 + g) then min (qm c m g) (na c (153 + g) + pN c g - 1) else if 0 ≤ (fb c g (hN c)).1 then 0 else qm c m g
theorem qm_le (c : Nat → Int32) (m : Nat) : ∀ g, qm c m g ≤ m
  | 0 => Nat.le_refl _
  | g + 1 => by
    have ih := qm_le c m g
    unfold qm
    by_cases q : 0 ≤ c (149 + g)
    · rw [if_pos q]; omega
    · rw [if_neg q]
      by_cases q2 : 0 ≤ (fb c g (hN c)).1
      · rw [if_pos q2]; omega
      · rw [if_neg q2]; exact ih
theorem qm_mono (c : Nat → Int32) (m : Nat) (g : Nat) : qm c m (g + 1) ≤ qm c m g := by
  conv => lhs; unfold qm
  by_cases q : 0 ≤ c (149 + g)
  · rw [if_pos q]; omega
  · rw [if_neg q]
    by_cases q2 : 0 ≤ (fb c g (hN c)).1
    · rw [if_pos q2]; omega
    · rw [if_neg q2]; exact Nat.le_refl _
theorem qm_le2 (c : Nat → Int32) (m g : Nat) : ∀ d, qm c m (g + d) ≤ qm c m g
  | 0 => Nat.le_refl _
  | d + 1 => Nat.le_trans (qm_mono c m (g + d)) (qm_le2 c m g d)
theorem left_pos {c : Nat → Int32} {g : Nat} (O : okC c) (hg : g < gN c) (q : 0 ≤ c (149 + g)) : 1 ≤ pN c g ∧ pN c g ≤ 116 ∧ na c (153 + g) ≤ 540 ∧ c (153 + g) = nI (na c (153 + g)) ∧ pcs c g = nI (pN c g) := by
  rcases hand_cases O hg with ⟨z2, -⟩ | ⟨h, hh, e, on, en⟩
  · rw [z2] at q
    exact absurd q (by decide)
  · obtain ⟨p1, p2, p3⟩ := pN_hand O hg hh e on
    have h6 := (O.2.2.2.2.2.2.2.1 g hg).2.2.2.2.1
    exact ⟨p2, p3, h6.2.2, h6.1, p1⟩
theorem qm_qui {c : Nat → Int32} (O : okC c) (m : Nat) : qui c (qm c m (gN c)) := by
  intro g hg
  obtain ⟨d, hd⟩ : ∃ d, gN c = g + 1 + d := ⟨gN c - (g + 1), by omega⟩
  have h1 := qm_le2 c m (g + 1) d
  rw [← hd] at h1
  refine ⟨fun q => ?_, fun q h0 q2 => ?_⟩
  · have h2 : qm c m (g + 1) = min (qm c m g) (na c (153 + g) + pN c g - 1) := by
      conv => lhs; unfold qm
      rw [if_pos q]
    have := left_pos O hg q
    omega
  · have h2 : qm c m (g + 1) = 0 := by
      conv => lhs; unfold qm
      rw [if_neg q, if_pos q2]
    omega
theorem p_quiet (S : shO M a c) {m : Nat} (hm : m ≤ 240) : f_X4_quietMinutes M (some a) (nI m) = some (nI (qm c m (gN c)), M) := by
  have O := S.2.2
  have g4 := (ok_g O).2
  refine lup0 (fun f k => f_X4_quietMinutes_4 f M (some a) (nI (qm c m k)) (nI k)) (gN c) _ (by omega) (fun f k hk => ?_) (fun f => ?_)
  · have hle := qm_le c m k
    rw [f_X4_quietMinutes_4, e_gc S, if_neg (gc_in O hk), l_gs S.1, l_g S.1 (by omega), e_ghd S hk]
    conv => rhs; unfold qm
    by_cases q : 0 ≤ c (149 + k)
    · obtain ⟨p1, p2, p3, p4, p5⟩ := left_pos O hk q
      rw [if_neg (fun z => by rw [z] at q; exact absurd q (by decide)), if_pos q, l_gs S.1, l_g S.1 (by omega), lc_g S.1 (by omega), p_left S hk, bd_s, nmI_s, p4, p5, nI_add, show (1 : Int32) = nI 1 from rfl, nI_sub (by omega)]
      have e1 : mxI 0 (nI (na c (153 + k) + pN c k - 1)) = nI (na c (153 + k) + pN c k - 1) := by
        rw [show (0 : Int32) = nI 0 from rfl, mx_nI (by omega) (by omega), Nat.max_eq_right (by omega)]
      have e2 : mnI (nI (qm c m k)) (nI (na c (153 + k) + pN c k - 1)) = nI (min (qm c m k) (na c (153 + k) + pN c k - 1)) := by
        exact mn_nI (by omega) (by omega)
      rw [e1, e2, f_X4_quietMinutes_59, nI_1]
    · rw [if_pos ((neg_hand O hk).mp q), if_neg q, lc_s S.1, p_first S hk, bd_s]
      by_cases q2 : 0 ≤ (fb c k (hN c)).1
      · rw [if_neg (fun z => by rw [z] at q2; exact absurd q2 (by decide)), if_pos q2, f_X4_quietMinutes_59, nI_1]
        rfl
      · have : (fb c k (hN c)).1 = -1 := by
          have h8 := (ok_h O).2
          rcases fb_inv c k (hN c) with z | ⟨b, h1, h2, -⟩
          · exact z
          · rw [h2] at q2
            exact absurd (nI_pos' (by omega)) q2
        rw [if_pos this, if_neg q2, f_X4_quietMinutes_59, nI_1]
  · rw [f_X4_quietMinutes_4, e_gc S, if_pos (gc_out O)]
theorem p_gmin (S : shO M a c) : ∀ {k : Nat}, k ≤ gN c → ∃ M', shO M' a (gmin c k).1 ∧ FrI M M' a 31 ∧ ∀ (k4 : Mm → Option Nat → Int32 → Int32 → Int32 → Option (Int32 × Mm)) (f : Nat) (x1 x2 x3 : Int32), f_X4_passHour_11 k4 (f + k) M (some a) x1 x2 x3 0 = f_X4_passHour_11 k4 f M' (some a) x1 (x2 + (gmin c k).2) x3 (nI k)
  | 0, _ => ⟨M, S, FrI.rf, fun k4 f x1 x2 x3 => by rw [show (gmin c 0).2 = 0 from rfl, Int32.add_zero]; rfl⟩
  | k + 1, hk => by
    obtain ⟨M1, S1, F1, h1⟩ := p_gmin S (k := k) (by omega)
    have O1 := S1.2.2
    have hs := (gmin_ok S.2.2 (n := k) (by omega)).2
    have hk1 : k < gN (gmin c k).1 := by rw [hs.g]; omega
    obtain ⟨M2, e2, S2, F2⟩ := p_minute S1 hk1
    refine ⟨M2, S2, F1.tr F2, fun k4 f x1 x2 x3 => ?_⟩
    rw [show f + (k + 1) = (f + 1) + k by omega, h1, f_X4_passHour_11, e_gc S1, if_neg (gc_in O1 hk1), lc_s S1.1, e2, bd_s, nmI_s, nI_1, Int32.add_assoc]
    rfl
theorem p_wkA (S : shO M a c) {n : Nat} (Q : qui c n) (hn : n ≤ 240) : ∀ {k : Nat}, k ≤ gN c → ∃ M', shO M' a (wkA c n k) ∧ FrI M M' a 31 ∧ ∀ (k4 : Mm → Option Nat → Int32 → Int32 → Int32 → Option (Int32 × Mm)) (f : Nat) (x1 x2 x3 : Int32), f_X4_passHour_47 k4 (f + k) M (some a) x1 x2 x3 (nI n) 0 = f_X4_passHour_47 k4 f M' (some a) x1 x2 x3 (nI n) (nI k)
  | 0, _ => ⟨M, by rw [wkA_0]; exact S, FrI.rf, fun k4 f x1 x2 x3 => rfl⟩
  | k + 1, hk => by
    obtain ⟨M1, S1, F1, h1⟩ := p_wkA S Q hn (k := k) (by omega)
    have O := S.2.2
    have O1 := S1.2.2
    have g4 := (ok_g O).2
    have hW := wkA_d (c := c) (n := n) (j := k) (by omega)
    have hk1 : k < gN (wkA c n k) := by rw [hW.s.g]; omega
    obtain ⟨x1, x2, x3, x4, x5⟩ := wkA_own O (n := n) (j := k) (by omega)
    by_cases q : 0 ≤ c (149 + k)
    · obtain ⟨p1, p2, p3, p4, p5⟩ := left_pos O (show k < gN c by omega) q
      have Qk := (Q k (by omega)).1 q
      obtain ⟨M2, e2, W2, F2⟩ := pw_work (shW_of S1) (g := k) (by rw [ecl_g]; exact hk1) (by omega) (nI n)
      have em : mnI (nI (na c (153 + k))) (nI n) = nI (min (na c (153 + k)) n) := by
        exact mn_nI (by omega) (by omega)
      have es : nI (pN c k) - (nI n - nI (min (na c (153 + k)) n)) = nI (pN c k - (n - min (na c (153 + k)) n)) := by
        rw [nI_sub (by omega), nI_sub (by omega)]
      have ew : nI (na c (153 + k)) - nI (min (na c (153 + k)) n) = nI (na c (153 + k) - n) := by
        rw [nI_sub (by omega)]
        exact congrArg nI (by omega)
      rw [ecl_o (by omega), ecl_p (by omega), x1, x5, p4, p5, em, es, ew] at W2
      have O2 := wkA_ok O Q hk
      have hW2 := wkA_d (c := c) (n := n) (j := k + 1) (by omega)
      have hs : sS (wkA c n k) (wkA c n (k + 1)) := fun j hj => by rw [hW.s j hj, hW2.s j hj]
      have st : ∀ j, wkA c n (k + 1) j = if j = 153 + k ∧ 0 ≤ c (149 + k) then wayA c k n else if j = 157 + k ∧ 0 ≤ c (149 + k) then pieA c k n else wkA c n k j := fun j => by rw [wkA_step (by omega)]
      obtain ⟨y1, y2, y3⟩ : wkA c n (k + 1) (153 + k) = nI (na c (153 + k) - n) ∧ wkA c n (k + 1) (157 + k) = pieA c k n ∧ wkA c n (k + 1) (149 + k) = c (149 + k) := by
        refine ⟨?_, ?_, wkA_o (by omega) (by omega)⟩
        · rw [st, if_pos ⟨rfl, q⟩]; rfl
        · rw [st, if_neg (by omega), if_pos ⟨rfl, q⟩]
      refine ⟨M2, shO_of W2 (ecl_ext O1 hk1 hs (fun j hj => ?_) ?_ (fun g' hg' hne => ⟨?_, ?_, ?_⟩)) O2, F1.tr F2, fun k4 f y1 y2 y3 => ?_⟩
      · rw [pk_un (show j ≠ 157 + k by omega)]
        by_cases z : j = 153 + k
        · rw [z, pk_us, y1]
        · rw [pk_un z, ecl_o hj, st, if_neg (fun y => z y.1), if_neg (by omega)]
      · rw [pk_us]
        rcases hand_cases O (show k < gN c by omega) with ⟨z2, -⟩ | ⟨h, hh, e, on, en⟩
        · rw [z2] at q
          exact absurd q (by decide)
        · have h8 := (ok_h O).2
          rw [pcs_hand (y3.trans e) (by omega), y2]
          unfold pieA
          by_cases z : na c (153 + k) < n
          · rw [if_pos z]
            show _ = if nI (pN c k - (n - na c (153 + k))) = 0 then _ else nI (pN c k - (n - na c (153 + k)))
            rw [if_neg (nI_pos0 (by omega) (by omega))]
            exact congrArg nI (by omega)
          · rw [if_neg z, takes_sS hW2.s (by omega) (by omega), ← pcs_hand e (by omega), p5]
            exact congrArg nI (by omega)
      · rw [pk_un (by omega), pk_un (by omega), ecl_p (by have := hW.s.g; omega)]
      · rw [st, if_neg (by have := hW.s.g; omega), if_neg (by have := hW.s.g; omega)]
      · rw [st, if_neg (by have := hW.s.g; omega), if_neg (by omega)]
      · rw [show f + (k + 1) = (f + 1) + k by omega, h1, f_X4_passHour_47, e_gc S1, if_neg (gc_in O1 hk1), l_gs S1.1, l_g S1.1 (by omega), e_ghd S1 hk1, x3, if_neg (fun z => by rw [z] at q; exact absurd q (by decide)), l_gs S1.1, l_g S1.1 (by omega), lc_g S1.1 (by omega), e2, bv_s, f_X4_passHour_82, nI_1]
    · have e0 : wkA c n (k + 1) = wkA c n k := by
        rw [wkA_step (by omega)]
        funext j
        rw [if_neg (fun z => q z.2), if_neg (fun z => q z.2)]
      refine ⟨M1, by rw [e0]; exact S1, F1, fun k4 f y1 y2 y3 => ?_⟩
      rw [show f + (k + 1) = (f + 1) + k by omega, h1, f_X4_passHour_47, e_gc S1, if_neg (gc_in O1 hk1), l_gs S1.1, l_g S1.1 (by omega), e_ghd S1 hk1, x3, if_pos ((neg_hand O (by omega)).mp q), f_X4_passHour_82, nI_1]
/-- from the minute t on -/
theorem p_hourFrom {n : Nat} (hn : n ≤ 240) (c : Nat → Int32) (O : okC c) : ∀ (f t : Nat), t ≤ n → n - t < f → ∀ M, shO M a (hmin c t).1 → ∃ M', f_X4_passHour_4 f M (some a) (nI n) (hmin c t).2 (nI (n - t)) = some ((hmin c n).2, M') ∧ shW M' a (ecl (hrs c n)) ∧ FrI M M' a 31
  | 0, _, _, h, _, _ => absurd h (by omega)
  | f + 1, t, ht, h, M, S => by
    have g4 := (ok_g O).2
    rw [f_X4_passHour_4]
    by_cases q : t = n
    · subst q
      rw [if_pos (by rw [Nat.sub_self]; exact Int32.le_refl _), e_min S, lp_s S.1]
      refine ⟨_, rfl, ?_, FrI.rf.sI (by omega) (by omega)⟩
      have W := w_m (shW_of S) ((hmin c t).1 4 + nI t)
      have : upd (ecl (hmin c t).1) 4 ((hmin c t).1 4 + nI t) = ecl (hrs c t) := by
        funext k
        have hp : ∀ g, pcs (hrs c t) g = pcs (hmin c t).1 g := fun g => by
          have e9 : ∀ k, k ≠ 4 → hrs c t k = (hmin c t).1 k := fun k hk => pk_un hk
          unfold pcs takes na
          rw [e9 (149 + g) (by omega), e9 (157 + g) (by omega), e9 (29 + _) (by omega), e9 (45 + _) (by omega), e9 (137 + g) (by omega)]
        by_cases z : k = 4
        · rw [z, pk_us, ecl_o (by omega)]
          exact pk_us.symm
        · rw [pk_un z]
          unfold ecl
          rw [hp]
          by_cases y : 157 ≤ k ∧ k < 161
          · rw [if_pos y, if_pos y]
          · rw [if_neg y, if_neg y]
            exact (pk_un z).symm
      rw [← this]
      exact W
    · rw [if_neg (by rw [show (0 : Int32) = nI 0 from rfl, nI_leI' (by omega) (by omega)]; omega)]
      obtain ⟨h1, h2⟩ := hmin_ok O t
      obtain ⟨M1, S1, F1, k1⟩ := p_gmin S (k := gN c) (by rw [h2.g]; exact Nat.le_refl _)
      have O1 := S1.2.2
      have hs1 := (gmin_ok h1 (n := gN c) (by rw [h2.g]; exact Nat.le_refl _)).2
      have hG1 : gN (gmin (hmin c t).1 (gN c)).1 = gN c := by rw [hs1.g, h2.g]
      have e1 : (gmin (hmin c t).1 (gN c)).1 = (hmin c (t + 1)).1 := rfl
      have e2 : (hmin c t).2 + (gmin (hmin c t).1 (gN c)).2 = (hmin c (t + 1)).2 := rfl
      rw [e1] at S1 O1 hG1
      have hfu : fu = (fu - 1 - gN c + 1) + gN c := by unfold fu; omega
      have hgc : (hmin c (t + 1)).1 1 ≤ nI (gN c) := by
        have := gc_out O1
        rw [hG1] at this
        exact this
      rw [hfu, k1, e2, f_X4_passHour_11, e_gc S1, if_pos hgc, lc_s S1.1, show (1 : Int32) = nI 1 from rfl, nI_sub (by omega), p_quiet S1 (by omega), bd_s, hG1]
      have hq := qm_le (hmin c (t + 1)).1 (n - t - 1) (gN c)
      have Q := qm_qui O1 (n - t - 1)
      rw [hG1] at Q
      obtain ⟨qq, hqq⟩ : ∃ qq, qm (hmin c (t + 1)).1 (n - t - 1) (gN c) = qq := ⟨_, rfl⟩
      rw [hqq] at hq Q
      rw [hqq]
      obtain ⟨M2, S2, F2, k2⟩ := p_wkA S1 Q (by omega) (k := gN c) (by rw [hG1]; exact Nat.le_refl _)
      have hW2 := wkA_d (c := (hmin c (t + 1)).1) (n := qq) (j := gN c) (by omega)
      have O2 := S2.2.2
      have hgc2 : wkA (hmin c (t + 1)).1 qq (gN c) 1 ≤ nI (gN c) := by
        have := gc_out O2
        rw [hW2.s.g, hG1] at this
        exact this
      have ea := hmin_add O (t + 1) qq
      rw [hmin_q O1 Q, hG1] at ea
      have ea1 : (hmin c (t + 1 + qq)).1 = wkA (hmin c (t + 1)).1 qq (gN c) := by rw [ea]
      have ea2 : (hmin c (t + 1 + qq)).2 = (hmin c (t + 1)).2 := by rw [ea]; exact Int32.add_zero _
      rw [hfu, k2, f_X4_passHour_47, e_gc S2, if_pos hgc2, nmI_s, nI_sub (by omega)]
      rw [← ea1] at S2
      rw [← ea2, show n - t - qq = (n - (t + 1 + qq)) + 1 by omega, pk_m1]
      obtain ⟨M3, e3, W3, F3⟩ := p_hourFrom hn c O f (t + 1 + qq) (by omega) (by omega) M2 S2
      exact ⟨M3, e3, W3, (F1.tr F2).tr F3⟩
theorem p_hour (S : shO M a c) {n : Nat} (hn : n ≤ 240) (h9 : na c 4 + n ≤ 10239) : ∃ M', f_X4_passHour M (some a) (nI n) = some ((hmin c n).2, M') ∧ shO M' a (hrs c n) ∧ FrI M M' a 31 := by
  obtain ⟨M', e1, W1, F1⟩ := p_hourFrom hn c S.2.2 fu 0 (by omega) (by unfold fu; omega) M S
  exact ⟨M', e1, shO_of W1 (fun _ _ => rfl) (hrs_ok S.2.2 h9), F1⟩
end P
