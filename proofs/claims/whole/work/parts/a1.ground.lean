/-! GROUND: the two of them -/
abbrev ofP (c : Nat → Int32) (h : Nat) : Prop := c (61 + h) = 1 ∧ c (53 + h) = 0
def oN (c : Nat → Int32) : Nat := stN (ofP c) (hN c)
def lnc (c : Nat → Int32) : Nat → Nat := fun h => na c (37 + h)
theorem inO_nI {s u : Nat} (hs : s < 256) : (nI s &&& (nI u ^^^ (-1)) = 0) ↔ inS s u := by
  rw [sub_nI hs, andn0 (by omega)]
  constructor
  · intro h k hk
    exact h k (by have := bit_8 hs hk; omega) hk
  · intro h k _ hk
    exact h k hk
section G
variable {M : Mm} {c : Nat → Int32} {a g room : Nat}
theorem o_set (O : okC c) : st (ofP c) (hN c) = nI (oN c) ∧ oN c < 256 := st_256 (ofP c) (ok_h O).2
theorem o_bit (k : Nat) : (oN c).testBit k = true ↔ k < hN c ∧ ofP c k := by
  unfold oN
  rw [stN_bit]
  simp
theorem lnb (O : okC c) {k : Nat} (hk : k < hN c) : c (37 + k) = nI (lnc c k) ∧ 1 ≤ lnc c k ∧ lnc c k ≤ 20 := (O.2.2.2.2.2.1 k hk).2.2.2.2.1
theorem lnw (O : okC c) (s : Nat) : wkS (lnc c) s (hN c) ≤ 160 := by
  have h8 := (ok_h O).2
  have := wkS_le (s := s) (w := lnc c) (B := 20) (hN c) (fun k hk => (lnb O hk).2.2)
  omega
theorem p_laid (M : Mm) {v l room : Nat} (hv : v ≤ 10000000) (hl : l ≤ 1000) (hr : room ≤ 1000) : f_X3_laid M (nI v) (nI l) (nI room) = some (nI (laidN v l room), M) := by
  have e1 : v - v / 100 * 100 = v % 100 := by omega
  unfold f_X3_laid laidN
  rw [dvI_s (by decide), show (100 : Int32) = nI 100 from rfl, pk_div (by omega) (by omega) (by omega), nI_mul, nI_sub (by omega), e1, nI_add]
  by_cases q : v % 100 + l ≤ room
  · rw [if_neg (by rw [nI_ltI' (by omega) (by omega)]; omega), if_pos q, nI_add]
  · rw [if_pos (by rw [nI_ltI' (by omega) (by omega)]; omega), if_neg q, dvI_s (by decide), nI_1, nI_mul, nI_add]
theorem V_bd (O : okC c) (hr : room ≤ 99) (hlen : ∀ k, (oN c).testBit k = true → lnc c k ≤ room) {t : Nat} (ht : t < 256) (hb : inS t (oN c)) : Vn (lnc c) room (hN c) t ≤ 899 ∧ Vn (lnc c) room (hN c) t / 100 = Rn (lnc c) room (hN c) t := by
  have h8 := (ok_h O).2
  have h := VR (len := lnc c) (room := room) (n := hN c) hr h8 t ht (fun k hk => by
    have h1 := hb k hk
    have h2 := (o_bit k).mp h1
    exact ⟨h2.1, (lnb O h2.1).2.1, hlen k h1⟩)
  have ct : cnt t ≤ 8 := Nat.le_trans (wkS_le (B := 1) 8 (fun _ _ => Nat.le_refl 1)) (by omega)
  have h1 := h.2.2.1
  have h2 := h.2.2.2
  exact ⟨by omega, h1⟩
def J28 (M : Mm) (c : Nat → Int32) (room x h : Nat) (N : Mm) : Prop := FS P9 M N ∧ (∀ t, t < x → inS t (oN c) → mI N 91 t = nI (Vn (lnc c) room (hN c) t)) ∧ (inS x (oN c) → mI N 91 x = nI (mnS (fun h => laidN (Vn (lnc c) room (hN c) (rmB x h)) (lnc c h) room) x 1000000 h))
theorem p_28 (S : shO M a c) (ha : a = 12 ∨ a = 43) (P : plL M) (hr : room ≤ 99) (hlen : ∀ k, (oN c).testBit k = true → lnc c k ≤ room) {x : Nat} (hx : x < 256) (k10 : Mm → Option Nat → Option Nat → Int32 → Int32 → Int32 → Option (Int32 × Mm)) {N : Mm} (h : J28 M c room x 0 N) : ∃ N', f_X3_fewestRows_28 k10 fu N (some 88) (some a) (nI (oN c)) (nI room) (nI x) 0 = k10 N' (some 88) (some a) (nI (oN c)) (nI room) (nI (x + 1)) ∧ J28 M c room x (hN c) N' := by
  have O := S.2.2
  have h8 := (ok_h O).2
  have hP9 : ∀ x, a ≤ x → x < a + 31 → ¬ P9 x := fun x h1 h2 => by unfold P9; omega
  refine lupE0 (fun f N h => f_X3_fewestRows_28 k10 f N (some 88) (some a) (nI (oN c)) (nI room) (nI x) (nI h)) (fun h N => J28 M c room x h N) (hN c) (fun N => k10 N (some 88) (some a) (nI (oN c)) (nI room) (nI (x + 1))) (by omega) (fun f h N hh hI => ?_) (fun f N hI => ?_) N h
  · obtain ⟨h1, h2, h3⟩ := hI
    have SN := h1.sho hP9 S
    have PN := FS_pl h1 P
    by_cases q : inS x (oN c)
    · by_cases q2 : x.testBit h = true
      · have hrl := rm_lt hx q2
        have hri : inS (rmB x h) (oN c) := fun k hk => q k ((rm_bit hx k).mp hk).1
        have hV := (V_bd O hr hlen (by omega) hri).1
        have hl := lnb O hh
        have hm := mnS_i (t := fun h => laidN (Vn (lnc c) room (hN c) (rmB x h)) (lnc c h) room) (s := x) (i := 1000000) h
        have hld : laidN (Vn (lnc c) room (hN c) (rmB x h)) (lnc c h) room ≤ 2000 := by
          unfold laidN
          by_cases z : Vn (lnc c) room (hN c) (rmB x h) % 100 + lnc c h ≤ room
          · rw [if_pos z]; omega
          · rw [if_neg z]; omega
        refine ⟨sI N 91 x (nI (mnS (fun h => laidN (Vn (lnc c) room (hN c) (rmB x h)) (lnc c h) room) x 1000000 (h + 1))), ?_, h1.sI (Or.inr rfl) _ _, fun t ht hti => ?_, fun _ => by rw [mI_sI_s]⟩
        · rw [f_X3_fewestRows_28, e_hc SN, if_neg (hc_in O hh), if_pos ((inO_nI hx).mpr q), if_pos ((hasB_nI (by omega) (by omega)).mpr q2), pl_r3 PN, rm_nI (by omega), r91 PN (by omega), h2 _ hrl hri, e_hs SN, e_h SN (h_8 SN hh), e_hlo SN hh, hl.1, p_laid N (by omega) (by omega) (by omega), bd_s, pl_r3 PN, pl_r3 PN, r91 PN hx, h3 q, mn_nI (by omega) (by omega), s91 PN hx, f_X3_fewestRows_106, nI_1, mnS, if_pos q2]
        · rw [mI_f (by omega)]
          exact h2 t ht hti
      · refine ⟨N, ?_, h1, h2, fun z => ?_⟩
        · rw [f_X3_fewestRows_28, e_hc SN, if_neg (hc_in O hh), if_pos ((inO_nI hx).mpr q), if_neg (fun z => q2 ((hasB_nI (by omega) (by omega)).mp z)), f_X3_fewestRows_106, nI_1]
        · rw [mnS, if_neg q2]
          exact h3 z
    · refine ⟨N, ?_, h1, h2, fun z => absurd z q⟩
      rw [f_X3_fewestRows_28, e_hc SN, if_neg (hc_in O hh), if_neg (fun z => q ((inO_nI hx).mp z)), f_X3_fewestRows_106, nI_1]
  · have SN := hI.1.sho hP9 S
    rw [f_X3_fewestRows_28, e_hc SN, if_pos (hc_out O), nI_1]
theorem p_fewest (S : shO M a c) (ha : a = 12 ∨ a = 43) (P : plL M) (hr : room ≤ 99) (hlen : ∀ k, (oN c).testBit k = true → lnc c k ≤ room) : ∃ N, f_X3_fewestRows M (some 88) (some a) (nI (oN c)) (nI room) = some (nI (Rn (lnc c) room (hN c) (oN c)), N) ∧ FS P9 M N := by
  have O := S.2.2
  have h8 := (ok_h O).2
  have o8 := (o_set O).2
  have F0 : FS P9 M (sI M 91 0 (nI room)) := FS.rf.sI (Or.inr rfl) _ _
  obtain ⟨N, e1, e0, e2, e3⟩ : ∃ N, f_X3_fewestRows_10 fu (sI M 91 0 (nI room)) (some 88) (some a) (nI (oN c)) (nI room) (nI 1) = some (nI (Rn (lnc c) room (hN c) (oN c)), N) ∧ (1 ≤ oN c + 1 ∧ FS P9 M N ∧ ∀ t, t < oN c + 1 → inS t (oN c) → mI N 91 t = nI (Vn (lnc c) room (hN c) t)) := by
    refine lupE (fun f N x => f_X3_fewestRows_10 f N (some 88) (some a) (nI (oN c)) (nI room) (nI x)) (fun x N => 1 ≤ x ∧ FS P9 M N ∧ ∀ t, t < x → inS t (oN c) → mI N 91 t = nI (Vn (lnc c) room (hN c) t)) (oN c + 1) (fun N => some (nI (Rn (lnc c) room (hN c) (oN c)), N)) (fun f x N hx hI => ?_) (fun f N hI => ?_) fu 1 (sI M 91 0 (nI room)) (by omega) (by unfold fu; omega) ⟨by omega, F0, fun t ht _ => ?_⟩
    · obtain ⟨hx1, h1, h2⟩ := hI
      have PN := FS_pl h1 P
      have x0 : x ≠ 0 := by omega
      obtain ⟨N', k1, k2, k3, k4⟩ := p_28 S ha P hr hlen (x := x) (by omega) (f_X3_fewestRows_10 f) (N := sI N 91 x (nI 1000000)) ⟨h1.sI (Or.inr rfl) _ _, fun t ht hti => by rw [mI_f (by omega)]; exact h2 t ht hti, fun _ => by rw [mI_sI_s]; rfl⟩
      refine ⟨N', ?_, by omega, k2, fun t ht hti => ?_⟩
      · rw [f_X3_fewestRows_10, if_neg (by rw [nI_ltI' (by omega) (by omega)]; omega), pl_r3 PN, s91 PN (by omega)]
        exact k1
      · by_cases q : t = x
        · subst q
          rw [k4 hti, ← Vn_s (by omega) x0]
        · exact k3 t (by omega) hti
    · have PN := FS_pl hI.2.1 P
      have hV := V_bd O hr hlen o8 (fun k hk => hk)
      rw [f_X3_fewestRows_10, if_pos (by rw [nI_ltI' (by omega) (by omega)]; omega), pl_r3 PN, r91 PN o8, hI.2.2 _ (by omega) (fun k hk => hk), dvI_s (by decide), show (100 : Int32) = nI 100 from rfl, pk_div (by omega) (by omega) (by omega), hV.2]
    · rw [show t = 0 by omega, mI_sI_s, Vn_0]
  refine ⟨N, ?_, e2⟩
  unfold f_X3_fewestRows
  rw [pl_r3 P]
  exact (s91 (k := 0) P (by omega)).trans e1
theorem q_long (D : md M c) (O : okC c) {o : Nat} (ho : o < 256) : f_X12_longOf M (some 207) (nI o) = some (nI (wkS (lnc c) o (hN c)), M) := by
  have h8 := (ok_h O).2
  refine lup0 (fun f k => f_X12_longOf_4 f M (some 207) (nI o) (nI (wkS (lnc c) o k)) (nI k)) (hN c) _ (by omega) (fun f k hk => ?_) (fun f => ?_)
  · rw [f_X12_longOf_4, m_r20 D.1, m_c0 D, if_neg (hc_in O hk), q_hasN M (by omega) (by omega), bd_s, wkS]
    by_cases q : o.testBit k = true
    · rw [if_pos q, if_neg (by decide), if_pos q, m_r20 D.1, i37, m_c D (by omega), (lnb O hk).1, f_X12_longOf_36, nI_add, nmI_s, nI_1]
    · rw [if_neg q, if_pos rfl, if_neg q, f_X12_longOf_36, show (0 : Int32) = nI 0 from rfl, nI_add, nmI_s, nI_1]
      rfl
  · rw [f_X12_longOf_4, m_r20 D.1, m_c0 D, if_pos (hc_out O)]
theorem q_123 (O : okC c) (hr : room ≤ 99) {x : Nat} (hx : x < 256) (off : Int32) (k99 : Mm → Option Nat → Int32 → Int32 → Int32 → Option (Int32 × Mm)) : ∀ n o acc N, o < n → inS o x → acc ≤ 99 → md N c → (∀ t, t < x → mI N 217 t = nI (Rn (lnc c) room (hN c) t)) → mI N 217 x = nI acc → ∃ N', f_X12_ground_123 k99 n N (some 207) (nI room) off (nI x) (nI o) = k99 N' (some 207) (nI room) off (nI (x + 1)) ∧ FS P7 N N' ∧ (∀ t, t ≠ x → mI N' 217 t = mI N 217 t) ∧ mI N' 217 x = nI (mnr (lnc c) room (hN c) (Rn (lnc c) room (hN c)) x n o acc) := by
  intro n
  induction n with
  | zero => intro o acc N h; omega
  | succ n ih =>
    intro o acc N h ho hacc D hT hc
    have hle := inS_le ho
    by_cases q : o = 0
    · refine ⟨N, ?_, FS.rf, fun _ _ => rfl, ?_⟩
      · rw [f_X12_ground_123, if_pos ((nI_le0 (by omega)).mpr q), nI_1]
      · rw [mnr, if_pos q]
        exact hc
    · have hlt := dif_lt hx ho q
      have hle2 : (o - 1) &&& x ≤ o - 1 := Nat.and_le_left
      have hw := lnw O o
      have hR := Rn_99 (len := lnc c) (room := room) (n := hN c) (t := dif x o) (by omega)
      have e1 : (nI o - 1) &&& nI x = nI ((o - 1) &&& x) := by
        rw [show (1 : Int32) = nI 1 from rfl, nI_sub (by omega), nI_and]
      by_cases q2 : wkS (lnc c) o (hN c) ≤ room
      · have D2 : md (sI N 217 x (nI (min acc (1 + Rn (lnc c) room (hN c) (dif x o))))) c := md_sI D (by decide)
        obtain ⟨N', k1, k2, k3, k4⟩ := ih ((o - 1) &&& x) (min acc (1 + Rn (lnc c) room (hN c) (dif x o))) (sI N 217 x (nI (min acc (1 + Rn (lnc c) room (hN c) (dif x o))))) (by omega) inS_and (by omega) D2 (fun t ht => by rw [mI_f (by omega)]; exact hT t ht) (by rw [mI_sI_s])
        refine ⟨N', ?_, ((FS.rf (P := P7)).sI rfl _ _).tr k2, fun t ht => ?_, ?_⟩
        · rw [f_X12_ground_123, if_neg (fun z => q ((nI_le0 (by omega)).mp z)), m_ck D.1, q_long D O (by omega), bd_s, if_neg (by rw [nI_ltI' (by omega) (by omega)]; omega), m_r29 D.1, m_r29 D.1, r217 D.1 hx, hc, m_r29 D.1, nI_not, nI_and, r217 D.1 (show x &&& (o ^^^ 4294967295) < 256 from Nat.lt_trans hlt hx), show mI N 217 (x &&& (o ^^^ 4294967295)) = nI (Rn (lnc c) room (hN c) (dif x o)) from hT _ hlt, show (1 : Int32) = nI 1 from rfl, nI_add, mn_nI (by omega) (by omega), s217 D.1 hx, f_X12_ground_166, e1, nmI_s]
          exact k1
        · rw [k3 t ht, mI_f ht]
        · rw [mnr, if_neg q, if_pos q2]
          exact k4
      · obtain ⟨N', k1, k2, k3, k4⟩ := ih ((o - 1) &&& x) acc N (by omega) inS_and hacc D hT hc
        refine ⟨N', ?_, k2, k3, ?_⟩
        · rw [f_X12_ground_123, if_neg (fun z => q ((nI_le0 (by omega)).mp z)), m_ck D.1, q_long D O (by omega), bd_s, if_pos (by rw [nI_ltI' (by omega) (by omega)]; omega), f_X12_ground_166, e1, nmI_s]
          exact k1
        · rw [mnr, if_neg q, if_neg q2]
          exact k4
theorem q_99 (D : md M c) (O : okC c) (hr : room ≤ 99) : ∃ N, f_X12_ground_99 fu M (some 207) (nI room) (nI (oN c)) 0 = some (nI (Rn (lnc c) room (hN c) (oN c)), N) ∧ FS P7 M N := by
  have o8 := (o_set O).2
  obtain ⟨N, e1, e2, e3⟩ : ∃ N, f_X12_ground_99 fu M (some 207) (nI room) (nI (oN c)) (nI 0) = some (nI (Rn (lnc c) room (hN c) (oN c)), N) ∧ (FS P7 M N ∧ ∀ t, t < oN c + 1 → mI N 217 t = nI (Rn (lnc c) room (hN c) t)) := by
    refine lupE0 (fun f N x => f_X12_ground_99 f N (some 207) (nI room) (nI (oN c)) (nI x)) (fun x N => FS P7 M N ∧ ∀ t, t < x → mI N 217 t = nI (Rn (lnc c) room (hN c) t)) (oN c + 1) (fun N => some (nI (Rn (lnc c) room (hN c) (oN c)), N)) (by omega) (fun f x N hx hI => ?_) (fun f N hI => ?_) M ⟨FS.rf, fun t ht => by omega⟩
    · obtain ⟨h1, h2⟩ := hI
      have DN : md N c := h1.mdc (by unfold P7; omega) D
      have go : ∀ v, v = (if x = 0 then 0 else 99) → ∃ N', f_X12_ground_119 (f_X12_ground_99 f) N (some 207) (nI room) (nI (oN c)) (nI x) (some 217) (nI x) (nI v) = f_X12_ground_99 f N' (some 207) (nI room) (nI (oN c)) (nI (x + 1)) ∧ (FS P7 M N' ∧ ∀ t, t < x + 1 → mI N' 217 t = nI (Rn (lnc c) room (hN c) t)) := fun v hv => by
        have v9 : v ≤ 99 := by
          by_cases q : x = 0
          · rw [if_pos q] at hv; omega
          · rw [if_neg q] at hv; omega
        have D2 : md (sI N 217 x (nI v)) c := md_sI DN (by decide)
        obtain ⟨N', k1, k2, k3, k4⟩ := q_123 O hr (x := x) (by omega) (nI (oN c)) (f_X12_ground_99 f) fu x v (sI N 217 x (nI v)) (by unfold fu; omega) (fun k hk => hk) v9 D2 (fun t ht => by rw [mI_f (by omega)]; exact h2 t ht) (by rw [mI_sI_s])
        refine ⟨N', ?_, (h1.sI (P := P7) rfl _ _).tr k2, fun t ht => ?_⟩
        · unfold f_X12_ground_119
          rw [s217 DN.1 (by omega)]
          exact k1
        · by_cases q : t = x
          · subst q
            rw [k4, hv]
            by_cases q0 : t = 0
            · subst q0
              rw [if_pos rfl, Rn_0]
              exact congrArg nI (Nat.le_zero.mp (mnr_le _ _ _))
            · rw [if_neg q0, ← Rn_s (by omega) q0]
          · rw [k3 t q, mI_f q]
            exact h2 t (by omega)
      by_cases q : x = 0
      · obtain ⟨N', k1, k2⟩ := go 0 (by rw [if_pos q])
        refine ⟨N', ?_, k2⟩
        rw [f_X12_ground_99, if_neg (by rw [nI_ltI' (by omega) (by omega)]; omega), m_r29 DN.1, if_pos ((nI_z (by omega)).mpr q)]
        exact k1
      · obtain ⟨N', k1, k2⟩ := go 99 (by rw [if_neg q])
        refine ⟨N', ?_, k2⟩
        rw [f_X12_ground_99, if_neg (by rw [nI_ltI' (by omega) (by omega)]; omega), m_r29 DN.1, if_neg (fun z => q ((nI_z (by omega)).mp z))]
        exact k1
    · have DN : md N c := hI.1.mdc (by unfold P7; omega) D
      rw [f_X12_ground_99, if_pos (by rw [nI_ltI' (by omega) (by omega)]; omega), m_r29 DN.1, r217 DN.1 o8, hI.2 _ (by omega)]
  exact ⟨N, e1, e2⟩
end G
theorem op_ground (x : Int32) : opI (fun M => f_X11_ground M (some 0) x) (fun M => f_X12_ground M (some 207) x) := by
  intro M hR
  obtain ⟨a, b, y, z, H⟩ := id hR
  have hL := H.1
  have S := H.2.1
  have O := S.2.2
  have h8 := (ok_h O).2
  have o8 := (o_set O).2
  by_cases q : 1 ≤ x ∧ x ≤ 99
  · obtain ⟨room, hr, rfl⟩ := rng (n := 99) (by decide) ⟨Int32.le_trans (by decide) q.1, q.2⟩
    have hoff : f_X4_offSet M (some a) = some (nI (oN (mI M 212)), M) := by
      rw [p_off S, off_eq O, (o_set O).1]
    have bitO : ∀ k, k < hN (mI M 212) → (((nI (oN (mI M 212)) >>> (nI k &&& 31)) &&& 1) = 1 ↔ ofP (mI M 212) k) := fun k hk => by
      have h1 := hasB_nI (s := oN (mI M 212)) (k := k) (by omega) (by omega)
      have h2 := o_bit (c := mI M 212) k
      exact ⟨fun z => (h2.mp (h1.mp z)).2, fun z => h1.mpr (h2.mpr ⟨hk, z⟩)⟩
    have stepC : ∀ f k, k < hN (mI M 212) → (ofP (mI M 212) k → lnc (mI M 212) k ≤ room) → f_X11_ground_26 (f + 1) M (some 0) (nI room) (nI (oN (mI M 212))) (nI k) = f_X11_ground_26 f M (some 0) (nI room) (nI (oN (mI M 212))) (nI (k + 1)) := fun f k hk hg => by
      have hl := lnb O hk
      rw [f_X11_ground_26, c_sh hL, e_hc S, if_neg (hc_in O hk)]
      by_cases q1 : ofP (mI M 212) k
      · have := hg q1
        rw [if_pos ((bitO k hk).mpr q1), c_sh hL, e_hs S, e_h S (h_8 S hk), e_hlo S hk, hl.1, if_pos (by rw [nI_leI' (by omega) (by omega)]; exact this), f_X11_ground_69, nI_1]
      · rw [if_neg (fun z => q1 ((bitO k hk).mp z)), f_X11_ground_69, nI_1]
    have stepM : ∀ (N : Mm) (D : md N (mI M 212)) f k, k < hN (mI M 212) → (ofP (mI M 212) k → lnc (mI M 212) k ≤ room) → f_X12_ground_32 (f + 1) N (some 207) (nI room) (st (ofP (mI M 212)) k) (nI k) = f_X12_ground_32 f N (some 207) (nI room) (st (ofP (mI M 212)) (k + 1)) (nI (k + 1)) := fun N D f k hk hg => by
      have hl := lnb O hk
      have p7 := (O.2.2.2.2.2.1 k hk).2.2.2.2.2.2.1
      have p9 := p7.2.2
      rw [f_X12_ground_32, m_r20 D.1, m_c0 D, if_neg (hc_in O hk), m_ck D.1, q_stands D (by omega), bd_s]
      by_cases q1 : mI M 212 (61 + k) = 1
      · rw [if_pos q1, if_neg (by decide), m_r20 D.1, i53, m_c D (by omega)]
        by_cases q2 : mI M 212 (53 + k) = 0
        · have := hg ⟨q1, q2⟩
          rw [if_pos (by rw [q2]; decide), st_y (p := ofP (mI M 212)) ⟨q1, q2⟩, nmI_s, m_r20 D.1, i37, m_c D (by omega), hl.1, if_pos (by rw [nI_leI' (by omega) (by omega)]; exact this), f_X12_ground_91, nI_1]
        · rw [if_neg (by
            rw [p7.1] at q2 ⊢
            exact fun z => q2 ((nI_z (by omega)).mpr ((nI_le0 (by omega)).mp z))), st_n (p := ofP (mI M 212)) (fun z => q2 z.2), f_X12_ground_91, nI_1]
      · rw [if_neg q1, if_pos rfl, st_n (p := ofP (mI M 212)) (fun z => q1 z.1), f_X12_ground_91, nI_1]
    by_cases qb : ∃ k, k < hN (mI M 212) ∧ ofP (mI M 212) k ∧ room < lnc (mI M 212) k
    · obtain ⟨e, ⟨e1, e2, e3⟩, hmin⟩ := pk_least (fun k => k < hN (mI M 212) ∧ ofP (mI M 212) k ∧ room < lnc (mI M 212) k) qb
      have good : ∀ k, k < e → ofP (mI M 212) k → lnc (mI M 212) k ≤ room := fun k hk hp => Nat.le_of_not_lt fun z => hmin k hk ⟨by omega, hp, z⟩
      have hl := lnb O e1
      refine ⟨-1, sI M 0 0 9, stM M 9, ?_, ?_, RR_st hR 9⟩
      · dsimp only
        unfold f_X11_ground
        rw [q_within, bd_s, if_pos q, if_neg (by decide), c_sh hL, lc_s S.1, hoff, bd_s]
        refine lup0 (fun f k => f_X11_ground_26 f M (some 0) (nI room) (nI (oN (mI M 212))) (nI k)) e _ (by omega) (fun f k hk => stepC f k (by omega) (good k hk)) (fun f => ?_)
        rw [f_X11_ground_26, c_sh hL, e_hc S, if_neg (hc_in O e1), if_pos ((bitO e e1).mpr e2), c_sh hL, e_hs S, e_h S (h_8 S e1), e_hlo S e1, hl.1, if_neg (by rw [nI_leI' (by omega) (by omega)]; omega), c_ck hL, c_none hL, bd_s]
      · have D := pre_md hL 9
        dsimp only
        unfold f_X12_ground
        rw [m_pre hL]
        simp (disch := omega) only [↓q_isIn, j0, j1, u1, u3, u4, u5, u8, u9, u20, u60, u99, u100, u240, u9999, ite01z, not_true_eq_false, not_false_eq_true, if_true, if_false, z10, eq_true q, ↓bd_s]
        refine lup0 (fun f k => f_X12_ground_32 f (pre M 9) (some 207) (nI room) (st (ofP (mI M 212)) k) (nI k)) e _ (by omega) (fun f k hk => stepM _ D f k (by omega) (good k hk)) (fun f => ?_)
        rw [f_X12_ground_32, m_r20 D.1, m_c0 D, if_neg (hc_in O e1), m_ck D.1, q_stands D (by omega), bd_s, if_pos e2.1, if_neg (by decide), m_r20 D.1, i53, m_c D (by omega), if_pos (by rw [e2.2]; decide), nmI_s, m_r20 D.1, i37, m_c D (by omega), hl.1, if_neg (by rw [nI_leI' (by omega) (by omega)]; omega), m_ck D.1, m_refuse hL, bd_s]
        rfl
    · have good : ∀ k, k < hN (mI M 212) → ofP (mI M 212) k → lnc (mI M 212) k ≤ room := fun k hk hp => Nat.le_of_not_lt fun z => qb ⟨k, hk, hp, z⟩
      have ha := ll_a hL
      have P := pl_of hL
      obtain ⟨M1, f1, F1⟩ := p_fewest S ha P hr (fun k hk => by
        have h2 := (o_bit k).mp hk
        exact good k h2.1 h2.2)
      have hL1 : LL M1 a b y z := LL_same hL F1.1 F1.2.2.1 F1.2.2.2.1
      have i1 : mI M1 212 = mI M 212 := F1.2.2.2.2 212 (by unfold P9; omega)
      have D := pre_md hL1 0
      rw [i1] at D
      obtain ⟨N, k1, F2⟩ := q_99 D O hr
      refine ⟨nI (Rn (lnc (mI M 212)) room (hN (mI M 212)) (oN (mI M 212))), sI M1 0 0 0, N, ?_, ?_, RR_scr (s := 0) hR (F2.1.trans F1.1) (F2.2.1.trans F1.2.1) (F2.2.2.1.trans F1.2.2.1) (F2.2.2.2.1.trans F1.2.2.2.1) fun x x1 x2 x3 x4 x5 x6 => ?_⟩
      · dsimp only
        unfold f_X11_ground
        rw [q_within, bd_s, if_pos q, if_neg (by decide), c_sh hL, lc_s S.1, hoff, bd_s]
        refine lup0 (fun f k => f_X11_ground_26 f M (some 0) (nI room) (nI (oN (mI M 212))) (nI k)) (hN (mI M 212)) _ (by omega) (fun f k hk => stepC f k hk (good k hk)) (fun f => ?_)
        rw [f_X11_ground_26, c_sh hL, e_hc S, if_pos (hc_out O), c_pl hL, c_sh hL, pl_ck P, f1, bd_s, c_ck hL1, c_answer hL1, bd_s]
      · dsimp only
        unfold f_X12_ground
        rw [m_pre hL1]
        simp (disch := omega) only [↓q_isIn, j0, j1, u1, u3, u4, u5, u8, u9, u20, u60, u99, u100, u240, u9999, ite01z, not_true_eq_false, not_false_eq_true, if_true, if_false, z10, eq_true q, ↓bd_s]
        refine lup0 (fun f k => f_X12_ground_32 f (pre M1 0) (some 207) (nI room) (st (ofP (mI M 212)) k) (nI k)) (hN (mI M 212)) _ (by omega) (fun f k hk => stepM _ D f k hk (good k hk)) (fun f => ?_)
        rw [f_X12_ground_32, m_r20 D.1, m_c0 D, if_pos (hc_out O), (o_set O).1]
        exact k1
      · rw [F2.2.2.2.2 x (by unfold P7; omega), pre_x 0 (F1.2.2.2.2 x (by unfold P9; omega))]
        rfl
  · refine ⟨-1, sI M 0 0 5, stM M 5, ?_, ?_, RR_st hR 5⟩
    · dsimp only
      unfold f_X11_ground
      rw [q_within, bd_s, if_neg q, if_pos rfl, c_ck hL, c_none hL, bd_s]
    · have D := pre_md hL 5
      dsimp only
      unfold f_X12_ground
      rw [m_pre hL]
      simp (disch := omega) only [↓q_isIn, j0, j1, u1, u3, u4, u5, u8, u9, u20, u60, u99, u100, u240, u9999, ite01z, not_true_eq_false, not_false_eq_true, if_true, if_false, z10, eq_false q, ↓bd_s, ↓m_r4 D.1, ↓m_r5 D.1, ↓m_r6 D.1, ↓m_r7 D.1, ↓m_r20 D.1, ↓m_r21 D.1, ↓m_r22 D.1, ↓m_r27 D.1, ↓m_r28 D.1, ↓m_r29 D.1, ↓m_r31 D.1, ↓m_r32 D.1, ↓m_r35 D.1, ↓m_ck D.1, ↓m_c0 D, ↓m_c1 D, ↓m_c2 D, ↓m_c3 D, ↓m_c4 D, ↓m_c D, i2, i3, i4, i5, i13, i21, i29, i37, i45, i53, i61, i69, i133, i137, i141, i145, i149, i153, i157, i161, i167, i4m, i6m, i8m, i9m, i18m, i60m, i256m, i450m, nI_add, ↓nmI_s, ↓bd_s, ↓bv_s, nI_1, ↓reduceIte, ↓q_isHouse D, ↓q_isGang D, ↓m_refuse hL, ↓m_no hL]
      rfl
