/-! arraycopy; arrays of arrays -/
theorem nn_clamp {z : Int32} (hz : 0 ≤ z) : z.toInt = (z.toNatClampNeg : Int) := by
  have hz0 : (0 : Int) ≤ z.toInt := by simpa using Int32.le_iff_toInt_le.mp hz
  show z.toInt = ((z.toInt.toNat : Nat) : Int)
  omega
theorem vr_outer (c : ClassId) (N h0 : Nat) : ∀ i : Nat, Jvm.Free.Multi.outerC c N h0 i = arrV c N (fun j => va_rf (if j < i then some (h0 + 1 + j) else none))
  | 0 => by
    show ({ cls := c, slots := Array.replicate N .null, vm := .none } : Cell) = _
    rw [arrV_new]
    refine congrArg (arrV c N) (funext fun j => ?_)
    simp [va_rf]
  | i + 1 => by
    show (Jvm.Free.Multi.outerC c N h0 i).setSlot i (.ref (h0 + 1 + i)) = _
    rw [vr_outer c N h0 i, arrV_store]
    refine congrArg (arrV c N) (funext fun j => ?_)
    by_cases e : j = i
    · subst e
      simp [updV, va_rf]
    · by_cases h : j < i
      · simp [updV, e, h, Nat.lt_succ_of_lt h]
      · simp [updV, e, h, show ¬ j < i + 1 by omega]
section WtK
variable {G : GG} {X : CX} {J : JD} {B : BD} {pc : Nat} {ls : LV} {st : List Value} {M : Mm} {u w : Nat} {idx : Nat} {ρ : Type} {ans : ρ}
/-- arraycopy between two arrays of a kind of numbers, with the memory behind it -/
theorem wt_copyG {α : Type} (mk : α → Value) {kd a b : Nat} {ty : FieldType} {f g : Nat → α} {sp dp n : Int32} {M' : Mm} (hc : decode J.2.1 pc = .ok (.invokestatic idx, 3)) (hl : Cond.methodLink J.1.cls idx arraycopyName ∈ GW) (h1 : Cond.native arraycopyName ∈ GW) (h2 : Cond.static arraycopyName ∈ GW) (h3 : Cond.initialized "java/lang/System" ∈ GW) (hB : 1 ≤ B.1) (hst : (st.map fun v => v.category).sum ≤ 8)
    (hkd : kT kd = some ty) (hprim : refKind ty = false) (hka : (mK M a).1 = kd) (hkb : (mK M b).1 = kd) (hf : ∀ j, aV G.1 kd M a j = mk (f j)) (hg : ∀ j, aV G.1 kd M b j = mk (g j)) (hfit : ∀ z, fits ty (mk z) = true) (hfd : (∀ z : α, ∃ i, mk z = .int i) ∨ ∀ z : α, ∃ i, mk z = .long i) (p1 : 0 ≤ sp) (p2 : 0 ≤ dp) (p3 : 0 ≤ n) (b1 : sp.toNatClampNeg + n.toNatClampNeg ≤ (mK M a).2) (b2 : dp.toNatClampNeg + n.toNatClampNeg ≤ (mK M b).2)
    (hK : mK M' = mK M) (hT : mT M' = mT M) (ho : ∀ x, x ≠ b → mI M' x = mI M x ∧ mL M' x = mL M x ∧ mR M' x = mR M x) (hv : ∀ j, aV G.1 kd M' b j = mk (va_cpy f g sp.toNatClampNeg dp.toNatClampNeg n.toNatClampNeg j)) (hk99 : 13 ≤ kd ∧ kd ≠ 99)
    (kk : Wt G X J B (pc + 3) ls st M' u w) : Wt G X J B pc ls (.int n :: .int dp :: .ref (G.1 + b) :: .int sp :: .ref (G.1 + a) :: st) M u w := by
  obtain ⟨p, l, e, R, s, m, args, below, meth, c, Q⟩ := X
  intro F H locs la hR hS hls
  have K := kk F
  obtain ⟨hx, hb, hml, hown, hts, hKo, hn0, ⟨hrf, hrl, hrc, hrs⟩, -⟩ := F
  have hc0 : H[G.1 + a]? = some (arrV (G.2.2 kd) (mK M a).2 (fun j => mk (f j))) := by
    rw [hR.arr hka hkd]
    exact congrArg (fun z => some (arrV (G.2.2 kd) (mK M a).2 z)) (funext hf)
  have hc1 : H[G.1 + b]? = some (arrV (G.2.2 kd) (mK M b).2 (fun j => mk (g j))) := by
    rw [hR.arr hkb hkd]
    exact congrArg (fun z => some (arrV (G.2.2 kd) (mK M b).2 z)) (funext hg)
  have hbT : b < mT M := hR.lt (by rw [hkb]; exact hk99.2)
  have e9 : nativeFrameWords "java/lang/System" "arraycopy" 5 ≤ 40 := by decide
  intro T hTh Xs
  obtain ⟨-, k0, hk0, cm0, hkk0⟩ := (hKo.2.1 kd _ hkd).1 (mK M a).2 (fun j => mk (f j))
  obtain ⟨-, k1, hk1, cm1, hkk1⟩ := (hKo.2.1 kd _ hkd).1 (mK M b).2 (fun j => mk (g j))
  obtain ⟨vm', X', step⟩ := Xs.arraycopy hx hown (hts _ hl) (hts _ h1) (hts _ h2) (hts _ h3) (src := G.1 + a) (dst := G.1 + b) (cs := arrV (G.2.2 kd) (mK M a).2 (fun j => mk (f j))) (cd := arrV (G.2.2 kd) (mK M b).2 (fun j => mk (g j))) (srcPos := sp) (destPos := dp) (n := n) (by rw [hTh]; exact hc0) (by rw [hTh]; exact hc1)
    (fun _ h => by cases h) (fun _ h => by cases h) (fun h => by cases h) (fun h => by cases h) hk0 hk1 hkk0 hkk1 (by simp [hprim]) (Int32.not_lt.mpr p1) (Int32.not_lt.mpr p2) (Int32.not_lt.mpr p3)
    (by rw [nn_clamp p1, nn_clamp p3, arrV_size]; omega)
    (by rw [nn_clamp p2, nn_clamp p3, arrV_size]; omega)
    (fun vm₁ _ i hi => by
      have e : (arrV (G.2.2 kd) (mK M a).2 (fun j => mk (f j))).slots.getD (sp.toNatClampNeg + i) .null = mk (f (sp.toNatClampNeg + i)) := by
        rw [Array.getD_eq_getD_getElem?, arrV_read _ _ (by omega)]
        rfl
      refine ⟨?_, ?_⟩
      · rw [e]
        exact hfit _
      · rw [e]
        rcases hfd with q9 | q9
        · obtain ⟨i9, e9⟩ := q9 (f (sp.toNatClampNeg + i))
          rw [e9]
          exact trivial
        · obtain ⟨i9, e9⟩ := q9 (f (sp.toNatClampNeg + i))
          rw [e9]
          exact trivial)
    (g := F0 m pc la (.int n :: .int dp :: .ref (G.1 + b) :: .int sp :: .ref (G.1 + a) :: st)) rfl (by rw [hml]; exact hls.1) (rest := st) rfl (by rw [hb]; exact hc) (by omega) (by show 2 * 0 + _ + _ ≤ _; omega)
  have e1 : copied (arrV (G.2.2 kd) (mK M a).2 (fun j => mk (f j))) (arrV (G.2.2 kd) (mK M b).2 (fun j => mk (g j))) sp dp n = arrV (G.2.2 kd) (mK M b).2 (fun j => mk (va_cpy f g sp.toNatClampNeg dp.toNatClampNeg n.toNatClampNeg j)) := va_copied mk _ _ f g b1
  rw [e1] at X' step
  have hlt : G.1 + b < H.size := by rw [hR.1]; omega
  generalize hcell : arrV (G.2.2 kd) (mK M b).2 (fun j => mk (va_cpy f g sp.toNatClampNeg dp.toNatClampNeg n.toNatClampNeg j)) = cell at X' step
  have hheap : ((T.setVm vm').setCell (G.1 + b) cell).heap = H.setIfInBounds (G.1 + b) cell := by rw [← hTh]; rfl
  have oq : ∀ q : Nat, q ≠ G.1 + b → (H.setIfInBounds (G.1 + b) cell)[q]? = H[q]? := fun q hq => by simp [Array.getElem?_setIfInBounds, Ne.symm hq]
  have hat : (H.setIfInBounds (G.1 + b) cell)[G.1 + b]? = some cell := by simp [Array.getElem?_setIfInBounds, hlt]
  have hR' : Rel G M' (H.setIfInBounds (G.1 + b) cell) := by
    refine hR.put hbT hK hT ho (by simp) oq ⟨fun hlt => ?_, fun ty2 ht => ?_⟩
    · rw [hK, hkb] at hlt
      omega
    · rw [hat, ← hcell, hK, hkb]
      exact congrArg (fun z => some (arrV (G.2.2 kd) (mK M b).2 z)) (funext fun j => (hv j).symm)
  obtain ⟨t, a1, b1⟩ := K _ _ la hR' ⟨by simp; exact hS.1, fun q g1 g2 => by
      rw [oq q (fun e => g2 (by rw [e]; exact Nat.le_add_right _ _))]
      exact hS.2.1 q g1 g2, fun q hq => by
      rcases List.mem_append.mp hq with h | h
      · exact hS.2.2 q h
      · obtain ⟨z, -, hz⟩ := List.mem_map.mp h
        rw [← hz]
        exact Nat.le_add_right _ _⟩ hls _ hheap X'
  exact ⟨t, step t a1, b1⟩
theorem wt_copyI {r r2 : Option Nat} {sp dp n : Int32} {cont : Mm → Option ρ} (hc : decode J.2.1 pc = .ok (.invokestatic idx, 3)) (hl : Cond.methodLink J.1.cls idx arraycopyName ∈ GW) (h1 : Cond.native arraycopyName ∈ GW) (h2 : Cond.static arraycopyName ∈ GW) (h3 : Cond.initialized "java/lang/System" ∈ GW) (hB : 1 ≤ B.1) (hst : (st.map fun v => v.category).sum ≤ 8)
    (h : acI M r sp r2 dp n cont = some ans) (kk : ∀ M', cont M' = some ans → Wt G X J B (pc + 3) ls st M' u w) : Wt G X J B pc ls (.int n :: .int dp :: rf G.1 r2 :: .int sp :: rf G.1 r :: st) M u w := by
  unfold acI at h
  cases r with
  | none => cases h
  | some a =>
    cases r2 with
    | none => cases h
    | some b =>
      dsimp only at h
      by_cases hk : (mK M a).1 = 21 ∧ (mK M b).1 = 21 ∧ 0 ≤ sp ∧ 0 ≤ dp ∧ 0 ≤ n ∧ sp.toNatClampNeg + n.toNatClampNeg ≤ (mK M a).2 ∧ dp.toNatClampNeg + n.toNatClampNeg ≤ (mK M b).2
      · rw [if_pos hk] at h
        obtain ⟨k1, k2, k3, k4, k5, k6, k7⟩ := hk
        refine wt_copyG (M' := cpI M a sp.toNatClampNeg b dp.toNatClampNeg n.toNatClampNeg) (fun z : Int32 => Value.int z) (kd := 21) (f := mI M a) (g := mI M b) hc hl h1 h2 h3 hB hst rfl rfl k1 k2 (fun j => rfl) (fun j => rfl) (fun _ => rfl) (Or.inl fun z => ⟨z, rfl⟩) k3 k4 k5 k6 k7 rfl rfl (fun x hx => ⟨funext fun j => if_neg hx, rfl, rfl⟩) (fun j => ?_) ⟨by decide, by decide⟩ (kk _ h)
        show Value.int (if b = b then _ else _) = _
        rw [if_pos rfl]
        rfl
      · rw [if_neg hk] at h
        cases h
theorem wt_copyL {r r2 : Option Nat} {sp dp n : Int32} {cont : Mm → Option ρ} (hc : decode J.2.1 pc = .ok (.invokestatic idx, 3)) (hl : Cond.methodLink J.1.cls idx arraycopyName ∈ GW) (h1 : Cond.native arraycopyName ∈ GW) (h2 : Cond.static arraycopyName ∈ GW) (h3 : Cond.initialized "java/lang/System" ∈ GW) (hB : 1 ≤ B.1) (hst : (st.map fun v => v.category).sum ≤ 8)
    (h : acL M r sp r2 dp n cont = some ans) (kk : ∀ M', cont M' = some ans → Wt G X J B (pc + 3) ls st M' u w) : Wt G X J B pc ls (.int n :: .int dp :: rf G.1 r2 :: .int sp :: rf G.1 r :: st) M u w := by
  unfold acL at h
  cases r with
  | none => cases h
  | some a =>
    cases r2 with
    | none => cases h
    | some b =>
      dsimp only at h
      by_cases hk : (mK M a).1 = 22 ∧ (mK M b).1 = 22 ∧ 0 ≤ sp ∧ 0 ≤ dp ∧ 0 ≤ n ∧ sp.toNatClampNeg + n.toNatClampNeg ≤ (mK M a).2 ∧ dp.toNatClampNeg + n.toNatClampNeg ≤ (mK M b).2
      · rw [if_pos hk] at h
        obtain ⟨k1, k2, k3, k4, k5, k6, k7⟩ := hk
        refine wt_copyG (M' := cpL M a sp.toNatClampNeg b dp.toNatClampNeg n.toNatClampNeg) (fun z : Int64 => Value.long z) (kd := 22) (f := mL M a) (g := mL M b) hc hl h1 h2 h3 hB hst rfl rfl k1 k2 (fun j => rfl) (fun j => rfl) (fun _ => rfl) (Or.inr fun z => ⟨z, rfl⟩) k3 k4 k5 k6 k7 rfl rfl (fun x hx => ⟨rfl, funext fun j => if_neg hx, rfl⟩) (fun j => ?_) ⟨by decide, by decide⟩ (kk _ h)
        show Value.long (if b = b then _ else _) = _
        rw [if_pos rfl]
        rfl
      · rw [if_neg hk] at h
        cases h
end WtK
