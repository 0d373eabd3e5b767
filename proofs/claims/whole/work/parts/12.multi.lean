theorem Rel.push2 {G : GG} {M : Mm} {H H' : Heap} (h : Rel G M H) {kd kr n k : Nat} {ty ty2 : FieldType} (hkd : kT kd = some ty) (hkr : kT kr = some ty2) (h13 : 22 < kd) (hr2 : kr = 21 ∧ ty2 = .int ∨ kr = 22 ∧ ty2 = .long) (hz : H'.size = H.size + 1 + n) (ho : ∀ q, q < H.size → H'[q]? = H[q]?)
    (hc : H'[H.size]? = some (arrV (G.2.2 kd) n (fun j => va_rf (if j < n then some (H.size + 1 + j) else none)))) (hi : ∀ j, j < n → H'[H.size + 1 + j]? = some (arrV (G.2.2 kr) k (fun _ => defaultValue ty2))) : Rel G (nw2 M kd kr n k) H' := by
  have hk99 : kr ≠ 99 := by rcases hr2 with ⟨e, -⟩ | ⟨e, -⟩ <;> omega
  refine ⟨by rw [hz, h.1]; show _ = G.1 + (mT M + 1 + n); omega, fun a ha => ?_, fun a ha => ?_⟩
  · have ha' : mT M + 1 + n ≤ a := ha
    show (if a = mT M then (kd, n) else if mT M < a ∧ a < mT M + 1 + n then (kr, k) else mK M a).1 = 99
    rw [if_neg (by omega), if_neg (by omega)]
    exact h.2.1 a (by omega)
  · have ha' : a < mT M + 1 + n := ha
    by_cases e : a = mT M
    · have hk0 : mK (nw2 M kd kr n k) a = (kd, n) := if_pos e
      refine ⟨fun hlt => ?_, fun ty3 ht => ?_⟩
      · rw [hk0] at hlt
        have : kd < 13 := hlt
        omega
      · rw [hk0, e, ← h.1, hc]
        refine congrArg (fun z => some (arrV (G.2.2 kd) n z)) (funext fun j => ?_)
        show _ = aV G.1 kd (nw2 M kd kr n k) (mT M) j
        unfold aV
        rw [if_neg (show ¬ kd = 22 by omega), if_neg (show ¬ kd ≤ 21 by omega)]
        have hR : mR (nw2 M kd kr n k) (mT M) j = if j < n then some (mT M + 1 + j) else none := if_pos rfl
        rw [hR]
        by_cases hj : j < n
        · rw [if_pos hj, if_pos hj]
          have e9 : H.size + 1 + j = G.1 + (mT M + 1 + j) := by rw [h.1]; omega
          exact congrArg Value.ref e9
        · rw [if_neg hj, if_neg hj]
          rfl
    · by_cases hlt : a < mT M
      · have hn : ¬ mT M ≤ a := by omega
        refine cell_same (h.2.2 a hlt) ((if_neg e).trans (if_neg (by omega))) (funext fun j => if_neg hn) (funext fun j => if_neg hn) (funext fun j => (if_neg e).trans (if_neg hn)) (ho _ (by rw [h.1]; omega))
      · have hk0 : mK (nw2 M kd kr n k) a = (kr, k) := (if_neg e).trans (if_pos (by omega))
        obtain ⟨j, rfl⟩ : ∃ j, a = mT M + 1 + j := ⟨a - (mT M + 1), by omega⟩
        refine ⟨fun hlt9 => ?_, fun ty3 ht => ?_⟩
        · rw [hk0] at hlt9
          have : kr < 13 := hlt9
          rcases hr2 with ⟨e, -⟩ | ⟨e, -⟩ <;> omega
        · rw [hk0]
          have e2 : G.1 + (mT M + 1 + j) = H.size + 1 + j := by rw [h.1]; omega
          rw [e2, hi j (by omega)]
          refine congrArg (fun z => some (arrV (G.2.2 kr) k z)) (funext fun i => ?_)
          have hle : mT M ≤ mT M + 1 + j := by omega
          have hI : mI (nw2 M kd kr n k) (mT M + 1 + j) i = 0 := if_pos hle
          have hL : mL (nw2 M kd kr n k) (mT M + 1 + j) i = 0 := if_pos hle
          rcases hr2 with ⟨e3, e4⟩ | ⟨e3, e4⟩
          · rw [e3, e4]
            simp [aV, defaultValue, ← e3, hI]
            try simp [e3]
          · rw [e3, e4]
            simp [aV, defaultValue, ← e3, hL]
            try simp [e3]
section WtMu
variable {G : GG} {X : CX} {J : JD} {B : BD} {pc : Nat} {ls : LV} {st : List Value} {M : Mm} {u w : Nat} {idx : Nat} {ρ : Type} {ans : ρ}
theorem wt_multi {kd kr N' K' : Nat} {ty : FieldType} {n k : Int32} {cont : Option Nat → Mm → Option ρ} (hc : decode J.2.1 pc = .ok (.multianewarray idx 2, 4)) (hcl : Cond.classLink J.1.cls idx ("[" ++ (FieldType.array ty).toString) ∈ GW) (harr : Cond.arrayClass ty ∈ GW) (hov : ∀ U, Kok G U → va_AOA ty U) (hkd : kT kd = some (.array ty)) (hkr : kT kr = some ty) (h13 : 22 < kd) (hr2 : kr = 21 ∧ ty = .int ∨ kr = 22 ∧ ty = .long)
    (hra : ∀ (U : State) (cA : ClassId), va_RA U cA ty → U.vm.findClass (FieldType.array ty).toString = some cA) (hra2 : ∀ (U : State) (cA : ClassId), va_RA U cA (.array ty) → U.vm.findClass ("[" ++ (FieldType.array ty).toString) = some cA) (hn : ¬ n < 0) (hk : ¬ k < 0) (hN : n.toNatClampNeg = N') (hM : k.toNatClampNeg = K') (hb1 : N' * 4 ≤ 536870912) (hb2 : K' * componentBytes ty ≤ 536870912) (hb3 : K' ≤ 536870912)
    (hu : u + (1 + N') ≤ B.2.1) (hw : w + (N' + N' * K') ≤ B.2.2) (h : nwm M kd kr N' K' cont = some ans) (kk : ∀ q M', cont q M' = some ans → Wt G X J B (pc + 4) ls (rf G.1 q :: st) M' (u + 1 + N') (w + N' + N' * K')) : Wt G X J B pc ls (.int k :: .int n :: st) M u w := by
  have K := kk _ _ h
  obtain ⟨p, l, e, R, s, m, args, below, meth, c, Q⟩ := X
  intro F H locs la hR hS hls
  have K := K F
  obtain ⟨hx, hb, hml, hown, hts, hKo, hn0, ⟨hrf, hrl, hrc, hrs⟩, -⟩ := F
  subst hN
  subst hM
  intro T hT Xs
  have hdf : fits ty (defaultValue ty) = true := by rcases hr2 with ⟨-, e⟩ | ⟨-, e⟩ <;> rw [e] <;> rfl
  have hdd : (defaultValue ty).isDefault = true := by rcases hr2 with ⟨-, e⟩ | ⟨-, e⟩ <;> rw [e] <;> rfl
  obtain ⟨vm₁, cA, comp, -, fA, fC, -, -, X', step⟩ := Xs.multianewarray2F hx hown (hts _ hcl) (va_AOA.use (hov s hKo)) (hts _ harr) (g := F0 m pc la (.int k :: .int n :: st)) rfl (by rw [hb]; exact hc) rfl hn hk hb1 hb2 hb3 hdf hdd (by omega) (by omega)
  have eA : G.2.2 kd = cA := Option.some.inj ((hra2 s _ (hKo.2.1 kd _ hkd).2).symm.trans fA)
  have eC : G.2.2 kr = comp := Option.some.inj ((hra s _ (hKo.2.1 kr _ hkr).2).symm.trans fC)
  generalize hF : Jvm.Free.Multi.fill (T.setVm vm₁) cA comp n.toNatClampNeg k.toNatClampNeg (defaultValue ty) n.toNatClampNeg = Fs at X' step
  have hTh : (T.setVm vm₁).heap = H := hT
  obtain ⟨f1, f2, -, -⟩ := Jvm.Free.Multi.fill_facts (T.setVm vm₁) cA comp n.toNatClampNeg k.toNatClampNeg (defaultValue ty) n.toNatClampNeg
  rw [hF, hTh] at f1 f2
  have hold : ∀ x : Nat, x < H.size → Fs.heap[x]? = H[x]? := fun x hx => by
    have := Jvm.Free.Multi.fill_old (T.setVm vm₁) cA comp n.toNatClampNeg k.toNatClampNeg (defaultValue ty) (a := x) (by rw [hTh]; exact hx) n.toNatClampNeg
    rw [hF, hTh] at this
    exact this
  have hrow : ∀ j : Nat, j < n.toNatClampNeg → Fs.heap[H.size + 1 + j]? = some (arrV comp k.toNatClampNeg (fun _ => defaultValue ty)) := fun j hj => by
    have := Jvm.Free.Multi.fill_inner (T.setVm vm₁) cA comp n.toNatClampNeg k.toNatClampNeg (defaultValue ty) n.toNatClampNeg j hj
    rw [hF, hTh] at this
    rw [this, ← arrV_new]
    rfl
  rw [vr_outer] at f2
  have hz : Fs.heap.size = H.size + 1 + n.toNatClampNeg := by rw [f1]
  obtain ⟨t, a1, b1⟩ := K Fs.heap locs la (hR.push2 hkd hkr h13 hr2 hz hold (by rw [eA]; exact f2) (by rw [eC]; exact hrow)) ⟨by rw [hz]; have := hS.1; omega, fun x h1 h2 => (hold x (Nat.lt_of_lt_of_le h1 hS.1)).trans (hS.2.1 x h1 h2), hS.2.2⟩ hls Fs rfl X'
  refine ⟨t, step t ?_, b1⟩
  have e0 : rf G.1 (some (mT M)) = .ref T.heap.size := by rw [hT, hR.1]; rfl
  rw [e0] at a1
  exact a1
end WtMu
