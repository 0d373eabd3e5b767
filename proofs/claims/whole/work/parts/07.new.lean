/-! new cells -/
def nwc {ρ : Type} (M : Mm) (kd n : Nat) (c : Option Nat → Mm → Option ρ) : Option ρ := c (some (mT M)) (nw M kd n)
def nwa {ρ : Type} (M : Mm) (kd : Nat) (n : Int32) (c : Option Nat → Mm → Option ρ) : Option ρ := if n < 0 then none else c (some (mT M)) (nw M kd n.toNatClampNeg)
def nwm {ρ : Type} (M : Mm) (kd kr : Nat) (n k : Nat) (c : Option Nat → Mm → Option ρ) : Option ρ := c (some (mT M)) (nw2 M kd kr n k)
theorem cell_same {G : GG} {M M' : Mm} {H H' : Heap} {b : Nat} (h : cellOK G M b H) (hK : mK M' b = mK M b) (h1 : mI M' b = mI M b) (h2 : mL M' b = mL M b) (h3 : mR M' b = mR M b) (hq : H'[G.1 + b]? = H[G.1 + b]?) : cellOK G M' b H' := by
  refine ⟨fun hk => ?_, fun ty ht => ?_⟩
  · rw [hK] at hk ⊢
    refine ((h.1 hk).kept hq).to (fun k _ => ?_)
    unfold vOf
    rw [h1, h2, h3]
  · rw [hK] at ht ⊢
    rw [hq, h.2 ty ht]
    unfold aV
    rw [h1, h2, h3]
theorem Rel.push {G : GG} {M : Mm} {H H' : Heap} (h : Rel G M H) (kd n : Nat) (hz : H'.size = H.size + 1) (ho : ∀ q, q < H.size → H'[q]? = H[q]?) (hc : cellOK G (nw M kd n) (mT M) H') : Rel G (nw M kd n) H' := by
  refine ⟨by rw [hz, h.1]; show _ = G.1 + (mT M + 1); omega, fun a ha => ?_, fun a ha => ?_⟩
  · have ha' : mT M + 1 ≤ a := ha
    show (if a = mT M then (kd, n) else mK M a).1 = 99
    rw [if_neg (by omega)]
    exact h.2.1 a (by omega)
  · have ha' : a < mT M + 1 := ha
    by_cases e : a = mT M
    · rw [e]
      exact hc
    · have hlt : a < mT M := by omega
      refine cell_same (h.2.2 a hlt) (if_neg e) ?_ ?_ ?_ (ho _ (by rw [h.1]; omega)) <;> funext k <;> exact if_neg e
theorem vOf_new {G : GG} {M : Mm} {kd n : Nat} {ty : FieldType} (h : okT ty = true) (k : Nat) : vOf G.1 ty (nw M kd n) (mT M) k = defaultValue ty := by
  cases ty <;> simp [vOf, nw, mI, mL, mR, mT, defaultValue, rf] <;> simp [okT] at h
/-- a class that can be made, by its link -/
def CLk (own : String) (idx ci : Nat) : Prop := ∃ q : vw_C, vwCl[ci]? = some q ∧ Cond.classLink own idx q.1 ∈ GW ∧ Cond.instantiable q.1 q.2.2 ∈ GW ∧ Cond.initialized q.1 ∈ GW
section WtN
variable {G : GG} {X : CX} {J : JD} {B : BD} {pc : Nat} {ls : LV} {st : List Value} {M : Mm} {u w : Nat} {ρ : Type} {ans : ρ}
theorem wt_new {idx ci n : Nat} {cont : Option Nat → Mm → Option ρ} (hc : decode J.2.1 pc = .ok (.new idx, 3)) (hl : CLk J.1.cls idx ci) (hn : nC ci = n) (hu : u + 1 ≤ B.2.1) (hw : w + n ≤ B.2.2) (h : nwc M ci n cont = some ans) (kk : ∀ q M', cont q M' = some ans → Wt G X J B (pc + 3) ls (rf G.1 q :: st) M' (u + 1) (w + n)) : Wt G X J B pc ls st M u w := by
  have K := kk _ _ h
  obtain ⟨p, l, e, R, s, m, args, below, meth, c, Q⟩ := X
  intro F H locs la hR hS hls
  have K := K F
  obtain ⟨hx, hb, hml, hown, hts, hKo, hn0, ⟨-, -, hrc, hrs⟩, -⟩ := F
  obtain ⟨q, hq, h1, h2, h3⟩ := hl
  obtain ⟨hci, hin, hty, hnm, hN, hdc, hok⟩ := clsOK ci q hq
  have hKn := hKo.1.1 ci q hq
  have hqn : q.2.2 = n := hN.trans hn
  refine W.newcK hx hb hown (hts _ h1) (hts _ h2) (hts _ h3) rfl hc (by omega) (by rw [hqn]; omega) hKn.2.1 rfl fun H1 kC hkC e1 z1 o1 => ?_
  have hr := hR.push ci n z1 o1 ⟨fun _ => ?_, fun ty ht => ?_⟩
  · have K := K H1 locs la hr ⟨by rw [z1]; have := hS.1; omega, fun x g1 g2 => (o1 x (Nat.lt_of_lt_of_le g1 hS.1)).trans (hS.2.1 x g1 g2), hS.2.2⟩ hls
    have e0 : rf G.1 (some (mT M)) = .ref H.size := by rw [hR.1]; rfl
    rw [e0] at K
    rw [hqn]
    exact K
  · have hk0 : (mK (nw M ci n) (mT M)).1 = ci := by simp [mK, nw]
    rw [hk0]
    have hb1 := u_born (tyC ci) hts hin hKn hkC e1 hty
    rw [hR.1, hN] at hb1
    exact hb1.to (fun k hk => (vOf_new (hok k (by rw [hN]; exact hk)) k).symm)
  · have hk0 : (mK (nw M ci n) (mT M)).1 = ci := by simp [mK, nw]
    rw [hk0] at ht
    exact absurd ht (by unfold kT; split <;> first | omega | (intro z; cases z))
theorem aV_new {G : GG} {M : Mm} {kd n : Nat} {ty : FieldType} (hk : kT kd = some ty) : (fun j => aV G.1 kd (nw M kd n) (mT M) j) = fun _ => defaultValue ty := by
  funext j
  unfold kT at hk
  split at hk <;> first | (cases hk; simp [aV, nw, mI, mL, mR, mT, defaultValue, rf]) | cases hk
theorem Rel.pushA {G : GG} {M : Mm} {H H' : Heap} (h : Rel G M H) {kd n : Nat} {ty : FieldType} (hk : kT kd = some ty) (hz : H'.size = H.size + 1) (ho : ∀ q, q < H.size → H'[q]? = H[q]?) (hc : H'[H.size]? = some (arrV (G.2.2 kd) n (fun _ => defaultValue ty))) : Rel G (nw M kd n) H' := by
  have hk0 : mK (nw M kd n) (mT M) = (kd, n) := by simp [mK, nw]
  refine h.push kd n hz ho ⟨fun hlt => ?_, fun ty2 ht => ?_⟩
  · rw [hk0] at hlt
    exact absurd hk (by unfold kT; split <;> first | (exfalso; simp at hlt; done) | (intro z; cases z))
  · rw [hk0] at ht ⊢
    have e : ty = ty2 := Option.some.inj (hk.symm.trans ht)
    subst e
    rw [← h.1, hc, aV_new hk]
theorem wt_newarray {kd n' : Nat} {at' : ArrayType} {n : Int32} {ty : FieldType} {cont : Option Nat → Mm → Option ρ} (hc : decode J.2.1 pc = .ok (.newarray at', 2)) (hty : newarray.typeOf at' = ty) (hkd : kT kd = some ty) (harr : Cond.arrayClass ty ∈ GW) (hra : ∀ (U : State) (cA : ClassId), va_RA U cA ty → U.vm.findClass ("[" ++ ty.toString) = some cA) (hn : n.toNatClampNeg = n') (hby : n' * componentBytes ty ≤ 536870912) (hu : u + 1 ≤ B.2.1) (hw : w + n' ≤ B.2.2) (h : nwa M kd n cont = some ans) (kk : ∀ q M', cont q M' = some ans → Wt G X J B (pc + 2) ls (rf G.1 q :: st) M' (u + 1) (w + n')) : Wt G X J B pc ls (.int n :: st) M u w := by
  unfold nwa at h
  by_cases hneg : n < 0
  · rw [if_pos hneg] at h
    cases h
  · rw [if_neg hneg] at h
    have K := kk _ _ h
    obtain ⟨p, l, e, R, s, m, args, below, meth, c, Q⟩ := X
    intro F H locs la hR hS hls
    have K := K F
    obtain ⟨hx, hb, hml, hown, hts, hKo, hn0, ⟨-, -, hrc, hrs⟩, -⟩ := F
    subst hty
    refine va_newaK hx hb (hts _ harr) rfl hc rfl hneg hn hby (by omega) (by omega) rfl fun H1 cA e1 z1 o1 hAr hNm => ?_
    have hcA : G.2.2 kd = cA := Option.some.inj ((hra s _ (hKo.2.1 kd _ hkd).2).symm.trans hNm)
    rw [hn] at K
    have K := K H1 locs la (hR.pushA hkd z1 o1 (by rw [e1, hcA])) ⟨by rw [z1]; have := hS.1; omega, fun x g1 g2 => (o1 x (Nat.lt_of_lt_of_le g1 hS.1)).trans (hS.2.1 x g1 g2), hS.2.2⟩ hls
    have e0 : rf G.1 (some (mT M)) = .ref H.size := by rw [hR.1]; rfl
    rw [e0] at K
    exact K
theorem wt_anewarray {kd n' idx : Nat} {C : String} {n : Int32} {cont : Option Nat → Mm → Option ρ} (hc : decode J.2.1 pc = .ok (.anewarray idx, 3)) (hkd : kT kd = some (.object C)) (hcl : Cond.classLink J.1.cls idx C ∈ GW) (hn : n.toNatClampNeg = n') (hby : n' * 4 ≤ 536870912) (hu : u + 1 ≤ B.2.1) (hw : w + n' ≤ B.2.2) (h : nwa M kd n cont = some ans) (kk : ∀ q M', cont q M' = some ans → Wt G X J B (pc + 3) ls (rf G.1 q :: st) M' (u + 1) (w + n')) : Wt G X J B pc ls (.int n :: st) M u w := by
  unfold nwa at h
  by_cases hneg : n < 0
  · rw [if_pos hneg] at h
    cases h
  · rw [if_neg hneg] at h
    have K := kk _ _ h
    obtain ⟨p, l, e, R, s, m, args, below, meth, c, Q⟩ := X
    intro F H locs la hR hS hls
    have K := K F
    obtain ⟨hx, hb, hml, hown, hts, hKo, hn0, ⟨-, -, hrc, hrs⟩, -⟩ := F
    subst hn
    refine W.anew hx hb hown (hts _ hcl) (va_AO.use (hKo.2.2.2.1.1 kd C hkd)) rfl hc rfl hneg hby (by omega) (by omega) fun cA kA comp f1 f2 f3 f4 => ?_
    obtain ⟨kA2, comp2, -, -, -, g4⟩ := (hKo.2.1 kd _ hkd).2
    have hcA : G.2.2 kd = cA := Option.some.inj (g4.symm.trans f1)
    generalize hH1 : H.push ({ cls := cA, slots := Array.replicate n.toNatClampNeg .null, vm := .none } : Cell) = H1
    have z1 : H1.size = H.size + 1 := by rw [← hH1, Array.size_push]
    have e1 : H1[H.size]? = some (arrV cA n.toNatClampNeg (fun _ => .null)) := by rw [← hH1, Array.getElem?_push_size, ← arrV_new]
    have o1 : ∀ q : Nat, q < H.size → H1[q]? = H[q]? := fun q hq => by rw [← hH1, Array.getElem?_push, if_neg (Nat.ne_of_lt hq)]
    have K := K H1 locs la (hR.pushA hkd z1 o1 (by rw [e1, hcA]; rfl)) ⟨by rw [z1]; have := hS.1; omega, fun x g1 g2 => (o1 x (Nat.lt_of_lt_of_le g1 hS.1)).trans (hS.2.1 x g1 g2), hS.2.2⟩ hls
    have e0 : rf G.1 (some (mT M)) = .ref H.size := by rw [hR.1]; rfl
    rw [e0] at K
    exact K
end WtN
