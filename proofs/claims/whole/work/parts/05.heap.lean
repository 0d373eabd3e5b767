/-! fields, arrays, new cells over the abstract memory -/
def okT (ty : FieldType) : Bool := match ty with
  | .float => false
  | .double => false
  | _ => true
def clsP (ci : Nat) (q : vw_C) : Prop := (∀ w ∈ u_ws q.1 q.2.1 q.2.2, w ∈ GW) ∧ (∀ k, k < q.2.2 → parseFieldDescriptor (q.2.1 k).2.2.1 = some (tyC ci k)) ∧ (∀ a, a < q.2.2 → ∀ b, b < q.2.2 → a ≠ b → (q.2.1 a).2.1 ≠ (q.2.1 b).2.1) ∧ q.2.2 = nC ci ∧ (∀ k, k < q.2.2 → (q.2.1 k).1 = q.1) ∧ ∀ k, k < q.2.2 → okT (tyC ci k) = true
theorem clsOK : ∀ (ci : Nat) (q : vw_C), vwCl[ci]? = some q → ci < 13 ∧ clsP ci q
  | 0, q, h => by cases h; exact ⟨by decide, gwX0, tyX0_ok, nmX0, rfl, by decide +kernel, by decide +kernel⟩
  | 1, q, h => by cases h; exact ⟨by decide, gwX1, tyX1_ok, nmX1, rfl, by decide +kernel, by decide +kernel⟩
  | 2, q, h => by cases h; exact ⟨by decide, gwX2, tyX2_ok, nmX2, rfl, by decide +kernel, by decide +kernel⟩
  | 3, q, h => by cases h; exact ⟨by decide, gwX3, tyX3_ok, nmX3, rfl, by decide +kernel, by decide +kernel⟩
  | 4, q, h => by cases h; exact ⟨by decide, gwX4, tyX4_ok, nmX4, rfl, by decide +kernel, by decide +kernel⟩
  | 5, q, h => by cases h; exact ⟨by decide, gwX5, tyX5_ok, nmX5, rfl, by decide +kernel, by decide +kernel⟩
  | 6, q, h => by cases h; exact ⟨by decide, gwX6, tyX6_ok, nmX6, rfl, by decide +kernel, by decide +kernel⟩
  | 7, q, h => by cases h; exact ⟨by decide, gwX7, tyX7_ok, nmX7, rfl, by decide +kernel, by decide +kernel⟩
  | 8, q, h => by cases h; exact ⟨by decide, gwX8, tyX8_ok, nmX8, rfl, by decide +kernel, by decide +kernel⟩
  | 9, q, h => by cases h; exact ⟨by decide, gwX9, tyX9_ok, nmX9, rfl, by decide +kernel, by decide +kernel⟩
  | 10, q, h => by cases h; exact ⟨by decide, gwX10, tyX10_ok, nmX10, rfl, by decide +kernel, by decide +kernel⟩
  | 11, q, h => by cases h; exact ⟨by decide, gwX11, tyX11_ok, nmX11, rfl, by decide +kernel, by decide +kernel⟩
  | 12, q, h => by cases h; exact ⟨by decide, gwX12, tyX12_ok, nmX12, rfl, by decide +kernel, by decide +kernel⟩
  | n + 13, q, h => by simp [vwCl] at h
/-- a field by its link: in the class's own code, or by a nest mate -/
def FLk (own : String) (idx ci k : Nat) : Prop := ∃ q : vw_C, vwCl[ci]? = some q ∧ k < q.2.2 ∧ (Cond.fieldLink own idx (q.2.1 k).1 (q.2.1 k).2.1 (q.2.1 k).2.2.1 ∈ GW ∨ ∃ host, Cond.fieldLinkNest own idx (q.2.1 k).1 (q.2.1 k).2.1 (q.2.1 k).2.2.1 host ∈ NW ∧ isNest (Cond.fieldLinkNest own idx (q.2.1 k).1 (q.2.1 k).2.1 (q.2.1 k).2.2.1 host) = true)
/-- a final field, by its own class -/
def FFk (own : String) (idx ci k : Nat) : Prop := ∃ q : vw_C, vwCl[ci]? = some q ∧ k < q.2.2 ∧ q.1 = own ∧ (q.2.1 k).2.2.2 = true ∧ Cond.fieldLink own idx (q.2.1 k).1 (q.2.1 k).2.1 (q.2.1 k).2.2.1 ∈ GW
def fnC (ci k : Nat) : Bool := match vwCl[ci]? with
  | some q => (q.2.1 k).2.2.2
  | none => true
section WtH
variable {G : GG} {X : CX} {J : JD} {B : BD} {pc : Nat} {ls : LV} {st : List Value} {M : Mm} {u w : Nat}
theorem wt_getG {idx ci k a : Nat} (hf : FLk J.1.cls idx ci k) (hc : decode J.2.1 pc = .ok (.getfield idx, 3)) (hk : (mK M a).1 = ci) (kk : Wt G X J B (pc + 3) ls (vOf G.1 (tyC ci k) M a k :: st) M u w) : Wt G X J B pc ls (.ref (G.1 + a) :: st) M u w := by
  obtain ⟨p, l, e, R, s, m, args, below, meth, c, Q⟩ := X
  intro F H locs la hR hS h
  have K := kk F H locs la hR hS h
  obtain ⟨hx, hb, hml, hown, hts, hKo, -⟩ := F
  obtain ⟨q, hq, hkN, hlk⟩ := hf
  obtain ⟨hci, hin, hty, hnm, hN, -⟩ := clsOK ci q hq
  obtain ⟨cell, q1, q2, q3, q4⟩ := hR.obj hk hci
  obtain ⟨hSl, hfc, kC, hkC, hkind⟩ := hKo.1.1 ci q hq
  obtain ⟨cf, kf, fi, f, hi, hsl⟩ := hSl k hkN
  have hst := (u_facts hfc hkC (u_lays hts hin hkN) hi).1
  have hv : cell.slots[f.slot]? = some (vOf G.1 (tyC ci k) M a k) := by rw [hsl, q4 k (by rw [← hN]; exact hkN)]
  rcases hlk with hl | ⟨host, hl, -⟩
  · exact W.getf hx hb hown (hts _ hl) hi hst q1 (by rw [q3]; exact fun h => by cases h) hv rfl rfl hc K
  · exact va_Wgetf hx hb hown (va_Nw.use rfl (hKo.2.2.1 _ hl)) hi hst q1 (by rw [q3]; exact fun h => by cases h) hv rfl rfl hc K
/-- a field is put: M' is the memory behind it -/
theorem wt_putG {idx ci k a : Nat} {v : Value} {M' : Mm} (hf : FLk J.1.cls idx ci k) (hfin : fnC ci k = false) (hc : decode J.2.1 pc = .ok (.putfield idx, 3)) (hk : (mK M a).1 = ci)
    (hn : narrow (tyC ci k) v = v) (hfit : fits (tyC ci k) v = true) (hK : mK M' = mK M) (hT : mT M' = mT M) (ho : ∀ b, b ≠ a → mI M' b = mI M b ∧ mL M' b = mL M b ∧ mR M' b = mR M b)
    (hv : ∀ j, vOf G.1 (tyC ci j) M' a j = if j = k then v else vOf G.1 (tyC ci j) M a j) (kk : Wt G X J B (pc + 3) ls st M' u w) : Wt G X J B pc ls (v :: .ref (G.1 + a) :: st) M u w := by
  obtain ⟨p, l, e, R, s, m, args, below, meth, c, Q⟩ := X
  intro F H locs la hR hS h
  have K := kk F
  obtain ⟨hx, hb, hml, hown, hts, hKo, hn0, -⟩ := F
  obtain ⟨q, hq, hkN, hlk⟩ := hf
  obtain ⟨hci, hin, hty, hnm, hN, -⟩ := clsOK ci q hq
  have hap := va_apart (own := J.1.cls) hts hin (tyC ci) hty hnm hKo.1 hq
  obtain ⟨cell, q1, q2, q3, q4⟩ := hR.obj hk hci
  obtain ⟨hSl, hfc, kC, hkC, hkind⟩ := hKo.1.1 ci q hq
  obtain ⟨cf, kf, fi, f, hi, hsl⟩ := hSl k hkN
  have hlay := hts _ (hin _ (u_in_lay hkN))
  have hfin' : (q.2.1 k).2.2.2 = false := by unfold fnC at hfin; rw [hq] at hfin; exact hfin
  unfold u_lay at hlay
  rw [if_neg (by rw [hfin']; decide)] at hlay
  have hst := (u_facts hfc hkC (u_lays hts hin hkN) hi).1
  have h6 := u_store hfc hkC hkind hlay hi (hty k hkN) hn hfit
  have haT : a < mT M := hR.lt (by omega)
  rw [hN] at hap hkN
  have key : ∀ H' : Heap, H'[G.1 + a]? = some (cell.setSlot f.slot v) → H'.size = H.size → (∀ q, q ≠ G.1 + a → H'[q]? = H[q]?) → Rel G M' H' := by
    intro H' e1 e2 e3
    rw [hsl] at e1
    refine hR.put haT hK hT ho e2 e3 ⟨fun _ => ?_, fun ty ht => ?_⟩
    · rw [hK, hk]
      refine t_OB.to (V := updV (fun j => vOf G.1 (tyC ci j) M a j) k v) ⟨_, e1, q2, q3, t_set q4 hap hkN v⟩ (fun j _ => ?_)
      rw [hv j]
      rfl
    · rw [hK, hk] at ht
      exact absurd ht (by unfold kT; split <;> first | omega | (intro z; cases z))
  rcases hlk with hl | ⟨host, hl, -⟩
  · refine W.putK hx hb (f := f) ⟨hown, hts _ hl, ⟨_, _, _, hi⟩, hst⟩ (by rw [q2]; exact h6) q1 q3 (by rw [hsl]; exact k2_hasslot (q4 k hkN)) rfl rfl hc fun H' e1 e2 e3 => ?_
    exact K H' _ la (key H' e1 e2 e3) (hS.put e2 e3 (Nat.le_add_right _ _)) h
  · refine va_WputK hx hb (f := f) hown (va_Nw.use rfl (hKo.2.2.1 _ hl)) hi hst (by rw [q2]; exact h6) q1 q3 (by rw [hsl]; exact k2_hasslot (q4 k hkN)) rfl rfl hc fun H' e1 e2 e3 => ?_
    exact K H' _ la (key H' e1 e2 e3) (hS.put e2 e3 (Nat.le_add_right _ _)) h
theorem wt_putFG {idx ci k a : Nat} {v : Value} {M' : Mm} (hf : FFk J.1.cls idx ci k) (hinit : J.1.name = "<init>") (hc : decode J.2.1 pc = .ok (.putfield idx, 3)) (hk : (mK M a).1 = ci)
    (hn : narrow (tyC ci k) v = v) (hfit : fits (tyC ci k) v = true) (hK : mK M' = mK M) (hT : mT M' = mT M) (ho : ∀ b, b ≠ a → mI M' b = mI M b ∧ mL M' b = mL M b ∧ mR M' b = mR M b)
    (hv : ∀ j, vOf G.1 (tyC ci j) M' a j = if j = k then v else vOf G.1 (tyC ci j) M a j) (kk : Wt G X J B (pc + 3) ls st M' u w) : Wt G X J B pc ls (v :: .ref (G.1 + a) :: st) M u w := by
  obtain ⟨p, l, e, R, s, m, args, below, meth, c, Q⟩ := X
  intro F H locs la hR hS h
  have K := kk F
  obtain ⟨hx, hb, hml, hown, hts, hKo, hn0, -, hname⟩ := F
  obtain ⟨q, hq, hkN, hqo, hfin', hl⟩ := hf
  obtain ⟨hci, hin, hty, hnm, hN, hdc, -⟩ := clsOK ci q hq
  have hap := va_apart (own := J.1.cls) hts hin (tyC ci) hty hnm hKo.1 hq
  obtain ⟨cell, q1, q2, q3, q4⟩ := hR.obj hk hci
  obtain ⟨hSl, hfc, kC, hkC, hkind⟩ := hKo.1.1 ci q hq
  obtain ⟨cf, kf, fi, f, hi, hsl⟩ := hSl k hkN
  have hlay := hts _ (hin _ (u_in_lay hkN))
  unfold u_lay at hlay
  rw [if_pos hfin'] at hlay
  have hst := (u_facts hfc hkC (u_lays hts hin hkN) hi).1
  have hcf : m.cls = cf := by
    obtain ⟨_, _, c', _, _, _, -, -, hf', -, -, -, hown2, -⟩ := Cond.laysFinal_spec hlay
    have e1 : c' = cf := by have := hi.symm.trans hf'; simp at this; exact this.1.symm
    rw [hdc k hkN, hqo] at hown2
    rw [← e1]; exact Option.some.inj (hown.symm.trans hown2)
  have h6 := u_fits hfc hkC hkind (Or.inr hlay) hi (hty k hkN) hn hfit
  have haT : a < mT M := hR.lt (by omega)
  rw [hN] at hap hkN
  have key : ∀ H' : Heap, H'[G.1 + a]? = some (cell.setSlot f.slot v) → H'.size = H.size → (∀ q, q ≠ G.1 + a → H'[q]? = H[q]?) → Rel G M' H' := by
    intro H' e1 e2 e3
    rw [hsl] at e1
    refine hR.put haT hK hT ho e2 e3 ⟨fun _ => ?_, fun ty ht => ?_⟩
    · rw [hK, hk]
      refine t_OB.to (V := updV (fun j => vOf G.1 (tyC ci j) M a j) k v) ⟨_, e1, q2, q3, t_set q4 hap hkN v⟩ (fun j _ => ?_)
      rw [hv j]
      rfl
    · rw [hK, hk] at ht
      exact absurd ht (by unfold kT; split <;> first | omega | (intro z; cases z))
  refine W.putFinK hx hb hown (hts _ hl) hi hst hcf (hname hinit) (by rw [q2]; exact h6) q1 q3 (by rw [hsl]; exact k2_hasslot (q4 k hkN)) rfl rfl hc fun H' e1 e2 e3 => ?_
  exact K H' _ la (key H' e1 e2 e3) (hS.put e2 e3 (Nat.le_add_right _ _)) h
end WtH
