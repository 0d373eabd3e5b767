/-! how the facts of the tables go from state to state; contracts; calls; returns -/
theorem va_AOA.moved {t : FieldType} {u U : State} (hvm : u.vm.Alike U.vm) (h : va_AOA t u) : va_AOA t U := by
  obtain ⟨comp, c, k, h1, h2, h3, h4, h5⟩ := arrayOverA_spec h
  obtain ⟨k', hk', he⟩ := hvm.2.2 _ _ h3
  have hi : (U.vm.classes.findIdx? fun (x : Class) => match x.kind with | .array component _ => component == comp | _ => false) = some c := by
    have hb : U.vm.bare = u.vm.bare := by first | exact hvm.bare_eq | exact hvm.bare_eq.symm
    have e1 := va_idx_bare U.vm comp
    have e2 := va_idx_bare u.vm comp
    rw [hb] at e1
    exact e1.symm.trans (e2.trans h2)
  have hkind : k'.kind = .array comp (.array t) := by rw [he]; exact h4
  have f1 : U.vm.findClass (FieldType.array t).toString = some comp := by rw [hvm.findClass]; exact h1
  have f2 : U.vm.findClass ("[" ++ (FieldType.array t).toString) = some c := by rw [hvm.findClass]; exact h5
  unfold va_AOA Cond.before Cond.holds
  simp only [Cond.value]
  rw [f1, Option.bind_some]
  refine (congrArg (fun o : Option Nat => (o.bind (fun c => (U.vm.classes[c]?).map fun (k : Class) => match k.kind with | .array _ ty => decide (ty = FieldType.array t) && decide (U.vm.findClass ("[" ++ (FieldType.array t).toString) = some c) | _ => false) == some true)) hi).trans ?_
  simp [hk', hkind, f2]
theorem nw_nest {w : Cond} (h : w ∈ NW) : isNest w = true := (List.mem_filter.mp h).2
theorem Kok.warm {G : GG} {s U : State} (h : Kok G s) (hW : s.WarmedH U.vm) (hk : ∀ q, q < s.heap.size → ¬ G.1 ≤ q → U.heap[q]? = s.heap[q]?) : Kok G U := by
  obtain ⟨h1, h2, h3, ⟨h4, h5, h6⟩, h7, h8, h9, h10⟩ := h
  refine ⟨va_K.moved hW.alike h1, fun kd ty ht => ⟨arrOfT_moved hW.alike (h2 kd ty ht).1, va_RA.moved hW.alike (h2 kd ty ht).2⟩, fun w hw => ?_, ⟨fun kd C hC => va_AO.moved hW.alike (h4 kd C hC), va_AOA.moved hW.alike h5, va_AOA.moved hW.alike h6⟩, vk_R.warm hW h7, (vk_S.moved hW.alike h8).kept hk, (va_Z.moved hW.alike h9).kept hk, (va_Zq.moved hW.alike h10).kept hk⟩
  have hn := nw_nest hw
  have hh := h3 w hw
  cases w with
  | fieldLinkNest a i b n d x => exact va_Nw.warmF hW hh
  | methodLinkNest a i x y => exact va_Nw.warmM hW hh
  | _ => cases hn
theorem Kok.same {G : GG} {s U : State} (h : Kok G s) (hv : U.vm = s.vm) (hh : U.heap = s.heap) : Kok G U := by
  have al : s.vm.Alike U.vm := by rw [hv]; exact Vm.Alike.refl _
  obtain ⟨h1, h2, h3, ⟨h4, h5, h6⟩, h7, h8, h9, h10⟩ := h
  refine ⟨va_K.moved al h1, fun kd ty ht => ⟨arrOfT_moved al (h2 kd ty ht).1, va_RA.moved al (h2 kd ty ht).2⟩, fun w hw => ?_, ⟨fun kd C hC => va_AO.moved al (h4 kd C hC), va_AOA.moved al h5, va_AOA.moved al h6⟩, vk_R.same hv h7, (vk_S.moved al h8).kept (fun a _ _ => by rw [hh]), (va_Z.moved al h9).kept (fun a _ _ => by rw [hh]), (va_Zq.moved al h10).kept (fun a _ _ => by rw [hh])⟩
  have hn := nw_nest hw
  have h0 := h3 w hw
  cases w with
  | fieldLinkNest a i b n d x => exact va_Nw.same rfl hv.symm h0
  | methodLinkNest a i x y => exact va_Nw.same rfl hv.symm h0
  | _ => cases hn
theorem gw_good : ∀ w ∈ GW, w ∈ GW ∧ ((w.onTables && w.keeps) = true ∨ ∃ ty, w = .arrayClass ty) := fun w h => ⟨h, good_of_word (List.mem_filter.mp h).2⟩
/-- a contract: from memory M with these arguments the method returns rv, in memory M' -/
def PcT (G : GG) (av : List Value) (M : Mm) : Array Value → State → Prop := fun a U => a = av.toArray ∧ Rel G M U.heap ∧ Kok G U
def QcT (G : GG) (rv : Option Value) (M' : Mm) : Array Value → State → Outcome → State → Prop := fun _ st o t => o = .returned rv ∧ Rel G M' t.heap ∧ va_F (fun q => G.1 ≤ q) st t
def rmT (B : BD) : Room := { frames := B.1, cells := B.2.1, slots := B.2.2, locals := 64 * B.1 }
def wsT (J : JD) : List Cond := Cond.code J.1 J.2.1 J.2.2.1 J.2.2.2 :: GW
def Ct (l : Launch) (G : GG) (J : JD) (B : BD) (av : List Value) (M : Mm) (rv : Option Value) (M' : Mm) : Prop := Met l J.1 (wsT J) (rmT B) (PcT G av M) (QcT G rv M') B.2.1 B.2.2 (fun q => G.1 ≤ q)
theorem pcT_blind (G : GG) (av : List Value) (M : Mm) : FrameBlind (PcT G av M) := fun _ _ _ _ h => ⟨h.1, h.2.1, h.2.2.same rfl rfl⟩
/-- the end of a method: with the answer r and memory M' -/
def EndI (G : GG) (X : CX) (J : JD) (B : BD) (r : Int32 × Mm) : Prop := ∀ (pc : Nat) (ls : LV) (u w : Nat), decode J.2.1 pc = .ok (.ireturn, 1) → u ≤ B.2.1 → w ≤ B.2.2 → Wt G X J B pc ls [.int r.1] r.2 u w
def EndL (G : GG) (X : CX) (J : JD) (B : BD) (r : Int64 × Mm) : Prop := ∀ (pc : Nat) (ls : LV) (u w : Nat), decode J.2.1 pc = .ok (.lreturn, 1) → u ≤ B.2.1 → w ≤ B.2.2 → Wt G X J B pc ls [.long r.1] r.2 u w
def EndV (G : GG) (X : CX) (J : JD) (B : BD) (r : Mm) : Prop := ∀ (pc : Nat) (ls : LV) (u w : Nat), decode J.2.1 pc = .ok (.return_, 1) → u ≤ B.2.1 → w ≤ B.2.2 → Wt G X J B pc ls [] r u w
section Mk
variable {l : Launch} {G : GG} {J : JD} {B : BD} {av : List Value} {M : Mm}
theorem ct_start {rv : Option Value} {M' : Mm} (hy : plainName J.1.cls = true) (hlen : (lg_sl av).length ≤ J.2.2.1)
    (body : ∀ (X : CX), (∀ (pc : Nat) (ls : LV) (st : List Value) (u w : Nat), u ≤ B.2.1 → w ≤ B.2.2 → (∀ (p : Program) (e : Env) (R : Room) (s : State) (m : MethodId) (args : Array Value) (below : List Frame) (meth : Method) (c : Code) (H : Heap) (locs : List Loc) (la : Array Slot), FX G (p, l, e, R, s, m, args, below, meth, c, MQ below (QcT G rv M') args s B.2.1 B.2.2 (fun q => G.1 ≤ q)) J B → meth.sig.returnType = J.2.2.2 → meth.locks = false → Rel G M' H → va_S (fun q => G.1 ≤ q) s.heap H locs → W p l e R s m args below meth c H locs B.2.1 B.2.2 (MQ below (QcT G rv M') args s B.2.1 B.2.2 (fun q => G.1 ≤ q)) (F0 m pc la st)) → Wt G X J B pc ls st M' u w) → Wt G X J B 0 (lv_args 0 av) [] M 0 0) : Ct l G J B av M rv M' := by
  refine Met.ofW (cc := J.2.1) (maxL := J.2.2.1) (ret := J.2.2.2) hy rfl ?_
  intro p e s m args below meth c s₁ Bd hml hv
  obtain ⟨rfl, hR, hKo⟩ := hv
  have hts := atoms_spec (ws := wsT J) Bd.pre
  have hS : va_S (fun q => G.1 ≤ q) s.heap s.heap [] := va_S.rf
  have hent := lv_entry av (n := J.2.2.1) hlen
  rw [lg_entry_eq]
  have F : FX G (p, l, e, (headSpec (wsT J) (rmT B)).room, s, m, av.toArray, below, meth, c, MQ below (QcT G rv M') av.toArray s B.2.1 B.2.2 (fun q => G.1 ≤ q)) J B := ⟨Bd.exec, Bd.bytes, hml, findClass_of_methodNamed Bd.named, fun w hw => hts w (List.mem_cons_of_mem _ hw), hKo, by rw [hR.1]; exact Nat.le_add_right _ _, ⟨Nat.le_refl _, Nat.le_refl _, Nat.le_refl _, Nat.le_refl _⟩, fun h => ((name_of_methodNamed Bd.named Bd.method).1).trans h⟩
  refine body (p, l, e, (headSpec (wsT J) (rmT B)).room, s, m, av.toArray, below, meth, c, MQ below (QcT G rv M') av.toArray s B.2.1 B.2.2 (fun q => G.1 ≤ q)) ?_ F s.heap [] _ hR hS hent
  intro pc ls st u w hu hw k F2 H locs la hR2 hS2 hl2
  exact W.widen hu hw (k p e _ s m _ below meth c H locs la F2 Bd.returns Bd.notSynchronized hR2 hS2)
theorem qcT_of {rv : Option Value} {M' : Mm} {s : State} {H : Heap} {locs : List Loc} {args : Array Value} (hR : Rel G M' H) (hS : va_S (fun q => G.1 ≤ q) s.heap H locs) : ∀ t : State, t.heap = H → s.WarmedH t.vm → QcT G rv M' args s (.returned rv) t := fun t ht _ => ⟨rfl, by rw [ht]; exact hR, hS.F ht⟩
theorem ct_I {r : Int32 × Mm} (hy : plainName J.1.cls = true) (hlen : (lg_sl av).length ≤ J.2.2.1) (hr : J.2.2.2 = some .int) (body : ∀ X : CX, EndI G X J B r → Wt G X J B 0 (lv_args 0 av) [] M 0 0) : Ct l G J B av M (some (.int r.1)) r.2 :=
  ct_start hy hlen fun X hE => body X fun pc ls u w hd hu hw => hE pc ls _ u w hu hw fun p e R s m args below meth c H locs la F hret hlk hR hS => W.iret F.1 F.2.1 (hret.trans hr) (qcT_of hR hS) hS.2.2 hd hlk
theorem ct_Z {r : Int32 × Mm} (hy : plainName J.1.cls = true) (hlen : (lg_sl av).length ≤ J.2.2.1) (hr : J.2.2.2 = some .boolean) (hz : r.1 = 0 ∨ r.1 = 1) (body : ∀ X : CX, EndI G X J B r → Wt G X J B 0 (lv_args 0 av) [] M 0 0) : Ct l G J B av M (some (.int r.1)) r.2 :=
  ct_start hy hlen fun X hE => body X fun pc ls u w hd hu hw => hE pc ls _ u w hu hw fun p e R s m args below meth c H locs la F hret hlk hR hS => W.zret F.1 F.2.1 (hret.trans hr) (by rcases hz with e | e <;> rw [e] <;> rfl) (qcT_of hR hS) hS.2.2 hd hlk
theorem ct_L {r : Int64 × Mm} (hy : plainName J.1.cls = true) (hlen : (lg_sl av).length ≤ J.2.2.1) (hr : J.2.2.2 = some .long) (body : ∀ X : CX, EndL G X J B r → Wt G X J B 0 (lv_args 0 av) [] M 0 0) : Ct l G J B av M (some (.long r.1)) r.2 :=
  ct_start hy hlen fun X hE => body X fun pc ls u w hd hu hw => hE pc ls _ u w hu hw fun p e R s m args below meth c H locs la F hret hlk hR hS => W.lret F.1 F.2.1 (hret.trans hr) (qcT_of hR hS) hS.2.2 hd hlk
theorem ct_V {r : Mm} (hy : plainName J.1.cls = true) (hlen : (lg_sl av).length ≤ J.2.2.1) (hr : J.2.2.2 = none) (body : ∀ X : CX, EndV G X J B r → Wt G X J B 0 (lv_args 0 av) [] M 0 0) : Ct l G J B av M none r :=
  ct_start hy hlen fun X hE => body X fun pc ls u w hd hu hw => hE pc ls _ u w hu hw fun p e R s m args below meth c H locs la F hret hlk hR hS => W.vret F.1 F.2.1 (hret.trans hr) (qcT_of hR hS) hS.2.2 hd hlk
end Mk
