/-! calls -/
def ck {ρ : Type} (M : Mm) (r : Option Nat) (ci : Nat) (x : Option ρ) : Option ρ := match r with
  | none => none
  | some a => if (mK M a).1 = ci then x else none
theorem ck_spec {ρ : Type} {M : Mm} {r : Option Nat} {ci : Nat} {x : Option ρ} {ans : ρ} (h : ck M r ci x = some ans) : (∃ a, r = some a ∧ (mK M a).1 = ci) ∧ x = some ans := by
  unfold ck at h
  cases r with
  | none => cases h
  | some a =>
    dsimp only at h
    by_cases hk : (mK M a).1 = ci
    · rw [if_pos hk] at h
      exact ⟨⟨a, rfl, hk⟩, h⟩
    · rw [if_neg hk] at h
      cases h
theorem bd_spec {α ρ : Type} {x : Option (α × Mm)} {c : α → Mm → Option ρ} {ans : ρ} (h : bd x c = some ans) : ∃ v M, x = some (v, M) ∧ c v M = some ans := by
  cases x with
  | none => cases h
  | some y => exact ⟨y.1, y.2, rfl, h⟩
theorem bv_spec {ρ : Type} {x : Option Mm} {c : Mm → Option ρ} {ans : ρ} (h : bv x c = some ans) : ∃ M, x = some M ∧ c M = some ans := by
  cases x with
  | none => cases h
  | some y => exact ⟨y, rfl, h⟩
theorem dvI_spec {ρ : Type} {y : Int32} {c : Option ρ} {ans : ρ} (h : dvI y c = some ans) : ¬ y = 0 ∧ c = some ans := by
  unfold dvI at h
  by_cases e : y = 0
  · rw [if_pos e] at h; cases h
  · rw [if_neg e] at h; exact ⟨e, h⟩
theorem dvL_spec {ρ : Type} {y : Int64} {c : Option ρ} {ans : ρ} (h : dvL y c = some ans) : ¬ y = 0 ∧ c = some ans := by
  unfold dvL at h
  by_cases e : y = 0
  · rw [if_pos e] at h; cases h
  · rw [if_neg e] at h; exact ⟨e, h⟩
theorem rtZ_spec {v : Int32} {M : Mm} {ans : Int32 × Mm} (h : rtZ v M = some ans) : (v = 0 ∨ v = 1) ∧ (v, M) = ans := by
  unfold rtZ at h
  by_cases e : v = 0 ∨ v = 1
  · rw [if_pos e] at h; exact ⟨e, Option.some.inj h⟩
  · rw [if_neg e] at h; cases h
/-- what the tables say of a method that is called: common part, instance, static, constructor -/
def MC (J : JD) (n : Nat) : Prop := Cond.code J.1 J.2.1 J.2.2.1 J.2.2.2 ∈ GW ∧ Cond.initialized J.1.cls ∈ GW ∧ (J.1.cls ≠ "java/lang/invoke/MethodHandle" ∧ J.1.cls ≠ "java/lang/invoke/VarHandle") ∧ (parseMethodDescriptor J.1.desc).map (fun d => d.parameters.length) = some n ∧ J.2.2.1 ≤ 45 ∧ plainName J.1.cls = true
def MV (J : JD) (ci n : Nat) : Prop := MC J n ∧ (∃ q, vwCl[ci]? = some q ∧ q.1 = J.1.cls) ∧ Cond.instanceMethod J.1 ∈ GW ∧ Cond.selects J.1.cls J.1 J.1 ∈ GW
def MS (J : JD) (n : Nat) : Prop := MC J n ∧ Cond.static J.1 ∈ GW
def MI (J : JD) (n : Nat) : Prop := MC J n ∧ J.1.name = "<init>" ∧ J.2.2.2 = none ∧ Cond.instanceMethod J.1 ∈ GW
def MLk (own : String) (idx : Nat) (y : MethodName) : Prop := Cond.methodLink own idx y ∈ GW ∨ ∃ host, Cond.methodLinkNest own idx y host ∈ NW
section Cl
variable {p : Program} {l : Launch} {e : Env} {R : Room} {s : State} {m : MethodId} {args : Array Value} {below : List Frame} {meth : Method} {c : Code} {H : Heap} {locs : List Loc} {Q : State → Prop} {G : GG}
theorem run_W {u w mc ms pc : Nat} {la : Array Slot} {st0 rest : List Value} {rv : Option Value} {M' : Mm} {a : Array Value} (hr : va_Run p l e R s m args below meth c H locs u w mc ms (F0 m pc la st0) rest (QcT G rv M' a) (fun q => G.1 ≤ q)) (hS : va_S (fun q => G.1 ≤ q) s.heap H locs)
    (K : ∀ (H1 : Heap) (locs1 : List Loc), Rel G M' H1 → va_S (fun q => G.1 ≤ q) s.heap H1 locs1 → W p l e R s m args below meth c H1 locs1 (u + mc) (w + ms) Q (F0 m (pc + 3) la (rv.toList ++ rest))) : W p l e R s m args below meth c H locs u w Q (F0 m pc la st0) := by
  intro T hT X
  obtain ⟨v, st₀, t, T', L, h0, X', hL, e1, e2, ⟨hv, hRel, hz, hk⟩, st⟩ := hr T hT X
  cases hv
  rw [h0] at hz hk
  obtain ⟨t2, a1, b1⟩ := K T'.heap (locs ++ L) (by rw [e1]; exact hRel)
    ⟨Nat.le_trans hS.1 (by rw [e1]; exact hz), fun q h1 h2 => by rw [e1, hk q (Nat.lt_of_lt_of_le h1 hS.1) h2]; exact hS.2.1 q h1 h2, fun q hq => by
      rcases List.mem_append.mp hq with h | h
      · exact hS.2.2 q h
      · exact hL q h⟩ T' rfl X'
  exact ⟨t2, st t2 a1, b1⟩
theorem pre_S {J : JD} {B : BD} {av : List Value} {M : Mm} (hKo : Kok G s) (hR : Rel G M H) (hS : va_S (fun q => G.1 ≤ q) s.heap H locs) : PreS s H (PcT G av M) av := ⟨pcT_blind G av M, fun U hU hW => ⟨rfl, by rw [hU]; exact hR, hKo.warm hW (fun q h1 h2 => by rw [hU]; exact hS.2.1 q h1 h2)⟩⟩
theorem call_B {J' : JD} {B' : BD} {n : Nat} (hts : ∀ w ∈ GW, w.before args s = true) (hmc : MC J' n) (h1 : B'.1 + 1 ≤ R.frames) (h2 : 64 * (B'.1 + 1) ≤ R.locals) : ((rmT B').cells = B'.2.1 ∧ (rmT B').slots = B'.2.2 ∧ (rmT B').frames + 1 ≤ R.frames ∧ 8 + (J'.2.2.1 + 11) + (rmT B').locals ≤ R.locals ∧ (∀ w ∈ wsT J', ∀ (a' : Array Value) (U : State), s.WarmedH U.vm → w.before a' U = true) ∧ Cond.code J'.1 J'.2.1 J'.2.2.1 J'.2.2.2 ∈ wsT J') ∧ (Cond.code J'.1 J'.2.1 J'.2.2.1 J'.2.2.2).before args s = true ∧ (Cond.initialized J'.1.cls).before args s = true ∧ (∀ sig, parseMethodDescriptor J'.1.desc = some sig → n = sig.parameters.length) := by
  obtain ⟨hcode, hini, hno, hlen, hL, -⟩ := hmc
  refine ⟨⟨rfl, rfl, h1, ?_, pay_in hts (fun w hw => ?_), List.mem_cons_self⟩, hts _ hcode, hts _ hini, fun sig h => ?_⟩
  · show 8 + (J'.2.2.1 + 11) + 64 * B'.1 ≤ R.locals
    omega
  · rcases List.mem_cons.mp hw with e | e
    · rw [e]; exact gw_good _ hcode
    · exact gw_good _ e
  · rw [h] at hlen
    exact (Option.some.inj hlen).symm
end Cl
section WtC
variable {G : GG} {X : CX} {J J' : JD} {B B' : BD} {pc : Nat} {ls : LV} {st As : List Value} {M M' : Mm} {u w : Nat} {rv : Option Value} {idx ci n b : Nat}
theorem wt_callV (hc : decode J.2.1 pc = .ok (.invokevirtual idx, 3)) (hl : MLk J.1.cls idx J'.1) (hmv : MV J' ci n) (hM : ∀ l, Ct l G J' B' (.ref (G.1 + b) :: As) M rv M') (hk : (mK M b).1 = ci) (hn : As.length = n) (hB : B'.1 + 1 ≤ B.1) (hu : u + B'.2.1 ≤ B.2.1) (hw : w + B'.2.2 ≤ B.2.2) (hst : (st.map fun v => v.category).sum ≤ 8) {st0 : List Value} (hst0 : As.reverse ++ .ref (G.1 + b) :: st = st0)
    (kk : Wt G X J B (pc + 3) ls (rv.toList ++ st) M' (u + B'.2.1) (w + B'.2.2)) : Wt G X J B pc ls st0 M u w := by
  obtain ⟨p, l, e, R, s, m, args, below, meth, c, Q⟩ := X
  intro F H locs la hR hS hls
  have K := kk F
  obtain ⟨hx, hb, hml, hown, hts, hKo, hn0, ⟨hrf, hrl, hrc, hrs⟩, -⟩ := F
  obtain ⟨hmc, ⟨q, hq, hqc⟩, hin, hsel⟩ := hmv
  obtain ⟨⟨c1, c2, c3, c4, c5, c6⟩, c7, c8, c9⟩ := call_B (R := R) (B' := B') hts hmc (by omega) (by omega)
  obtain ⟨hci, -⟩ := clsOK ci q hq
  obtain ⟨cell, q1, q2, q3, -⟩ := hR.obj hk hci
  have hps := pre_S (J := J) (B := B) (av := .ref (G.1 + b) :: As) hKo hR hS
  have hp : PreV s H J'.1.cls (G.1 + b) (PcT G (.ref (G.1 + b) :: As) M) As := ⟨hps.1, ⟨cell, q1, by rw [q3]; rfl, by rw [q2, ← hqc]; exact (hKo.1.1 ci q hq).2.1⟩, hps.2⟩
  subst hst0
  rcases hl with hl | ⟨host, hl⟩
  · refine run_W (va_runV (Ts := GW) (nL := J.2.2.1) ⟨hx, hb, hml, hown, hts⟩ (hM l) ⟨⟨c1, c2, c3, c4, c5, c6, c7, c8, hmc.2.2.1, c9, hts _ hl⟩, hts _ hin, hts _ hsel⟩ hp rfl hn hls.1 rfl (lv_room hst) hc ⟨by omega, by omega⟩) hS (fun H1 locs1 hR1 hS1 => K H1 locs1 la hR1 hS1 hls)
  · refine run_W (va_runVN (Ts := GW) (nL := J.2.2.1) ⟨hx, hb, hml, hown, hts⟩ (hM l) ⟨⟨⟨c1, c2, c3, c4, c5, c6⟩, c7, c8, hmc.2.2.1, c9, va_Nw.use rfl (hKo.2.2.1 _ hl)⟩, hts _ hin, hts _ hsel⟩ hp rfl hn hls.1 rfl (lv_room hst) hc ⟨by omega, by omega⟩) hS (fun H1 locs1 hR1 hS1 => K H1 locs1 la hR1 hS1 hls)
theorem wt_callS (hc : decode J.2.1 pc = .ok (.invokestatic idx, 3)) (hl : MLk J.1.cls idx J'.1) (hms : MS J' n) (hM : ∀ l, Ct l G J' B' As M rv M') (hn : As.length = n) (hB : B'.1 + 1 ≤ B.1) (hu : u + B'.2.1 ≤ B.2.1) (hw : w + B'.2.2 ≤ B.2.2) (hst : (st.map fun v => v.category).sum ≤ 8) {st0 : List Value} (hst0 : As.reverse ++ st = st0)
    (kk : Wt G X J B (pc + 3) ls (rv.toList ++ st) M' (u + B'.2.1) (w + B'.2.2)) : Wt G X J B pc ls st0 M u w := by
  obtain ⟨p, l, e, R, s, m, args, below, meth, c, Q⟩ := X
  intro F H locs la hR hS hls
  have K := kk F
  obtain ⟨hx, hb, hml, hown, hts, hKo, hn0, ⟨hrf, hrl, hrc, hrs⟩, -⟩ := F
  obtain ⟨hmc, hstt⟩ := hms
  obtain ⟨⟨c1, c2, c3, c4, c5, c6⟩, c7, c8, c9⟩ := call_B (R := R) (B' := B') hts hmc (by omega) (by omega)
  have hps := pre_S (J := J) (B := B) (av := As) hKo hR hS
  subst hst0
  rcases hl with hl | ⟨host, hl⟩
  · refine run_W (va_runS (Ts := GW) (nL := J.2.2.1) ⟨hx, hb, hml, hown, hts⟩ (hM l) ⟨⟨c1, c2, c3, c4, c5, c6, c7, c8, hmc.2.2.1, c9, hts _ hl⟩, hts _ hstt⟩ hps rfl hn hls.1 rfl (lv_room hst) hc ⟨by omega, by omega⟩) hS (fun H1 locs1 hR1 hS1 => K H1 locs1 la hR1 hS1 hls)
  · refine run_W (va_runSN (Ts := GW) (nL := J.2.2.1) ⟨hx, hb, hml, hown, hts⟩ (hM l) ⟨⟨⟨c1, c2, c3, c4, c5, c6⟩, c7, c8, hmc.2.2.1, c9, va_Nw.use rfl (hKo.2.2.1 _ hl)⟩, hts _ hstt, trivial⟩ hps rfl hn hls.1 rfl (lv_room hst) hc ⟨by omega, by omega⟩) hS (fun H1 locs1 hR1 hS1 => K H1 locs1 la hR1 hS1 hls)
theorem wt_callI (hc : decode J.2.1 pc = .ok (.invokespecial idx, 3)) (hl : MLk J.1.cls idx J'.1) (hmi : MI J' n) (hM : ∀ l, Ct l G J' B' (.ref (G.1 + b) :: As) M none M') (hn : As.length = n) (hB : B'.1 + 1 ≤ B.1) (hu : u + B'.2.1 ≤ B.2.1) (hw : w + B'.2.2 ≤ B.2.2) (hst : (st.map fun v => v.category).sum ≤ 8) {st0 : List Value} (hst0 : As.reverse ++ .ref (G.1 + b) :: st = st0)
    (kk : Wt G X J B (pc + 3) ls st M' (u + B'.2.1) (w + B'.2.2)) : Wt G X J B pc ls st0 M u w := by
  obtain ⟨p, l, e, R, s, m, args, below, meth, c, Q⟩ := X
  intro F H locs la hR hS hls
  have K := kk F
  obtain ⟨hx, hb, hml, hown, hts, hKo, hn0, ⟨hrf, hrl, hrc, hrs⟩, -⟩ := F
  obtain ⟨hmc, hname, hret, hin⟩ := hmi
  obtain ⟨⟨c1, c2, c3, c4, c5, c6⟩, c7, c8, c9⟩ := call_B (R := R) (B' := B') hts hmc (by omega) (by omega)
  rw [hret] at c6 c7
  have hps := pre_S (J := J) (B := B) (av := .ref (G.1 + b) :: As) hKo hR hS
  subst hst0
  rcases hl with hl | ⟨host, hl⟩
  · refine run_W (va_runI (Ts := GW) (nL := J.2.2.1) ⟨hx, hb, hml, hown, hts⟩ (hM l) ⟨⟨c1, c2, c3, c4, c5, c6, c7, c8, hmc.2.2.1, c9, hts _ hl⟩, hname, hts _ hin⟩ hps rfl hn hls.1 rfl (lv_room hst) hc ⟨by omega, by omega⟩) hS (fun H1 locs1 hR1 hS1 => K H1 locs1 la hR1 hS1 hls)
  · refine run_W (va_runIN (Ts := GW) (nL := J.2.2.1) ⟨hx, hb, hml, hown, hts⟩ (hM l) ⟨⟨⟨c1, c2, c3, c4, c5, c6⟩, c7, c8, hmc.2.2.1, c9, va_Nw.use rfl (hKo.2.2.1 _ hl)⟩, hname, hts _ hin⟩ hps rfl hn hls.1 rfl (lv_room hst) hc ⟨by omega, by omega⟩) hS (fun H1 locs1 hR1 hS1 => K H1 locs1 la hR1 hS1 hls)
theorem wt_objInit {a : Nat} (hc : decode J.2.1 pc = .ok (.invokespecial idx, 3)) (hl : Cond.methodLink J.1.cls idx Lib.objectInit ∈ GW) (hi : Cond.instanceMethod Lib.objectInit ∈ GW) (hcd : Cond.code Lib.objectInit ⟨#[0xb1]⟩ 1 none ∈ GW) (hB : 1 ≤ B.1) (hst : (st.map fun v => v.category).sum ≤ 8) (kk : Wt G X J B (pc + 3) ls st M u w) : Wt G X J B pc ls (.ref a :: st) M u w := by
  obtain ⟨p, l, e, R, s, m, args, below, meth, c, Q⟩ := X
  intro F H locs la hR hS hls
  have K := kk F H locs la hR hS hls
  obtain ⟨hx, hb, hml, hown, hts, hKo, hn0, ⟨hrf, hrl, hrc, hrs⟩, -⟩ := F
  have hs : (F0 m pc la (.ref a :: st)).locals.size = c.maxLocals := by rw [hml]; exact hls.1
  exact W.objInit hx hb hown (hts _ hl) (hts _ hi) (hts _ hcd) rfl hs rfl hc (by omega) (by show 2 * 0 + _ + 12 ≤ _; omega) K
end WtC
