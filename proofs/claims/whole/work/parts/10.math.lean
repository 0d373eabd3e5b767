/-! Math's functions, arraycopy, arrays of arrays, the law's script -/
def mxI (x y : Int32) : Int32 := if x < y then y else x
def mnI (x y : Int32) : Int32 := if y < x then y else x
def abI (x : Int32) : Int32 := if 0 ≤ x then x else 0 - x
def mxL (x y : Int64) : Int64 := if y < x then x else y
def abL (x : Int64) : Int64 := if 0 < x then x else -x
section WtM
variable {G : GG} {X : CX} {J : JD} {B : BD} {pc : Nat} {ls : LV} {st : List Value} {M : Mm} {u w : Nat} {idx : Nat} {ρ : Type} {ans : ρ}
theorem wt_mmax {x y : Int32} (hc : decode J.2.1 pc = .ok (.invokestatic idx, 3)) (hl : Cond.methodLink J.1.cls idx Lib.Math.max.name ∈ GW) (h1 : Cond.static Lib.Math.max.name ∈ GW) (h2 : Cond.initialized "java/lang/Math" ∈ GW) (h3 : Cond.code Lib.Math.max.name Lib.Math.max.code 2 (some .int) ∈ GW) (hB : 1 ≤ B.1) (hu : u ≤ B.2.1) (hw : w ≤ B.2.2) (hst : (st.map fun v => v.category).sum ≤ 8) (kk : Wt G X J B (pc + 3) ls (.int (mxI x y) :: st) M u w) : Wt G X J B pc ls (.int y :: .int x :: st) M u w := by
  obtain ⟨p, l, e, R, s, m, args, below, meth, c, Q⟩ := X
  intro F H locs la hR hS hls
  have K := kk F H locs la hR hS hls
  obtain ⟨hx, hb, hml, hown, hts, hKo, hn0, ⟨hrf, hrl, hrc, hrs⟩, -⟩ := F
  exact va_mmax hx hb (hml.trans hls.1.symm) hown (hts _ hl) (hts _ h1) (hts _ h2) (hts _ h3) (by omega) (by omega) (by omega) (by omega) hc K
theorem wt_mmin {x y : Int32} (hc : decode J.2.1 pc = .ok (.invokestatic idx, 3)) (hl : Cond.methodLink J.1.cls idx Lib.Math.min.name ∈ GW) (h1 : Cond.static Lib.Math.min.name ∈ GW) (h2 : Cond.initialized "java/lang/Math" ∈ GW) (h3 : Cond.code Lib.Math.min.name Lib.Math.min.code 2 (some .int) ∈ GW) (hB : 1 ≤ B.1) (hu : u ≤ B.2.1) (hw : w ≤ B.2.2) (hst : (st.map fun v => v.category).sum ≤ 8) (kk : Wt G X J B (pc + 3) ls (.int (mnI x y) :: st) M u w) : Wt G X J B pc ls (.int y :: .int x :: st) M u w := by
  obtain ⟨p, l, e, R, s, m, args, below, meth, c, Q⟩ := X
  intro F H locs la hR hS hls
  have K := kk F H locs la hR hS hls
  obtain ⟨hx, hb, hml, hown, hts, hKo, hn0, ⟨hrf, hrl, hrc, hrs⟩, -⟩ := F
  exact va_mmin hx hb (hml.trans hls.1.symm) hown (hts _ hl) (hts _ h1) (hts _ h2) (hts _ h3) (by omega) (by omega) (by omega) (by omega) hc K
theorem wt_mabs {x : Int32} (hc : decode J.2.1 pc = .ok (.invokestatic idx, 3)) (hl : Cond.methodLink J.1.cls idx Lib.Math.abs.name ∈ GW) (h1 : Cond.static Lib.Math.abs.name ∈ GW) (h2 : Cond.initialized "java/lang/Math" ∈ GW) (h3 : Cond.code Lib.Math.abs.name Lib.Math.abs.code 1 (some .int) ∈ GW) (hB : 1 ≤ B.1) (hu : u ≤ B.2.1) (hw : w ≤ B.2.2) (hst : (st.map fun v => v.category).sum ≤ 8) (kk : Wt G X J B (pc + 3) ls (.int (abI x) :: st) M u w) : Wt G X J B pc ls (.int x :: st) M u w := by
  obtain ⟨p, l, e, R, s, m, args, below, meth, c, Q⟩ := X
  intro F H locs la hR hS hls
  have K := kk F H locs la hR hS hls
  obtain ⟨hx, hb, hml, hown, hts, hKo, hn0, ⟨hrf, hrl, hrc, hrs⟩, -⟩ := F
  exact va_mabs hx hb (hml.trans hls.1.symm) hown (hts _ hl) (hts _ h1) (hts _ h2) (hts _ h3) (by omega) (by omega) (by omega) (by omega) hc K
theorem wt_mabsL {x : Int64} (hc : decode J.2.1 pc = .ok (.invokestatic idx, 3)) (hl : Cond.methodLink J.1.cls idx Lib.MathLoose.abs_long.x ∈ GW) (h1 : Cond.static Lib.MathLoose.abs_long.x ∈ GW) (h2 : Cond.initialized "java/lang/Math" ∈ GW) (h3 : Cond.code Lib.MathLoose.abs_long.x Lib.MathLoose.abs_long.code 2 (some .long) ∈ GW) (hB : 1 ≤ B.1) (hu : u ≤ B.2.1) (hw : w ≤ B.2.2) (hst : (st.map fun v => v.category).sum ≤ 8) (kk : Wt G X J B (pc + 3) ls (.long (abL x) :: st) M u w) : Wt G X J B pc ls (.long x :: st) M u w := by
  obtain ⟨p, l, e, R, s, m, args, below, meth, c, Q⟩ := X
  intro F H locs la hR hS hls
  have K := kk F H locs la hR hS hls
  obtain ⟨hx, hb, hml, hown, hts, hKo, hn0, ⟨hrf, hrl, hrc, hrs⟩, -⟩ := F
  exact va_mabs_long hx hb (hml.trans hls.1.symm) hown (hts _ hl) (hts _ h1) (hts _ h2) (hts _ h3) (by omega) (by omega) (by omega) (by omega) hc K
theorem wt_mmaxL {x y : Int64} (hc : decode J.2.1 pc = .ok (.invokestatic idx, 3)) (hl : Cond.methodLink J.1.cls idx Lib.MathLoose.max_long.x ∈ GW) (h1 : Cond.static Lib.MathLoose.max_long.x ∈ GW) (h2 : Cond.initialized "java/lang/Math" ∈ GW) (h3 : Cond.code Lib.MathLoose.max_long.x Lib.MathLoose.max_long.code 4 (some .long) ∈ GW) (hB : 1 ≤ B.1) (hu : u ≤ B.2.1) (hw : w ≤ B.2.2) (hst : (st.map fun v => v.category).sum ≤ 8) (kk : Wt G X J B (pc + 3) ls (.long (mxL x y) :: st) M u w) : Wt G X J B pc ls (.long y :: .long x :: st) M u w := by
  obtain ⟨p, l, e, R, s, m, args, below, meth, c, Q⟩ := X
  intro F H locs la hR hS hls
  have K := kk F H locs la hR hS hls
  obtain ⟨hx, hb, hml, hown, hts, hKo, hn0, ⟨hrf, hrl, hrc, hrs⟩, -⟩ := F
  exact va_mmax_long hx hb (hml.trans hls.1.symm) hown (hts _ hl) (hts _ h1) (hts _ h2) (hts _ h3) (by omega) (by omega) (by omega) (by omega) hc K
/-- the law's script: a cell below the base -/
theorem wt_slen {b L : Nat} {xs : Nat → Int32} (hX : ∀ (p : Program) (l : Launch) (e : Env) (R : Room) (s : State) (m : MethodId) (args : Array Value) (below : List Frame) (meth : Method) (c : Code) (Q : State → Prop), X = (p, l, e, R, s, m, args, below, meth, c, Q) → va_X b L xs s s.heap ∧ b < s.heap.size ∧ b < G.1) (hc : decode J.2.1 pc = .ok (.arraylength, 1)) (kk : Wt G X J B (pc + 1) ls (.int (Int32.ofNat L) :: st) M u w) : Wt G X J B pc ls (.ref b :: st) M u w := by
  obtain ⟨p, l, e, R, s, m, args, below, meth, c, Q⟩ := X
  intro F H locs la hR hS hls
  have K := kk F H locs la hR hS hls
  obtain ⟨h1, h2, h3⟩ := hX _ _ _ _ _ _ _ _ _ _ _ rfl
  exact va_slen F.1 F.2.1 h1 h2 (Nat.not_le.mpr h3) hS hc K
theorem wt_sload {b L : Nat} {xs : Nat → Int32} {i : Int32} (hX : ∀ (p : Program) (l : Launch) (e : Env) (R : Room) (s : State) (m : MethodId) (args : Array Value) (below : List Frame) (meth : Method) (c : Code) (Q : State → Prop), X = (p, l, e, R, s, m, args, below, meth, c, Q) → va_X b L xs s s.heap ∧ b < s.heap.size ∧ b < G.1) (hc : decode J.2.1 pc = .ok (.iaload, 1)) (hi : ¬ (i < 0 ∨ L ≤ i.toNatClampNeg)) (kk : Wt G X J B (pc + 1) ls (.int (xs i.toNatClampNeg) :: st) M u w) : Wt G X J B pc ls (.int i :: .ref b :: st) M u w := by
  obtain ⟨p, l, e, R, s, m, args, below, meth, c, Q⟩ := X
  intro F H locs la hR hS hls
  have K := kk F H locs la hR hS hls
  obtain ⟨h1, h2, h3⟩ := hX _ _ _ _ _ _ _ _ _ _ _ rfl
  exact va_sld F.1 F.2.1 h1 h2 (Nat.not_le.mpr h3) hS hi hc K
end WtM
