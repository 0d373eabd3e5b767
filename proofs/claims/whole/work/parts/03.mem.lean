/-! THE ABSTRACT MEMORY: kinds, ints, longs, references by address (addresses count from the heap's size at the law's entry) -/
abbrev Mm : Type := (Nat → Nat × Nat) × (Nat → Nat → Int32) × (Nat → Nat → Int64) × (Nat → Nat → Option Nat) × Nat
def mK (M : Mm) : Nat → Nat × Nat := M.1
def mI (M : Mm) : Nat → Nat → Int32 := M.2.1
def mL (M : Mm) : Nat → Nat → Int64 := M.2.2.1
def mR (M : Mm) : Nat → Nat → Option Nat := M.2.2.2.1
def mT (M : Mm) : Nat := M.2.2.2.2
def u2 {α : Type} (f : Nat → Nat → α) (a k : Nat) (v : α) : Nat → Nat → α := fun a' k' => if a' = a ∧ k' = k then v else f a' k'
def sI (M : Mm) (a k : Nat) (v : Int32) : Mm := (mK M, u2 (mI M) a k v, mL M, mR M, mT M)
def sL (M : Mm) (a k : Nat) (v : Int64) : Mm := (mK M, mI M, u2 (mL M) a k v, mR M, mT M)
def sR (M : Mm) (a k : Nat) (v : Option Nat) : Mm := (mK M, mI M, mL M, u2 (mR M) a k v, mT M)
/-- a new cell of a kind, with so many places -/
def nw (M : Mm) (kd n : Nat) : Mm := (fun a => if a = mT M then (kd, n) else mK M a, fun a k => if a = mT M then 0 else mI M a k, fun a k => if a = mT M then 0 else mL M a k, fun a k => if a = mT M then none else mR M a k, mT M + 1)
/-- a new array of n arrays of k places -/
def nw2 (M : Mm) (kd kr n k : Nat) : Mm := (fun a => if a = mT M then (kd, n) else if mT M < a ∧ a < mT M + 1 + n then (kr, k) else mK M a, fun a j => if mT M ≤ a then 0 else mI M a j, fun a j => if mT M ≤ a then 0 else mL M a j, fun a j => if a = mT M then (if j < n then some (mT M + 1 + j) else none) else if mT M ≤ a then none else mR M a j, mT M + 1 + n)
/-- arraycopy of ints, of longs -/
def cpI (M : Mm) (a sp b dp n : Nat) : Mm := (mK M, fun x j => if x = b then (if dp ≤ j ∧ j < dp + n then mI M a (sp + (j - dp)) else mI M b j) else mI M x j, mL M, mR M, mT M)
def cpL (M : Mm) (a sp b dp n : Nat) : Mm := (mK M, mI M, fun x j => if x = b then (if dp ≤ j ∧ j < dp + n then mL M a (sp + (j - dp)) else mL M b j) else mL M x j, mR M, mT M)
theorem mK_sI (M : Mm) (a k : Nat) (v : Int32) : mK (sI M a k v) = mK M := rfl
theorem mL_sI (M : Mm) (a k : Nat) (v : Int32) : mL (sI M a k v) = mL M := rfl
theorem mR_sI (M : Mm) (a k : Nat) (v : Int32) : mR (sI M a k v) = mR M := rfl
theorem mT_sI (M : Mm) (a k : Nat) (v : Int32) : mT (sI M a k v) = mT M := rfl
theorem mK_sL (M : Mm) (a k : Nat) (v : Int64) : mK (sL M a k v) = mK M := rfl
theorem mI_sL (M : Mm) (a k : Nat) (v : Int64) : mI (sL M a k v) = mI M := rfl
theorem mR_sL (M : Mm) (a k : Nat) (v : Int64) : mR (sL M a k v) = mR M := rfl
theorem mT_sL (M : Mm) (a k : Nat) (v : Int64) : mT (sL M a k v) = mT M := rfl
theorem mK_sR (M : Mm) (a k : Nat) (v : Option Nat) : mK (sR M a k v) = mK M := rfl
theorem mI_sR (M : Mm) (a k : Nat) (v : Option Nat) : mI (sR M a k v) = mI M := rfl
theorem mL_sR (M : Mm) (a k : Nat) (v : Option Nat) : mL (sR M a k v) = mL M := rfl
theorem mT_sR (M : Mm) (a k : Nat) (v : Option Nat) : mT (sR M a k v) = mT M := rfl
theorem mI_sI (M : Mm) (a k : Nat) (v : Int32) (a' k' : Nat) : mI (sI M a k v) a' k' = if a' = a ∧ k' = k then v else mI M a' k' := rfl
theorem mL_sL (M : Mm) (a k : Nat) (v : Int64) (a' k' : Nat) : mL (sL M a k v) a' k' = if a' = a ∧ k' = k then v else mL M a' k' := rfl
theorem mR_sR (M : Mm) (a k : Nat) (v : Option Nat) (a' k' : Nat) : mR (sR M a k v) a' k' = if a' = a ∧ k' = k then v else mR M a' k' := rfl
/-! what a method does, as a function: reads and writes that may not be possible answer none -/
def gfI {ρ : Type} (M : Mm) (r : Option Nat) (ci k : Nat) (c : Int32 → Option ρ) : Option ρ := match r with
  | none => none
  | some a => if (mK M a).1 = ci then c (mI M a k) else none
def gfL {ρ : Type} (M : Mm) (r : Option Nat) (ci k : Nat) (c : Int64 → Option ρ) : Option ρ := match r with
  | none => none
  | some a => if (mK M a).1 = ci then c (mL M a k) else none
def gfR {ρ : Type} (M : Mm) (r : Option Nat) (ci k : Nat) (c : Option Nat → Option ρ) : Option ρ := match r with
  | none => none
  | some a => if (mK M a).1 = ci then c (mR M a k) else none
def pfI {ρ : Type} (M : Mm) (r : Option Nat) (ci k : Nat) (v : Int32) (c : Mm → Option ρ) : Option ρ := match r with
  | none => none
  | some a => if (mK M a).1 = ci then c (sI M a k v) else none
def pfZ {ρ : Type} (M : Mm) (r : Option Nat) (ci k : Nat) (v : Int32) (c : Mm → Option ρ) : Option ρ := match r with
  | none => none
  | some a => if (mK M a).1 = ci ∧ (v = 0 ∨ v = 1) then c (sI M a k v) else none
def pfC {ρ : Type} (M : Mm) (r : Option Nat) (ci k : Nat) (v : Int32) (c : Mm → Option ρ) : Option ρ := match r with
  | none => none
  | some a => if (mK M a).1 = ci ∧ (narrow .char (.int v) = .int v ∧ fits .char (.int v) = true) then c (sI M a k v) else none
def pfL {ρ : Type} (M : Mm) (r : Option Nat) (ci k : Nat) (v : Int64) (c : Mm → Option ρ) : Option ρ := match r with
  | none => none
  | some a => if (mK M a).1 = ci then c (sL M a k v) else none
def pfR {ρ : Type} (M : Mm) (r : Option Nat) (ci k : Nat) (v : Option Nat) (c : Mm → Option ρ) : Option ρ := match r with
  | none => none
  | some a => if (mK M a).1 = ci then c (sR M a k v) else none
/-- an index within a length -/
def inb (i : Int32) (n : Nat) : Prop := ¬ (i < 0 ∨ n ≤ i.toNatClampNeg)
def alI {ρ : Type} (M : Mm) (r : Option Nat) (kd : Nat) (i : Int32) (c : Int32 → Option ρ) : Option ρ := match r with
  | none => none
  | some a => if (mK M a).1 = kd ∧ ¬ (i < 0 ∨ (mK M a).2 ≤ i.toNatClampNeg) then c (mI M a i.toNatClampNeg) else none
def alL {ρ : Type} (M : Mm) (r : Option Nat) (kd : Nat) (i : Int32) (c : Int64 → Option ρ) : Option ρ := match r with
  | none => none
  | some a => if (mK M a).1 = kd ∧ ¬ (i < 0 ∨ (mK M a).2 ≤ i.toNatClampNeg) then c (mL M a i.toNatClampNeg) else none
def alR {ρ : Type} (M : Mm) (r : Option Nat) (kd : Nat) (i : Int32) (c : Option Nat → Option ρ) : Option ρ := match r with
  | none => none
  | some a => if (mK M a).1 = kd ∧ ¬ (i < 0 ∨ (mK M a).2 ≤ i.toNatClampNeg) then c (mR M a i.toNatClampNeg) else none
def asI {ρ : Type} (M : Mm) (r : Option Nat) (kd : Nat) (i : Int32) (v : Int32) (c : Mm → Option ρ) : Option ρ := match r with
  | none => none
  | some a => if (mK M a).1 = kd ∧ ¬ (i < 0 ∨ (mK M a).2 ≤ i.toNatClampNeg) then c (sI M a i.toNatClampNeg v) else none
def asB {ρ : Type} (M : Mm) (r : Option Nat) (kd : Nat) (i : Int32) (v : Int32) (c : Mm → Option ρ) : Option ρ := match r with
  | none => none
  | some a => if (mK M a).1 = kd ∧ ¬ (i < 0 ∨ (mK M a).2 ≤ i.toNatClampNeg) then c (sI M a i.toNatClampNeg v.toInt8.toInt32) else none
def asL {ρ : Type} (M : Mm) (r : Option Nat) (kd : Nat) (i : Int32) (v : Int64) (c : Mm → Option ρ) : Option ρ := match r with
  | none => none
  | some a => if (mK M a).1 = kd ∧ ¬ (i < 0 ∨ (mK M a).2 ≤ i.toNatClampNeg) then c (sL M a i.toNatClampNeg v) else none
/-- an object of class ci comes into an array of such -/
def asR {ρ : Type} (M : Mm) (r : Option Nat) (kd ci : Nat) (i : Int32) (v : Option Nat) (c : Mm → Option ρ) : Option ρ := match r, v with
  | some a, some b => if (mK M a).1 = kd ∧ (mK M b).1 = ci ∧ ¬ (i < 0 ∨ (mK M a).2 ≤ i.toNatClampNeg) then c (sR M a i.toNatClampNeg (some b)) else none
  | _, _ => none
def dvI {ρ : Type} (y : Int32) (c : Option ρ) : Option ρ := if y = 0 then none else c
def dvL {ρ : Type} (y : Int64) (c : Option ρ) : Option ρ := if y = 0 then none else c
def bd {α ρ : Type} (x : Option (α × Mm)) (c : α → Mm → Option ρ) : Option ρ := match x with
  | none => none
  | some (v, M) => c v M
def bv {ρ : Type} (x : Option Mm) (c : Mm → Option ρ) : Option ρ := match x with
  | none => none
  | some M => c M
/-- a boolean answer -/
def rtZ (v : Int32) (M : Mm) : Option (Int32 × Mm) := if v = 0 ∨ v = 1 then some (v, M) else none
def acI {ρ : Type} (M : Mm) (r : Option Nat) (sp : Int32) (r2 : Option Nat) (dp n : Int32) (c : Mm → Option ρ) : Option ρ := match r, r2 with
  | some a, some b => if (mK M a).1 = 21 ∧ (mK M b).1 = 21 ∧ 0 ≤ sp ∧ 0 ≤ dp ∧ 0 ≤ n ∧ sp.toNatClampNeg + n.toNatClampNeg ≤ (mK M a).2 ∧ dp.toNatClampNeg + n.toNatClampNeg ≤ (mK M b).2 then c (cpI M a sp.toNatClampNeg b dp.toNatClampNeg n.toNatClampNeg) else none
  | _, _ => none
def acL {ρ : Type} (M : Mm) (r : Option Nat) (sp : Int32) (r2 : Option Nat) (dp n : Int32) (c : Mm → Option ρ) : Option ρ := match r, r2 with
  | some a, some b => if (mK M a).1 = 22 ∧ (mK M b).1 = 22 ∧ 0 ≤ sp ∧ 0 ≤ dp ∧ 0 ≤ n ∧ sp.toNatClampNeg + n.toNatClampNeg ≤ (mK M a).2 ∧ dp.toNatClampNeg + n.toNatClampNeg ≤ (mK M b).2 then c (cpL M a sp.toNatClampNeg b dp.toNatClampNeg n.toNatClampNeg) else none
  | _, _ => none
/-! THE CLASSES, and how memory lies in the heap -/
def tyC (ci k : Nat) : FieldType := match ci with
  | 0 => tyX0 k
  | 1 => tyX1 k
  | 2 => tyX2 k
  | 3 => tyX3 k
  | 4 => tyX4 k
  | 5 => tyX5 k
  | 6 => tyX6 k
  | 7 => tyX7 k
  | 8 => tyX8 k
  | 9 => tyX9 k
  | 10 => tyX10 k
  | 11 => tyX11 k
  | _ => tyX12 k
def nC (ci : Nat) : Nat := match ci with
  | 0 => 8
  | 1 => 9
  | 2 => 8
  | 3 => 4
  | 4 => 9
  | 5 => 3
  | 6 => 14
  | 7 => 3
  | 8 => 3
  | 9 => 8
  | 10 => 5
  | 11 => 19
  | _ => 45
def rf (n0 : Nat) (r : Option Nat) : Value := match r with
  | none => .null
  | some a => .ref (n0 + a)
def vOf (n0 : Nat) (ty : FieldType) (M : Mm) (a k : Nat) : Value := match ty with
  | .long => .long (mL M a k)
  | .object _ => rf n0 (mR M a k)
  | .array _ => rf n0 (mR M a k)
  | _ => .int (mI M a k)
def aV (n0 kd : Nat) (M : Mm) (a j : Nat) : Value := if kd = 22 then .long (mL M a j) else if kd ≤ 21 then .int (mI M a j) else rf n0 (mR M a j)
/-- the arrays' kinds: 20 byte, 21 int, 22 long, 30 + ci of objects of class ci, 50 of int rows, 51 of long rows -/
def kT (kd : Nat) : Option FieldType := match kd with
  | 20 => some .byte
  | 21 => some .int
  | 22 => some .long
  | 30 => some (.object RX0)
  | 31 => some (.object RX1)
  | 34 => some (.object RX4)
  | 38 => some (.object RX8)
  | 39 => some (.object RX9)
  | 50 => some (.array .int)
  | 51 => some (.array .long)
  | _ => none
abbrev GG : Type := Nat × va_G × (Nat → ClassId)
def cellOK (G : GG) (M : Mm) (a : Nat) (H : Heap) : Prop :=
  ((mK M a).1 < 13 → t_OB (G.1 + a) (G.2.1.1 (mK M a).1) (nC (mK M a).1) (G.2.1.2 (mK M a).1) H (fun k => vOf G.1 (tyC (mK M a).1 k) M a k)) ∧
  (∀ ty, kT (mK M a).1 = some ty → H[G.1 + a]? = some (arrV (G.2.2 (mK M a).1) (mK M a).2 (fun j => aV G.1 (mK M a).1 M a j)))
def Rel (G : GG) (M : Mm) (H : Heap) : Prop := H.size = G.1 + mT M ∧ (∀ a, mT M ≤ a → (mK M a).1 = 99) ∧ ∀ a, a < mT M → cellOK G M a H
/-- the text of the words, as the constant holds it -/
def txW : String := "house at worth pieces weight long pegs gang hands pace helped by wind of law owed near told hour gale dawn rest lift with when off stands loop end stop "
def byW : List Int32 := txW.toList.map (fun c => Int32.ofNat c.toNat)
/-- the constant, String's own switch: cells below the base -/
def Sok (G : GG) (U : State) : Prop := vk_R RX6 19 txW (G.2.2 100) U ∧ vk_S 1 [byW.length] [byW] (fun _ => G.2.2 100) (fun _ => G.2.2 101) (fun q => G.1 ≤ q) U U.heap ∧ va_Z "java/lang/String" "COMPACT_STRINGS" "Z" (.int 1) (fun q => G.1 ≤ q) U U.heap ∧ va_Zq "jdk/internal/util/Preconditions" "SIOOBE_FORMATTER" "Ljava/util/function/BiFunction;" (fun q => G.1 ≤ q) U U.heap
def Kok (G : GG) (U : State) : Prop := va_K G.2.1 vwCl [] U ∧ (∀ kd ty, kT kd = some ty → ArrOfT U (G.2.2 kd) ty ∧ va_RA U (G.2.2 kd) ty) ∧ (∀ w ∈ NW, va_Nw w U) ∧ ((∀ kd C, kT kd = some (.object C) → va_AO C U) ∧ va_AOA .int U ∧ va_AOA .long U) ∧ Sok G U
theorem Rel.lt {G : GG} {M : Mm} {H : Heap} (h : Rel G M H) {a : Nat} (hk : (mK M a).1 ≠ 99) : a < mT M := Nat.not_le.mp fun q => hk (h.2.1 a q)
theorem Rel.obj {G : GG} {M : Mm} {H : Heap} (h : Rel G M H) {a ci : Nat} (hk : (mK M a).1 = ci) (hc : ci < 13) : t_OB (G.1 + a) (G.2.1.1 ci) (nC ci) (G.2.1.2 ci) H (fun k => vOf G.1 (tyC ci k) M a k) := by
  subst hk
  exact (h.2.2 a (h.lt (by omega))).1 hc
theorem Rel.arr {G : GG} {M : Mm} {H : Heap} (h : Rel G M H) {a kd : Nat} {ty : FieldType} (hk : (mK M a).1 = kd) (hc : kT kd = some ty) : H[G.1 + a]? = some (arrV (G.2.2 kd) (mK M a).2 (fun j => aV G.1 kd M a j)) := by
  subst hk
  exact (h.2.2 a (h.lt (fun q => by rw [q] at hc; cases hc))).2 ty hc
/-- one cell is written: the rest stays -/
theorem Rel.put {G : GG} {M M' : Mm} {H H' : Heap} (h : Rel G M H) {a : Nat} (ha : a < mT M) (hK : mK M' = mK M) (hT : mT M' = mT M) (ho : ∀ b, b ≠ a → mI M' b = mI M b ∧ mL M' b = mL M b ∧ mR M' b = mR M b) (hz : H'.size = H.size) (hq : ∀ q, q ≠ G.1 + a → H'[q]? = H[q]?) (hc : cellOK G M' a H') : Rel G M' H' := by
  refine ⟨by rw [hz, hT]; exact h.1, fun b hb => by rw [hK]; exact h.2.1 b (by rw [← hT]; exact hb), fun b hb => ?_⟩
  by_cases e : b = a
  · subst e
    exact hc
  · have hb' : b < mT M := by rw [← hT]; exact hb
    obtain ⟨h1, h2⟩ := h.2.2 b hb'
    obtain ⟨o1, o2, o3⟩ := ho b e
    have hne : G.1 + b ≠ G.1 + a := by omega
    refine ⟨fun hk => ?_, fun ty ht => ?_⟩
    · rw [hK] at hk ⊢
      refine ((h1 hk).kept (hq _ hne)).to (fun k _ => ?_)
      unfold vOf
      rw [o1, o2, o3]
    · rw [hK] at ht ⊢
      rw [hq _ hne, h2 ty ht]
      unfold aV
      rw [o1, o2, o3]
