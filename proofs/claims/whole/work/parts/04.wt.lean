/-! THE JUDGEMENT: the machine, in a method's frame, over the abstract memory -/
abbrev CX : Type := Program × Launch × Env × Room × State × MethodId × Array Value × List Frame × Method × Code × (State → Prop)
/-- a method: its name, code, size of locals, return type -/
abbrev JD : Type := MethodName × ByteArray × Nat × Option FieldType
/-- room: frames, cells, slots -/
abbrev BD : Type := Nat × Nat × Nat
abbrev LV : Type := List (Nat × Value)
def FX (G : GG) (X : CX) (J : JD) (B : BD) : Prop := match X with
  | (p, l, e, R, s, m, args, below, meth, c, Q) => p.tables.exec = Jvm.exec ∧ c.code = J.2.1 ∧ c.maxLocals = J.2.2.1 ∧ s.vm.findClass J.1.cls = some m.cls ∧ (∀ w ∈ GW, w.before args s = true) ∧ Kok G s ∧ G.1 ≤ s.heap.size ∧ (B.1 ≤ R.frames ∧ 64 * B.1 ≤ R.locals ∧ B.2.1 ≤ R.cells ∧ B.2.2 ≤ R.slots) ∧ (J.1.name = "<init>" → meth.name = "<init>")
def Wt (G : GG) (X : CX) (J : JD) (B : BD) (pc : Nat) (ls : LV) (st : List Value) (M : Mm) (u w : Nat) : Prop := match X with
  | (p, l, e, R, s, m, args, below, meth, c, Q) => FX G (p, l, e, R, s, m, args, below, meth, c, Q) J B → ∀ (H : Heap) (locs : List Loc) (la : Array Slot), Rel G M H → va_S (fun q => G.1 ≤ q) s.heap H locs → lv_has la J.2.2.1 ls → W p l e R s m args below meth c H locs u w Q (F0 m pc la st)
section WtA
variable {G : GG} {X : CX} {J : JD} {B : BD} {pc : Nat} {ls : LV} {st : List Value} {M : Mm} {u w : Nat}
theorem wt_sub {ls' : LV} (ks : List Nat) (hl : lv_pick ls ks = ls') (k : Wt G X J B pc ls' st M u w) : Wt G X J B pc ls st M u w := by
  obtain ⟨p, l, e, R, s, m, args, below, meth, c, Q⟩ := X
  intro F H locs la hR hS h
  exact k F H locs la hR hS (lv_sub h ks hl)
theorem wt_room {u' w' : Nat} (h1 : u ≤ u') (h2 : w ≤ w') (k : Wt G X J B pc ls st M u' w') : Wt G X J B pc ls st M u w := by
  obtain ⟨p, l, e, R, s, m, args, below, meth, c, Q⟩ := X
  intro F H locs la hR hS h
  exact W.widen h1 h2 (k F H locs la hR hS h)
theorem wt_iconst {n : Int} {v : Int32} (hc : decode J.2.1 pc = .ok (.iconst n, 1)) (hv : Int32.ofInt n = v) (k : Wt G X J B (pc + 1) ls (.int v :: st) M u w) : Wt G X J B pc ls (st) M u w := by
  obtain ⟨p, l, e, R, s, m, args, below, meth, c, Q⟩ := X
  intro F H locs la hR hS h
  exact lv_iconst F.1 F.2.1 hc hv (k F H locs la hR hS h)
theorem wt_bipush {n : Int} {v : Int32} (hc : decode J.2.1 pc = .ok (.bipush n, 2)) (hv : (Int8.ofInt n).toInt32 = v) (k : Wt G X J B (pc + 2) ls (.int v :: st) M u w) : Wt G X J B pc ls (st) M u w := by
  obtain ⟨p, l, e, R, s, m, args, below, meth, c, Q⟩ := X
  intro F H locs la hR hS h
  exact lv_bipush F.1 F.2.1 hc hv (k F H locs la hR hS h)
theorem wt_sipush {n : Int} {v : Int32} (hc : decode J.2.1 pc = .ok (.sipush n, 3)) (hv : (Int16.ofInt n).toInt32 = v) (k : Wt G X J B (pc + 3) ls (.int v :: st) M u w) : Wt G X J B pc ls (st) M u w := by
  obtain ⟨p, l, e, R, s, m, args, below, meth, c, Q⟩ := X
  intro F H locs la hR hS h
  exact lv_sipush F.1 F.2.1 hc hv (k F H locs la hR hS h)
theorem wt_lconst {n : Fin 2} {v : Int64} (hc : decode J.2.1 pc = .ok (.lconst n, 1)) (hv : Int64.ofNat (n : Nat) = v) (k : Wt G X J B (pc + 1) ls (.long v :: st) M u w) : Wt G X J B pc ls (st) M u w := by
  obtain ⟨p, l, e, R, s, m, args, below, meth, c, Q⟩ := X
  intro F H locs la hR hS h
  exact lv_lconst F.1 F.2.1 hc hv (k F H locs la hR hS h)
theorem wt_ldc {i : Nat} {v : Int32} (hc : decode J.2.1 pc = .ok (.ldc i, 2)) (hk : Cond.constant J.1.cls i v ∈ GW) (k : Wt G X J B (pc + 2) ls (.int v :: st) M u w) : Wt G X J B pc ls (st) M u w := by
  obtain ⟨p, l, e, R, s, m, args, below, meth, c, Q⟩ := X
  intro F H locs la hR hS h
  exact lv_ldc F.1 F.2.1 F.2.2.2.1 (F.2.2.2.2.1 _ hk) hc (k F H locs la hR hS h)
theorem wt_ldcw {i : Nat} {v : Int32} (hc : decode J.2.1 pc = .ok (.ldc_w i, 3)) (hk : Cond.constant J.1.cls i v ∈ GW) (k : Wt G X J B (pc + 3) ls (.int v :: st) M u w) : Wt G X J B pc ls (st) M u w := by
  obtain ⟨p, l, e, R, s, m, args, below, meth, c, Q⟩ := X
  intro F H locs la hR hS h
  exact lv_ldcw F.1 F.2.1 F.2.2.2.1 (F.2.2.2.2.1 _ hk) hc (k F H locs la hR hS h)
theorem wt_ldc2 {i : Nat} {v : Int64} (hc : decode J.2.1 pc = .ok (.ldc2_w i, 3)) (hk : Cond.constantLong J.1.cls i v ∈ GW) (k : Wt G X J B (pc + 3) ls (.long v :: st) M u w) : Wt G X J B pc ls (st) M u w := by
  obtain ⟨p, l, e, R, s, m, args, below, meth, c, Q⟩ := X
  intro F H locs la hR hS h
  exact lv_ldc2 F.1 F.2.1 F.2.2.2.1 (F.2.2.2.2.1 _ hk) hc (k F H locs la hR hS h)
theorem wt_iload_n {n : Fin 4} {x : Int32} (q : Nat) (hc : decode J.2.1 pc = .ok (.iload_n n, 1)) (hq : ls[q]? = some ((n : Nat), .int x)) (k : Wt G X J B (pc + 1) ls (.int x :: st) M u w) : Wt G X J B pc ls (st) M u w := by
  obtain ⟨p, l, e, R, s, m, args, below, meth, c, Q⟩ := X
  intro F H locs la hR hS h
  exact lv_iload_n F.1 F.2.1 hc rfl (lv_at h q hq) (k F H locs la hR hS h)
theorem wt_iload {i : Nat} {x : Int32} (q : Nat) (hc : decode J.2.1 pc = .ok (.iload i, 2)) (hq : ls[q]? = some (i, .int x)) (k : Wt G X J B (pc + 2) ls (.int x :: st) M u w) : Wt G X J B pc ls (st) M u w := by
  obtain ⟨p, l, e, R, s, m, args, below, meth, c, Q⟩ := X
  intro F H locs la hR hS h
  exact lv_iload F.1 F.2.1 hc (lv_at h q hq) (k F H locs la hR hS h)
theorem wt_lload_n {n : Fin 4} {x : Int64} (q : Nat) (hc : decode J.2.1 pc = .ok (.lload_n n, 1)) (hq : ls[q]? = some ((n : Nat), .long x)) (k : Wt G X J B (pc + 1) ls (.long x :: st) M u w) : Wt G X J B pc ls (st) M u w := by
  obtain ⟨p, l, e, R, s, m, args, below, meth, c, Q⟩ := X
  intro F H locs la hR hS h
  exact lv_lload_n F.1 F.2.1 hc rfl (lv_at h q hq) (k F H locs la hR hS h)
theorem wt_lload {i : Nat} {x : Int64} (q : Nat) (hc : decode J.2.1 pc = .ok (.lload i, 2)) (hq : ls[q]? = some (i, .long x)) (k : Wt G X J B (pc + 2) ls (.long x :: st) M u w) : Wt G X J B pc ls (st) M u w := by
  obtain ⟨p, l, e, R, s, m, args, below, meth, c, Q⟩ := X
  intro F H locs la hR hS h
  exact lv_lload F.1 F.2.1 hc (lv_at h q hq) (k F H locs la hR hS h)
theorem wt_aload_n {n : Fin 4} {r : Option Nat} (q : Nat) (hc : decode J.2.1 pc = .ok (.aload_n n, 1)) (hq : ls[q]? = some ((n : Nat), rf G.1 r)) (k : Wt G X J B (pc + 1) ls (rf G.1 r :: st) M u w) : Wt G X J B pc ls st M u w := by
  obtain ⟨p, l, e, R, s, m, args, below, meth, c, Q⟩ := X
  intro F H locs la hR hS h
  cases r with
  | none => exact lv_aload_nN F.1 F.2.1 hc rfl (lv_at h q hq) (k F H locs la hR hS h)
  | some a => exact lv_aload_n F.1 F.2.1 hc rfl (lv_at h q hq) (k F H locs la hR hS h)
theorem wt_aload {i : Nat} {r : Option Nat} (q : Nat) (hc : decode J.2.1 pc = .ok (.aload i, 2)) (hq : ls[q]? = some (i, rf G.1 r)) (k : Wt G X J B (pc + 2) ls (rf G.1 r :: st) M u w) : Wt G X J B pc ls st M u w := by
  obtain ⟨p, l, e, R, s, m, args, below, meth, c, Q⟩ := X
  intro F H locs la hR hS h
  cases r with
  | none => exact lv_aloadN F.1 F.2.1 hc (lv_at h q hq) (k F H locs la hR hS h)
  | some a => exact lv_aload F.1 F.2.1 hc (lv_at h q hq) (k F H locs la hR hS h)
theorem wt_istore_n {n : Fin 4} {i : Nat} (hi : (n : Nat) = i) {x : Int32} {ls' : LV} (hc : decode J.2.1 pc = .ok (.istore_n n, 1)) (hn : i < J.2.2.1) (hl : (i, Value.int x) :: ls.filter (fun q => !(q.1 == i) && !(q.1 + 1 == i && q.2.category == 2)) = ls') (k : Wt G X J B (pc + 1) ls' st M u w) : Wt G X J B pc ls (.int x :: st) M u w := by
  obtain ⟨p, l, e, R, s, m, args, below, meth, c, Q⟩ := X
  intro F H locs la hR hS h
  exact lv_istore_n F.1 F.2.1 hc hi h hn hl (fun la' h' => k F H locs la' hR hS h')
theorem wt_istore {i : Nat} {x : Int32} {ls' : LV} (hc : decode J.2.1 pc = .ok (.istore i, 2)) (hn : i < J.2.2.1) (hl : (i, Value.int x) :: ls.filter (fun q => !(q.1 == i) && !(q.1 + 1 == i && q.2.category == 2)) = ls') (k : Wt G X J B (pc + 2) ls' st M u w) : Wt G X J B pc ls (.int x :: st) M u w := by
  obtain ⟨p, l, e, R, s, m, args, below, meth, c, Q⟩ := X
  intro F H locs la hR hS h
  exact lv_istore F.1 F.2.1 hc h hn hl (fun la' h' => k F H locs la' hR hS h')
theorem wt_lstore_n {n : Fin 4} {i : Nat} (hi : (n : Nat) = i) {x : Int64} {ls' : LV} (hc : decode J.2.1 pc = .ok (.lstore_n n, 1)) (hn : i + 1 < J.2.2.1) (hl : (i, Value.long x) :: ls.filter (fun q => !(q.1 == i) && (!(q.1 == i + 1) && !(q.1 + 1 == i && q.2.category == 2))) = ls') (k : Wt G X J B (pc + 1) ls' st M u w) : Wt G X J B pc ls (.long x :: st) M u w := by
  obtain ⟨p, l, e, R, s, m, args, below, meth, c, Q⟩ := X
  intro F H locs la hR hS h
  exact lv_lstore_n F.1 F.2.1 hc hi h hn hl (fun la' h' => k F H locs la' hR hS h')
theorem wt_lstore {i : Nat} {x : Int64} {ls' : LV} (hc : decode J.2.1 pc = .ok (.lstore i, 2)) (hn : i + 1 < J.2.2.1) (hl : (i, Value.long x) :: ls.filter (fun q => !(q.1 == i) && (!(q.1 == i + 1) && !(q.1 + 1 == i && q.2.category == 2))) = ls') (k : Wt G X J B (pc + 2) ls' st M u w) : Wt G X J B pc ls (.long x :: st) M u w := by
  obtain ⟨p, l, e, R, s, m, args, below, meth, c, Q⟩ := X
  intro F H locs la hR hS h
  exact lv_lstore F.1 F.2.1 hc h hn hl (fun la' h' => k F H locs la' hR hS h')
theorem wt_astore_n {n : Fin 4} {i : Nat} (hi : (n : Nat) = i) {r : Option Nat} {ls' : LV} (hc : decode J.2.1 pc = .ok (.astore_n n, 1)) (hn : i < J.2.2.1) (hl : (i, rf G.1 r) :: ls.filter (fun q => !(q.1 == i) && !(q.1 + 1 == i && q.2.category == 2)) = ls') (k : Wt G X J B (pc + 1) ls' st M u w) : Wt G X J B pc ls (rf G.1 r :: st) M u w := by
  obtain ⟨p, l, e, R, s, m, args, below, meth, c, Q⟩ := X
  intro F H locs la hR hS h
  cases r with
  | none => exact lv_astore_nN F.1 F.2.1 hc hi h hn hl (fun la' h' => k F H locs la' hR hS h')
  | some a => exact lv_astore_n F.1 F.2.1 hc hi h hn hl (fun la' h' => k F H locs la' hR hS h')
theorem wt_astore {i : Nat} {r : Option Nat} {ls' : LV} (hc : decode J.2.1 pc = .ok (.astore i, 2)) (hn : i < J.2.2.1) (hl : (i, rf G.1 r) :: ls.filter (fun q => !(q.1 == i) && !(q.1 + 1 == i && q.2.category == 2)) = ls') (k : Wt G X J B (pc + 2) ls' st M u w) : Wt G X J B pc ls (rf G.1 r :: st) M u w := by
  obtain ⟨p, l, e, R, s, m, args, below, meth, c, Q⟩ := X
  intro F H locs la hR hS h
  cases r with
  | none => exact lv_astoreN F.1 F.2.1 hc h hn hl (fun la' h' => k F H locs la' hR hS h')
  | some a => exact lv_astore F.1 F.2.1 hc h hn hl (fun la' h' => k F H locs la' hR hS h')
theorem wt_iinc {i : Nat} {n : Int} {x d : Int32} {ls' : LV} (q : Nat) (hc : decode J.2.1 pc = .ok (.iinc i n, 3)) (hq : ls[q]? = some (i, .int x)) (hd : Int32.ofInt n = d) (hn : i < J.2.2.1) (hl : (i, Value.int (x + d)) :: ls.filter (fun q => !(q.1 == i) && !(q.1 + 1 == i && q.2.category == 2)) = ls') (k : Wt G X J B (pc + 3) ls' st M u w) : Wt G X J B pc ls st M u w := by
  obtain ⟨p, l, e, R, s, m, args, below, meth, c, Q⟩ := X
  intro F H locs la hR hS h
  exact lv_iinc F.1 F.2.1 hc h hq (by rw [hd]) hn hl (fun la' h' => k F H locs la' hR hS h')
theorem wt_iadd {x y : Int32} (hc : decode J.2.1 pc = .ok (.iadd, 1)) (k : Wt G X J B (pc + 1) ls (.int (x + y) :: st) M u w) : Wt G X J B pc ls (.int y :: .int x :: st) M u w := by
  obtain ⟨p, l, e, R, s, m, args, below, meth, c, Q⟩ := X
  intro F H locs la hR hS h
  exact lv_iadd F.1 F.2.1 hc (k F H locs la hR hS h)
theorem wt_isub {x y : Int32} (hc : decode J.2.1 pc = .ok (.isub, 1)) (k : Wt G X J B (pc + 1) ls (.int (x - y) :: st) M u w) : Wt G X J B pc ls (.int y :: .int x :: st) M u w := by
  obtain ⟨p, l, e, R, s, m, args, below, meth, c, Q⟩ := X
  intro F H locs la hR hS h
  exact lv_isub F.1 F.2.1 hc (k F H locs la hR hS h)
theorem wt_imul {x y : Int32} (hc : decode J.2.1 pc = .ok (.imul, 1)) (k : Wt G X J B (pc + 1) ls (.int (x * y) :: st) M u w) : Wt G X J B pc ls (.int y :: .int x :: st) M u w := by
  obtain ⟨p, l, e, R, s, m, args, below, meth, c, Q⟩ := X
  intro F H locs la hR hS h
  exact lv_imul F.1 F.2.1 hc (k F H locs la hR hS h)
theorem wt_iand {x y : Int32} (hc : decode J.2.1 pc = .ok (.iand, 1)) (k : Wt G X J B (pc + 1) ls (.int (x &&& y) :: st) M u w) : Wt G X J B pc ls (.int y :: .int x :: st) M u w := by
  obtain ⟨p, l, e, R, s, m, args, below, meth, c, Q⟩ := X
  intro F H locs la hR hS h
  exact lv_iand F.1 F.2.1 hc (k F H locs la hR hS h)
theorem wt_ior {x y : Int32} (hc : decode J.2.1 pc = .ok (.ior, 1)) (k : Wt G X J B (pc + 1) ls (.int (x ||| y) :: st) M u w) : Wt G X J B pc ls (.int y :: .int x :: st) M u w := by
  obtain ⟨p, l, e, R, s, m, args, below, meth, c, Q⟩ := X
  intro F H locs la hR hS h
  exact lv_ior F.1 F.2.1 hc (k F H locs la hR hS h)
theorem wt_ixor {x y : Int32} (hc : decode J.2.1 pc = .ok (.ixor, 1)) (k : Wt G X J B (pc + 1) ls (.int (x ^^^ y) :: st) M u w) : Wt G X J B pc ls (.int y :: .int x :: st) M u w := by
  obtain ⟨p, l, e, R, s, m, args, below, meth, c, Q⟩ := X
  intro F H locs la hR hS h
  exact lv_ixor F.1 F.2.1 hc (k F H locs la hR hS h)
theorem wt_ishl {x y : Int32} (hc : decode J.2.1 pc = .ok (.ishl, 1)) (k : Wt G X J B (pc + 1) ls (.int (x <<< (y &&& 31)) :: st) M u w) : Wt G X J B pc ls (.int y :: .int x :: st) M u w := by
  obtain ⟨p, l, e, R, s, m, args, below, meth, c, Q⟩ := X
  intro F H locs la hR hS h
  exact lv_ishl F.1 F.2.1 hc (k F H locs la hR hS h)
theorem wt_ishr {x y : Int32} (hc : decode J.2.1 pc = .ok (.ishr, 1)) (k : Wt G X J B (pc + 1) ls (.int (x >>> (y &&& 31)) :: st) M u w) : Wt G X J B pc ls (.int y :: .int x :: st) M u w := by
  obtain ⟨p, l, e, R, s, m, args, below, meth, c, Q⟩ := X
  intro F H locs la hR hS h
  exact lv_ishr F.1 F.2.1 hc (k F H locs la hR hS h)
theorem wt_iushr {x y : Int32} (hc : decode J.2.1 pc = .ok (.iushr, 1)) (k : Wt G X J B (pc + 1) ls (.int ((x.toUInt32 >>> (y.toUInt32 &&& Int32.toUInt32 31)).toInt32) :: st) M u w) : Wt G X J B pc ls (.int y :: .int x :: st) M u w := by
  obtain ⟨p, l, e, R, s, m, args, below, meth, c, Q⟩ := X
  intro F H locs la hR hS h
  exact lv_iushr F.1 F.2.1 hc rfl (k F H locs la hR hS h)
theorem wt_ineg {x : Int32} (hc : decode J.2.1 pc = .ok (.ineg, 1)) (k : Wt G X J B (pc + 1) ls (.int (-x) :: st) M u w) : Wt G X J B pc ls (.int x :: st) M u w := by
  obtain ⟨p, l, e, R, s, m, args, below, meth, c, Q⟩ := X
  intro F H locs la hR hS h
  exact lv_ineg F.1 F.2.1 hc (k F H locs la hR hS h)
theorem wt_idiv {x y : Int32} (hc : decode J.2.1 pc = .ok (.idiv, 1)) (hne : ¬ y = 0) (k : Wt G X J B (pc + 1) ls (.int (x / y) :: st) M u w) : Wt G X J B pc ls (.int y :: .int x :: st) M u w := by
  obtain ⟨p, l, e, R, s, m, args, below, meth, c, Q⟩ := X
  intro F H locs la hR hS h
  exact lv_idiv F.1 F.2.1 hc hne (k F H locs la hR hS h)
theorem wt_irem {x y : Int32} (hc : decode J.2.1 pc = .ok (.irem, 1)) (hne : ¬ y = 0) (k : Wt G X J B (pc + 1) ls (.int (x - x / y * y) :: st) M u w) : Wt G X J B pc ls (.int y :: .int x :: st) M u w := by
  obtain ⟨p, l, e, R, s, m, args, below, meth, c, Q⟩ := X
  intro F H locs la hR hS h
  exact lv_irem F.1 F.2.1 hc hne (k F H locs la hR hS h)
theorem wt_ladd {x y : Int64} (hc : decode J.2.1 pc = .ok (.ladd, 1)) (k : Wt G X J B (pc + 1) ls (.long (x + y) :: st) M u w) : Wt G X J B pc ls (.long y :: .long x :: st) M u w := by
  obtain ⟨p, l, e, R, s, m, args, below, meth, c, Q⟩ := X
  intro F H locs la hR hS h
  exact lv_ladd F.1 F.2.1 hc (k F H locs la hR hS h)
theorem wt_lsub {x y : Int64} (hc : decode J.2.1 pc = .ok (.lsub, 1)) (k : Wt G X J B (pc + 1) ls (.long (x - y) :: st) M u w) : Wt G X J B pc ls (.long y :: .long x :: st) M u w := by
  obtain ⟨p, l, e, R, s, m, args, below, meth, c, Q⟩ := X
  intro F H locs la hR hS h
  exact lv_lsub F.1 F.2.1 hc (k F H locs la hR hS h)
theorem wt_lmul {x y : Int64} (hc : decode J.2.1 pc = .ok (.lmul, 1)) (k : Wt G X J B (pc + 1) ls (.long (x * y) :: st) M u w) : Wt G X J B pc ls (.long y :: .long x :: st) M u w := by
  obtain ⟨p, l, e, R, s, m, args, below, meth, c, Q⟩ := X
  intro F H locs la hR hS h
  exact lv_lmul F.1 F.2.1 hc (k F H locs la hR hS h)
theorem wt_land {x y : Int64} (hc : decode J.2.1 pc = .ok (.land, 1)) (k : Wt G X J B (pc + 1) ls (.long (x &&& y) :: st) M u w) : Wt G X J B pc ls (.long y :: .long x :: st) M u w := by
  obtain ⟨p, l, e, R, s, m, args, below, meth, c, Q⟩ := X
  intro F H locs la hR hS h
  exact lv_land F.1 F.2.1 hc (k F H locs la hR hS h)
theorem wt_lor {x y : Int64} (hc : decode J.2.1 pc = .ok (.lor, 1)) (k : Wt G X J B (pc + 1) ls (.long (x ||| y) :: st) M u w) : Wt G X J B pc ls (.long y :: .long x :: st) M u w := by
  obtain ⟨p, l, e, R, s, m, args, below, meth, c, Q⟩ := X
  intro F H locs la hR hS h
  exact lv_lor F.1 F.2.1 hc (k F H locs la hR hS h)
theorem wt_ldiv {x y : Int64} (hc : decode J.2.1 pc = .ok (.ldiv, 1)) (hne : ¬ y = 0) (k : Wt G X J B (pc + 1) ls (.long (x / y) :: st) M u w) : Wt G X J B pc ls (.long y :: .long x :: st) M u w := by
  obtain ⟨p, l, e, R, s, m, args, below, meth, c, Q⟩ := X
  intro F H locs la hR hS h
  exact lv_ldiv F.1 F.2.1 hc hne (k F H locs la hR hS h)
theorem wt_lrem {x y : Int64} (hc : decode J.2.1 pc = .ok (.lrem, 1)) (hne : ¬ y = 0) (k : Wt G X J B (pc + 1) ls (.long (x - x / y * y) :: st) M u w) : Wt G X J B pc ls (.long y :: .long x :: st) M u w := by
  obtain ⟨p, l, e, R, s, m, args, below, meth, c, Q⟩ := X
  intro F H locs la hR hS h
  exact lv_lrem F.1 F.2.1 hc hne (k F H locs la hR hS h)
theorem wt_lshl {x : Int64} {y : Int32} (hc : decode J.2.1 pc = .ok (.lshl, 1)) (k : Wt G X J B (pc + 1) ls (.long (x <<< (y.toInt64 &&& 63)) :: st) M u w) : Wt G X J B pc ls (.int y :: .long x :: st) M u w := by
  obtain ⟨p, l, e, R, s, m, args, below, meth, c, Q⟩ := X
  intro F H locs la hR hS h
  exact lv_lshl F.1 F.2.1 hc rfl (k F H locs la hR hS h)
theorem wt_i2l {x : Int32} (hc : decode J.2.1 pc = .ok (.i2l, 1)) (k : Wt G X J B (pc + 1) ls (.long x.toInt64 :: st) M u w) : Wt G X J B pc ls (.int x :: st) M u w := by
  obtain ⟨p, l, e, R, s, m, args, below, meth, c, Q⟩ := X
  intro F H locs la hR hS h
  exact lv_i2l F.1 F.2.1 hc rfl (k F H locs la hR hS h)
theorem wt_l2i {x : Int64} (hc : decode J.2.1 pc = .ok (.l2i, 1)) (k : Wt G X J B (pc + 1) ls (.int x.toInt32 :: st) M u w) : Wt G X J B pc ls (.long x :: st) M u w := by
  obtain ⟨p, l, e, R, s, m, args, below, meth, c, Q⟩ := X
  intro F H locs la hR hS h
  exact lv_l2i F.1 F.2.1 hc rfl (k F H locs la hR hS h)
theorem wt_i2b {x : Int32} (hc : decode J.2.1 pc = .ok (.i2b, 1)) (k : Wt G X J B (pc + 1) ls (.int x.toInt8.toInt32 :: st) M u w) : Wt G X J B pc ls (.int x :: st) M u w := by
  obtain ⟨p, l, e, R, s, m, args, below, meth, c, Q⟩ := X
  intro F H locs la hR hS h
  exact lv_i2b F.1 F.2.1 hc rfl (k F H locs la hR hS h)
theorem wt_i2s {x : Int32} (hc : decode J.2.1 pc = .ok (.i2s, 1)) (k : Wt G X J B (pc + 1) ls (.int x.toInt16.toInt32 :: st) M u w) : Wt G X J B pc ls (.int x :: st) M u w := by
  obtain ⟨p, l, e, R, s, m, args, below, meth, c, Q⟩ := X
  intro F H locs la hR hS h
  exact lv_i2s F.1 F.2.1 hc rfl (k F H locs la hR hS h)
theorem wt_i2c {x : Int32} (hc : decode J.2.1 pc = .ok (.i2c, 1)) (k : Wt G X J B (pc + 1) ls (.int (x.toUInt32 % 65536).toInt32 :: st) M u w) : Wt G X J B pc ls (.int x :: st) M u w := by
  obtain ⟨p, l, e, R, s, m, args, below, meth, c, Q⟩ := X
  intro F H locs la hR hS h
  exact lv_i2c F.1 F.2.1 hc rfl (k F H locs la hR hS h)
theorem wt_lcmp {x y : Int64} (hc : decode J.2.1 pc = .ok (.lcmp, 1)) (k : Wt G X J B (pc + 1) ls (.int (lg_cmp x y) :: st) M u w) : Wt G X J B pc ls (.long y :: .long x :: st) M u w := by
  obtain ⟨p, l, e, R, s, m, args, below, meth, c, Q⟩ := X
  intro F H locs la hR hS h
  exact W.lcmp F.1 F.2.1 hc (k F H locs la hR hS h)
theorem wt_dup {a : Value} (hc : decode J.2.1 pc = .ok (.dup, 1)) (ha : a.category = 1) (k : Wt G X J B (pc + 1) ls (a :: a :: st) M u w) : Wt G X J B pc ls (a :: st) M u w := by
  obtain ⟨p, l, e, R, s, m, args, below, meth, c, Q⟩ := X
  intro F H locs la hR hS h
  exact lv_dup F.1 F.2.1 hc ha (k F H locs la hR hS h)
theorem wt_pop {a : Value} (hc : decode J.2.1 pc = .ok (.pop, 1)) (ha : a.category = 1) (k : Wt G X J B (pc + 1) ls (st) M u w) : Wt G X J B pc ls (a :: st) M u w := by
  obtain ⟨p, l, e, R, s, m, args, below, meth, c, Q⟩ := X
  intro F H locs la hR hS h
  exact lv_pop F.1 F.2.1 hc ha (k F H locs la hR hS h)
theorem wt_dup2 {a b : Value} (hc : decode J.2.1 pc = .ok (.dup2, 1)) (ha : a.category = 1) (hb : b.category = 1) (k : Wt G X J B (pc + 1) ls (a :: b :: a :: b :: st) M u w) : Wt G X J B pc ls (a :: b :: st) M u w := by
  obtain ⟨p, l, e, R, s, m, args, below, meth, c, Q⟩ := X
  intro F H locs la hR hS h
  exact lv_dup2_11 F.1 F.2.1 hc ha hb (k F H locs la hR hS h)
theorem cat_i (x : Int32) : (Value.int x).category = 1 := rfl
theorem cat_l (x : Int64) : (Value.long x).category = 2 := rfl
theorem cat_r (x : Nat) : (Value.ref x).category = 1 := rfl
theorem rf_cat (n0 : Nat) (r : Option Nat) : (rf n0 r).category = 1 := by cases r <;> rfl
theorem wt_if_eq {x : Int32} {off : Int} {tgt : Nat} (hc : decode J.2.1 pc = .ok (.ifCond .eq off, 3)) (ht : (pc : Int) + off = (tgt : Int)) (kt : x = 0 → Wt G X J B tgt ls st M u w) (kf : ¬ (x = 0) → Wt G X J B (pc + 3) ls st M u w) : Wt G X J B pc ls (.int x :: st) M u w := by
  obtain ⟨p, l, e, R, s, m, args, below, meth, c, Q⟩ := X
  intro F H locs la hR hS h
  exact lv_if_eq F.1 F.2.1 hc ht (fun z => kt z F H locs la hR hS h) (fun z => kf z F H locs la hR hS h)
theorem wt_icmp_eq {x y : Int32} {off : Int} {tgt : Nat} (hc : decode J.2.1 pc = .ok (.if_icmp .eq off, 3)) (ht : (pc : Int) + off = (tgt : Int)) (kt : x = y → Wt G X J B tgt ls st M u w) (kf : ¬ (x = y) → Wt G X J B (pc + 3) ls st M u w) : Wt G X J B pc ls (.int y :: .int x :: st) M u w := by
  obtain ⟨p, l, e, R, s, m, args, below, meth, c, Q⟩ := X
  intro F H locs la hR hS h
  exact lv_icmp_eq F.1 F.2.1 hc ht (fun z => kt z F H locs la hR hS h) (fun z => kf z F H locs la hR hS h)
theorem wt_if_ne {x : Int32} {off : Int} {tgt : Nat} (hc : decode J.2.1 pc = .ok (.ifCond .ne off, 3)) (ht : (pc : Int) + off = (tgt : Int)) (kt : ¬ x = 0 → Wt G X J B tgt ls st M u w) (kf : x = 0 → Wt G X J B (pc + 3) ls st M u w) : Wt G X J B pc ls (.int x :: st) M u w := by
  obtain ⟨p, l, e, R, s, m, args, below, meth, c, Q⟩ := X
  intro F H locs la hR hS h
  exact lv_if_ne F.1 F.2.1 hc ht (fun z => kt z F H locs la hR hS h) (fun z => kf z F H locs la hR hS h)
theorem wt_icmp_ne {x y : Int32} {off : Int} {tgt : Nat} (hc : decode J.2.1 pc = .ok (.if_icmp .ne off, 3)) (ht : (pc : Int) + off = (tgt : Int)) (kt : ¬ x = y → Wt G X J B tgt ls st M u w) (kf : x = y → Wt G X J B (pc + 3) ls st M u w) : Wt G X J B pc ls (.int y :: .int x :: st) M u w := by
  obtain ⟨p, l, e, R, s, m, args, below, meth, c, Q⟩ := X
  intro F H locs la hR hS h
  exact lv_icmp_ne F.1 F.2.1 hc ht (fun z => kt z F H locs la hR hS h) (fun z => kf z F H locs la hR hS h)
theorem wt_if_lt {x : Int32} {off : Int} {tgt : Nat} (hc : decode J.2.1 pc = .ok (.ifCond .lt off, 3)) (ht : (pc : Int) + off = (tgt : Int)) (kt : x < 0 → Wt G X J B tgt ls st M u w) (kf : ¬ (x < 0) → Wt G X J B (pc + 3) ls st M u w) : Wt G X J B pc ls (.int x :: st) M u w := by
  obtain ⟨p, l, e, R, s, m, args, below, meth, c, Q⟩ := X
  intro F H locs la hR hS h
  exact lv_if_lt F.1 F.2.1 hc ht (fun z => kt z F H locs la hR hS h) (fun z => kf z F H locs la hR hS h)
theorem wt_icmp_lt {x y : Int32} {off : Int} {tgt : Nat} (hc : decode J.2.1 pc = .ok (.if_icmp .lt off, 3)) (ht : (pc : Int) + off = (tgt : Int)) (kt : x < y → Wt G X J B tgt ls st M u w) (kf : ¬ (x < y) → Wt G X J B (pc + 3) ls st M u w) : Wt G X J B pc ls (.int y :: .int x :: st) M u w := by
  obtain ⟨p, l, e, R, s, m, args, below, meth, c, Q⟩ := X
  intro F H locs la hR hS h
  exact lv_icmp_lt F.1 F.2.1 hc ht (fun z => kt z F H locs la hR hS h) (fun z => kf z F H locs la hR hS h)
theorem wt_if_ge {x : Int32} {off : Int} {tgt : Nat} (hc : decode J.2.1 pc = .ok (.ifCond .ge off, 3)) (ht : (pc : Int) + off = (tgt : Int)) (kt : 0 ≤ x → Wt G X J B tgt ls st M u w) (kf : ¬ (0 ≤ x) → Wt G X J B (pc + 3) ls st M u w) : Wt G X J B pc ls (.int x :: st) M u w := by
  obtain ⟨p, l, e, R, s, m, args, below, meth, c, Q⟩ := X
  intro F H locs la hR hS h
  exact lv_if_ge F.1 F.2.1 hc ht (fun z => kt z F H locs la hR hS h) (fun z => kf z F H locs la hR hS h)
theorem wt_icmp_ge {x y : Int32} {off : Int} {tgt : Nat} (hc : decode J.2.1 pc = .ok (.if_icmp .ge off, 3)) (ht : (pc : Int) + off = (tgt : Int)) (kt : y ≤ x → Wt G X J B tgt ls st M u w) (kf : ¬ (y ≤ x) → Wt G X J B (pc + 3) ls st M u w) : Wt G X J B pc ls (.int y :: .int x :: st) M u w := by
  obtain ⟨p, l, e, R, s, m, args, below, meth, c, Q⟩ := X
  intro F H locs la hR hS h
  exact lv_icmp_ge F.1 F.2.1 hc ht (fun z => kt z F H locs la hR hS h) (fun z => kf z F H locs la hR hS h)
theorem wt_if_gt {x : Int32} {off : Int} {tgt : Nat} (hc : decode J.2.1 pc = .ok (.ifCond .gt off, 3)) (ht : (pc : Int) + off = (tgt : Int)) (kt : 0 < x → Wt G X J B tgt ls st M u w) (kf : ¬ (0 < x) → Wt G X J B (pc + 3) ls st M u w) : Wt G X J B pc ls (.int x :: st) M u w := by
  obtain ⟨p, l, e, R, s, m, args, below, meth, c, Q⟩ := X
  intro F H locs la hR hS h
  exact lv_if_gt F.1 F.2.1 hc ht (fun z => kt z F H locs la hR hS h) (fun z => kf z F H locs la hR hS h)
theorem wt_icmp_gt {x y : Int32} {off : Int} {tgt : Nat} (hc : decode J.2.1 pc = .ok (.if_icmp .gt off, 3)) (ht : (pc : Int) + off = (tgt : Int)) (kt : y < x → Wt G X J B tgt ls st M u w) (kf : ¬ (y < x) → Wt G X J B (pc + 3) ls st M u w) : Wt G X J B pc ls (.int y :: .int x :: st) M u w := by
  obtain ⟨p, l, e, R, s, m, args, below, meth, c, Q⟩ := X
  intro F H locs la hR hS h
  exact lv_icmp_gt F.1 F.2.1 hc ht (fun z => kt z F H locs la hR hS h) (fun z => kf z F H locs la hR hS h)
theorem wt_if_le {x : Int32} {off : Int} {tgt : Nat} (hc : decode J.2.1 pc = .ok (.ifCond .le off, 3)) (ht : (pc : Int) + off = (tgt : Int)) (kt : x ≤ 0 → Wt G X J B tgt ls st M u w) (kf : ¬ (x ≤ 0) → Wt G X J B (pc + 3) ls st M u w) : Wt G X J B pc ls (.int x :: st) M u w := by
  obtain ⟨p, l, e, R, s, m, args, below, meth, c, Q⟩ := X
  intro F H locs la hR hS h
  exact lv_if_le F.1 F.2.1 hc ht (fun z => kt z F H locs la hR hS h) (fun z => kf z F H locs la hR hS h)
theorem wt_icmp_le {x y : Int32} {off : Int} {tgt : Nat} (hc : decode J.2.1 pc = .ok (.if_icmp .le off, 3)) (ht : (pc : Int) + off = (tgt : Int)) (kt : x ≤ y → Wt G X J B tgt ls st M u w) (kf : ¬ (x ≤ y) → Wt G X J B (pc + 3) ls st M u w) : Wt G X J B pc ls (.int y :: .int x :: st) M u w := by
  obtain ⟨p, l, e, R, s, m, args, below, meth, c, Q⟩ := X
  intro F H locs la hR hS h
  exact lv_icmp_le F.1 F.2.1 hc ht (fun z => kt z F H locs la hR hS h) (fun z => kf z F H locs la hR hS h)
theorem wt_goto {off : Int} {tgt : Nat} (hc : decode J.2.1 pc = .ok (.goto off, 3)) (ht : (pc : Int) + off = (tgt : Int)) (k : Wt G X J B tgt ls st M u w) : Wt G X J B pc ls st M u w := by
  obtain ⟨p, l, e, R, s, m, args, below, meth, c, Q⟩ := X
  intro F H locs la hR hS h
  exact lv_goto F.1 F.2.1 hc ht (k F H locs la hR hS h)
theorem wt_lookup {dflt : Int} {ps : Array (Int × Int)} {len : Nat} {x : Int32} {off : Int} {tgt : Nat} (hc : decode J.2.1 pc = .ok (.lookupswitch dflt ps, len)) (hp : (ps.toList.zip (ps.toList.drop 1)).all (fun (a, next) => a.1 < next.1) = true) (ho : Op.lookupswitch.offset ps.toList dflt x.toInt = off) (ht : (pc : Int) + off = (tgt : Int)) (k : Wt G X J B tgt ls st M u w) : Wt G X J B pc ls (.int x :: st) M u w := by
  obtain ⟨p, l, e, R, s, m, args, below, meth, c, Q⟩ := X
  intro F H locs la hR hS h
  exact lv_lookup F.1 F.2.1 hc hp ho ht (k F H locs la hR hS h)
theorem wt_tableIn {dflt lo hi : Int} {offs : Array Int} {len : Nat} {x v : Int32} {off : Int} {tgt : Nat} (hx : x = v) (hc : decode J.2.1 pc = .ok (.tableswitch dflt lo hi offs, len)) (h1 : ¬ v.toInt < lo) (h2 : ¬ hi < v.toInt) (ho : offs[(v.toInt - lo).toNat]? = some off) (ht : (pc : Int) + off = (tgt : Int)) (k : Wt G X J B tgt ls st M u w) : Wt G X J B pc ls (.int x :: st) M u w := by
  subst hx
  obtain ⟨p, l, e, R, s, m, args, below, meth, c, Q⟩ := X
  intro F H locs la hR hS h
  exact lv_tableIn F.1 F.2.1 hc h1 h2 ho ht (k F H locs la hR hS h)
theorem wt_tableOut {dflt lo hi : Int} {offs : Array Int} {len : Nat} {x : Int32} {tgt : Nat} (hc : decode J.2.1 pc = .ok (.tableswitch dflt lo hi offs, len)) (hx : x.toInt < lo ∨ hi < x.toInt) (ht : (pc : Int) + dflt = (tgt : Int)) (k : Wt G X J B tgt ls st M u w) : Wt G X J B pc ls (.int x :: st) M u w := by
  obtain ⟨p, l, e, R, s, m, args, below, meth, c, Q⟩ := X
  intro F H locs la hR hS h
  exact lv_tableOut F.1 F.2.1 hc hx ht (k F H locs la hR hS h)
end WtA
theorem ite_t {α : Type} {c : Prop} [Decidable c] {A B r : α} (q : c) (h : (if c then A else B) = r) : A = r := by rw [if_pos q] at h; exact h
theorem ite_f {α : Type} {c : Prop} [Decidable c] {A B r : α} (q : ¬ c) (h : (if c then A else B) = r) : B = r := by rw [if_neg q] at h; exact h
/-- no case of a table from lo on: outside -/
theorem ts_out {x : Int32} (lo : Int) (n : Nat) (h : ∀ i : Nat, i < n → ¬ x.toInt = lo + i) : x.toInt < lo ∨ lo + n - 1 < x.toInt := by
  rcases Int.lt_or_le x.toInt lo with q | q
  · exact Or.inl q
  · right
    have h1 := h (x.toInt - lo).toNat
    omega
theorem ts_ne {x v : Int32} {z : Int} (hz : v.toInt = z) (h : ¬ x = v) : ¬ x.toInt = z := fun e => h (Int32.toInt_inj.mp (by rw [e, hz]))
