/-! ===== a run of a method from a frame to its end, over abstract heaps ===== -/
def rt_C (X : ah_X) (y : MethodName) (cc : ByteArray) (nL d : Nat) (p : Program) (R : Room) (s : State) (m : MethodId) (args : Array Value) (meth : Method) (c : Code) : Prop :=
  p.tables.exec = Jvm.exec ∧ c.code = cc ∧ c.maxLocals = nL ∧ s.vm.findClass y.cls = some m.cls ∧ (∀ w ∈ gw_t, w.before args s = true) ∧ meth.name = y.name ∧ ah_K X s ∧ d ≤ R.frames ∧ 40 * d ≤ R.locals ∧ X.2.2.1.size ≤ s.heap.size ∧ (∀ q : Nat, q < X.2.2.1.size → s.heap[q]? = X.2.2.1[q]?)
def rt_at (cc : ByteArray) (pc : Nat) (r : Option Value) : Prop := match r with
  | none => decode cc pc = .ok (.return_, 1)
  | some (.int _) => decode cc pc = .ok (.ireturn, 1)
  | some (.long _) => decode cc pc = .ok (.lreturn, 1)
  | some .null => decode cc pc = .ok (.areturn, 1)
  | some (.ref _) => decode cc pc = .ok (.areturn, 1)
  | _ => False
/-- from pc, with these locals and this stack, over h, the method y returns r, and the heap is h2 -/
def Rt (X : ah_X) (y : MethodName) (cc : ByteArray) (nL d pc : Nat) (l : List (Nat × Value)) (st : List Value) (h : ah_H) (r : Option Value) (h2 : ah_H) : Prop :=
  h.1 ≤ h2.1 ∧ h.2.1 ≤ h2.2.1 ∧
  ∀ {p : Program} {la : Launch} {e : Env} {R : Room} {s : State} {m : MethodId} {args : Array Value} {below : List Frame} {meth : Method} {c : Code} {Q : State → Prop} (c0 z0 : Nat) (H : Heap) (locs : List Loc) (ls : Array Slot),
    rt_C X y cc nL d p R s m args meth c →
    (∀ (pc' : Nat) (H' : Heap) (locs' : List Loc) (ls' : Array Slot), rt_at cc pc' r → ah_R X h2 H' → va_S (ah_A X) s.heap H' locs' → W p la e R s m args below meth c H' locs' (h2.1 - c0) (h2.2.1 - z0) Q (F0 m pc' ls' r.toList)) →
    ah_R X h H → va_S (ah_A X) s.heap H locs → lv_has ls nL l → c0 ≤ h.1 → z0 ≤ h.2.1 → h2.1 - c0 ≤ R.cells → h2.2.1 - z0 ≤ R.slots →
    W p la e R s m args below meth c H locs (h.1 - c0) (h.2.1 - z0) Q (F0 m pc ls st)
section RT
variable {X : ah_X} {y : MethodName} {cc : ByteArray} {nL d pc : Nat} {l : List (Nat × Value)} {st : List Value} {h h2 : ah_H} {r : Option Value}
theorem rt_ret (ha : rt_at cc pc r) (hs : r.toList = st) : Rt X y cc nL d pc l st h r h :=
  ⟨Nat.le_refl _, Nat.le_refl _, fun c0 z0 H locs ls C hr hR hS hl h1 h2 h3 h4 => hs ▸ hr pc H locs ls ha hR hS⟩

theorem rt_iconst {n : Int} {v : Int32} (hv : Int32.ofInt n = v) (hd : decode cc pc = .ok (.iconst n, 1)) (k : Rt X y cc nL d (pc + 1) l (.int v :: st) h r h2) : Rt X y cc nL d pc l (st) h r h2 :=
  ⟨k.1, k.2.1, fun c0 z0 H locs ls C hr hR hS hl h1 h2 h3 h4 => lv_iconst C.1 C.2.1 hd hv (k.2.2 c0 z0 H locs ls C hr hR hS hl h1 h2 h3 h4)⟩
theorem rt_bipush {n : Int} {v : Int32} (hv : (Int8.ofInt n).toInt32 = v) (hd : decode cc pc = .ok (.bipush n, 2)) (k : Rt X y cc nL d (pc + 2) l (.int v :: st) h r h2) : Rt X y cc nL d pc l (st) h r h2 :=
  ⟨k.1, k.2.1, fun c0 z0 H locs ls C hr hR hS hl h1 h2 h3 h4 => lv_bipush C.1 C.2.1 hd hv (k.2.2 c0 z0 H locs ls C hr hR hS hl h1 h2 h3 h4)⟩
theorem rt_sipush {n : Int} {v : Int32} (hv : (Int16.ofInt n).toInt32 = v) (hd : decode cc pc = .ok (.sipush n, 3)) (k : Rt X y cc nL d (pc + 3) l (.int v :: st) h r h2) : Rt X y cc nL d pc l (st) h r h2 :=
  ⟨k.1, k.2.1, fun c0 z0 H locs ls C hr hR hS hl h1 h2 h3 h4 => lv_sipush C.1 C.2.1 hd hv (k.2.2 c0 z0 H locs ls C hr hR hS hl h1 h2 h3 h4)⟩
theorem rt_lconst {n : Fin 2} {v : Int64} (hv : Int64.ofNat (n : Nat) = v) (hd : decode cc pc = .ok (.lconst n, 1)) (k : Rt X y cc nL d (pc + 1) l (.long v :: st) h r h2) : Rt X y cc nL d pc l (st) h r h2 :=
  ⟨k.1, k.2.1, fun c0 z0 H locs ls C hr hR hS hl h1 h2 h3 h4 => lv_lconst C.1 C.2.1 hd hv (k.2.2 c0 z0 H locs ls C hr hR hS hl h1 h2 h3 h4)⟩
theorem rt_null  (hd : decode cc pc = .ok (.aconst_null, 1)) (k : Rt X y cc nL d (pc + 1) l (va_rf none :: st) h r h2) : Rt X y cc nL d pc l (st) h r h2 :=
  ⟨k.1, k.2.1, fun c0 z0 H locs ls C hr hR hS hl h1 h2 h3 h4 => lv_null C.1 C.2.1 hd (k.2.2 c0 z0 H locs ls C hr hR hS hl h1 h2 h3 h4)⟩
theorem rt_ldc {idx : Nat} {v : Int32} (hw : Cond.constant y.cls idx v ∈ gw_t) (hd : decode cc pc = .ok (.ldc idx, 2)) (k : Rt X y cc nL d (pc + 2) l (.int v :: st) h r h2) : Rt X y cc nL d pc l (st) h r h2 :=
  ⟨k.1, k.2.1, fun c0 z0 H locs ls C hr hR hS hl h1 h2 h3 h4 => lv_ldc C.1 C.2.1 C.2.2.2.1 (C.2.2.2.2.1 _ hw) hd (k.2.2 c0 z0 H locs ls C hr hR hS hl h1 h2 h3 h4)⟩
theorem rt_ldc2 {idx : Nat} {v : Int64} (hw : Cond.constantLong y.cls idx v ∈ gw_t) (hd : decode cc pc = .ok (.ldc2_w idx, 3)) (k : Rt X y cc nL d (pc + 3) l (.long v :: st) h r h2) : Rt X y cc nL d pc l (st) h r h2 :=
  ⟨k.1, k.2.1, fun c0 z0 H locs ls C hr hR hS hl h1 h2 h3 h4 => lv_ldc2 C.1 C.2.1 C.2.2.2.1 (C.2.2.2.2.1 _ hw) hd (k.2.2 c0 z0 H locs ls C hr hR hS hl h1 h2 h3 h4)⟩
theorem rt_iload_n {k0 : Fin 4} {x : Int32} (q : Nat) (hq : l[q]? = some ((k0 : Nat), .int x)) (hd : decode cc pc = .ok (.iload_n k0, 1)) (k : Rt X y cc nL d (pc + 1) l (.int x :: st) h r h2) : Rt X y cc nL d pc l (st) h r h2 :=
  ⟨k.1, k.2.1, fun c0 z0 H locs ls C hr hR hS hl h1 h2 h3 h4 => lv_iload_n C.1 C.2.1 hd rfl (lv_at hl q hq) (k.2.2 c0 z0 H locs ls C hr hR hS hl h1 h2 h3 h4)⟩
theorem rt_iload {i : Nat} {x : Int32} (q : Nat) (hq : l[q]? = some (i, .int x)) (hd : decode cc pc = .ok (.iload i, 2)) (k : Rt X y cc nL d (pc + 2) l (.int x :: st) h r h2) : Rt X y cc nL d pc l (st) h r h2 :=
  ⟨k.1, k.2.1, fun c0 z0 H locs ls C hr hR hS hl h1 h2 h3 h4 => lv_iload C.1 C.2.1 hd (lv_at hl q hq) (k.2.2 c0 z0 H locs ls C hr hR hS hl h1 h2 h3 h4)⟩
theorem rt_lload_n {k0 : Fin 4} {x : Int64} (q : Nat) (hq : l[q]? = some ((k0 : Nat), .long x)) (hd : decode cc pc = .ok (.lload_n k0, 1)) (k : Rt X y cc nL d (pc + 1) l (.long x :: st) h r h2) : Rt X y cc nL d pc l (st) h r h2 :=
  ⟨k.1, k.2.1, fun c0 z0 H locs ls C hr hR hS hl h1 h2 h3 h4 => lv_lload_n C.1 C.2.1 hd rfl (lv_at hl q hq) (k.2.2 c0 z0 H locs ls C hr hR hS hl h1 h2 h3 h4)⟩
theorem rt_lload {i : Nat} {x : Int64} (q : Nat) (hq : l[q]? = some (i, .long x)) (hd : decode cc pc = .ok (.lload i, 2)) (k : Rt X y cc nL d (pc + 2) l (.long x :: st) h r h2) : Rt X y cc nL d pc l (st) h r h2 :=
  ⟨k.1, k.2.1, fun c0 z0 H locs ls C hr hR hS hl h1 h2 h3 h4 => lv_lload C.1 C.2.1 hd (lv_at hl q hq) (k.2.2 c0 z0 H locs ls C hr hR hS hl h1 h2 h3 h4)⟩
theorem rt_aload_n {k0 : Fin 4} {x : Option Nat} (q : Nat) (hq : l[q]? = some ((k0 : Nat), va_rf x)) (hd : decode cc pc = .ok (.aload_n k0, 1)) (k : Rt X y cc nL d (pc + 1) l (va_rf x :: st) h r h2) : Rt X y cc nL d pc l st h r h2 := by
  refine ⟨k.1, k.2.1, fun c0 z0 H locs ls C hr hR hS hl h1 h2 h3 h4 => ?_⟩
  have kk := (k.2.2 c0 z0 H locs ls C hr hR hS hl h1 h2 h3 h4)
  cases x with
  | none => exact lv_aload_nN C.1 C.2.1 hd rfl (lv_at hl q hq) kk
  | some a => exact lv_aload_n C.1 C.2.1 hd rfl (lv_at hl q hq) kk
theorem rt_aload {i : Nat} {x : Option Nat} (q : Nat) (hq : l[q]? = some (i, va_rf x)) (hd : decode cc pc = .ok (.aload i, 2)) (k : Rt X y cc nL d (pc + 2) l (va_rf x :: st) h r h2) : Rt X y cc nL d pc l st h r h2 := by
  refine ⟨k.1, k.2.1, fun c0 z0 H locs ls C hr hR hS hl h1 h2 h3 h4 => ?_⟩
  have kk := (k.2.2 c0 z0 H locs ls C hr hR hS hl h1 h2 h3 h4)
  cases x with
  | none => exact lv_aloadN C.1 C.2.1 hd (lv_at hl q hq) kk
  | some a => exact lv_aload C.1 C.2.1 hd (lv_at hl q hq) kk
theorem rt_istore_n {k0 : Fin 4} {x : Int32} {l2 : List (Nat × Value)} (hn : (k0 : Nat) < nL) (hl2 : ((k0 : Nat), .int x) :: l.filter (fun q => !(q.1 == (k0 : Nat)) && !(q.1 + 1 == (k0 : Nat) && q.2.category == 2)) = l2) (hd : decode cc pc = .ok (.istore_n k0, 1)) (k : Rt X y cc nL d (pc + 1) l2 st h r h2) : Rt X y cc nL d pc l (.int x :: st) h r h2 :=
  ⟨k.1, k.2.1, fun c0 z0 H locs ls C hr hR hS hl h1 h2 h3 h4 => lv_istore_n C.1 C.2.1 hd rfl hl hn hl2 (fun ls2 hl2 => (k.2.2 c0 z0 H locs ls2 C hr hR hS hl2 h1 h2 h3 h4))⟩
theorem rt_istore {i : Nat} {x : Int32} {l2 : List (Nat × Value)} (hn : i < nL) (hl2 : (i, .int x) :: l.filter (fun q => !(q.1 == i) && !(q.1 + 1 == i && q.2.category == 2)) = l2) (hd : decode cc pc = .ok (.istore i, 2)) (k : Rt X y cc nL d (pc + 2) l2 st h r h2) : Rt X y cc nL d pc l (.int x :: st) h r h2 :=
  ⟨k.1, k.2.1, fun c0 z0 H locs ls C hr hR hS hl h1 h2 h3 h4 => lv_istore C.1 C.2.1 hd hl hn hl2 (fun ls2 hl2 => (k.2.2 c0 z0 H locs ls2 C hr hR hS hl2 h1 h2 h3 h4))⟩
theorem rt_lstore_n {k0 : Fin 4} {x : Int64} {l2 : List (Nat × Value)} (hn : (k0 : Nat) + 1 < nL) (hl2 : ((k0 : Nat), .long x) :: l.filter (fun q => !(q.1 == (k0 : Nat)) && (!(q.1 == (k0 : Nat) + 1) && !(q.1 + 1 == (k0 : Nat) && q.2.category == 2))) = l2) (hd : decode cc pc = .ok (.lstore_n k0, 1)) (k : Rt X y cc nL d (pc + 1) l2 st h r h2) : Rt X y cc nL d pc l (.long x :: st) h r h2 :=
  ⟨k.1, k.2.1, fun c0 z0 H locs ls C hr hR hS hl h1 h2 h3 h4 => lv_lstore_n C.1 C.2.1 hd rfl hl hn hl2 (fun ls2 hl2 => (k.2.2 c0 z0 H locs ls2 C hr hR hS hl2 h1 h2 h3 h4))⟩
theorem rt_lstore {i : Nat} {x : Int64} {l2 : List (Nat × Value)} (hn : i + 1 < nL) (hl2 : (i, .long x) :: l.filter (fun q => !(q.1 == i) && (!(q.1 == i + 1) && !(q.1 + 1 == i && q.2.category == 2))) = l2) (hd : decode cc pc = .ok (.lstore i, 2)) (k : Rt X y cc nL d (pc + 2) l2 st h r h2) : Rt X y cc nL d pc l (.long x :: st) h r h2 :=
  ⟨k.1, k.2.1, fun c0 z0 H locs ls C hr hR hS hl h1 h2 h3 h4 => lv_lstore C.1 C.2.1 hd hl hn hl2 (fun ls2 hl2 => (k.2.2 c0 z0 H locs ls2 C hr hR hS hl2 h1 h2 h3 h4))⟩
theorem rt_astore_n {k0 : Fin 4} {x : Option Nat} {l2 : List (Nat × Value)} (hn : (k0 : Nat) < nL) (hl2 : ((k0 : Nat), va_rf x) :: l.filter (fun q => !(q.1 == (k0 : Nat)) && !(q.1 + 1 == (k0 : Nat) && q.2.category == 2)) = l2) (hd : decode cc pc = .ok (.astore_n k0, 1)) (k : Rt X y cc nL d (pc + 1) l2 st h r h2) : Rt X y cc nL d pc l (va_rf x :: st) h r h2 := by
  refine ⟨k.1, k.2.1, fun c0 z0 H locs ls C hr hR hS hl h1 h2 h3 h4 => ?_⟩
  cases x with
  | none => exact lv_astore_nN C.1 C.2.1 hd rfl hl hn hl2 (fun ls2 hl2 => (k.2.2 c0 z0 H locs ls2 C hr hR hS hl2 h1 h2 h3 h4))
  | some a => exact lv_astore_n C.1 C.2.1 hd rfl hl hn hl2 (fun ls2 hl2 => (k.2.2 c0 z0 H locs ls2 C hr hR hS hl2 h1 h2 h3 h4))
theorem rt_astore {i : Nat} {x : Option Nat} {l2 : List (Nat × Value)} (hn : i < nL) (hl2 : (i, va_rf x) :: l.filter (fun q => !(q.1 == i) && !(q.1 + 1 == i && q.2.category == 2)) = l2) (hd : decode cc pc = .ok (.astore i, 2)) (k : Rt X y cc nL d (pc + 2) l2 st h r h2) : Rt X y cc nL d pc l (va_rf x :: st) h r h2 := by
  refine ⟨k.1, k.2.1, fun c0 z0 H locs ls C hr hR hS hl h1 h2 h3 h4 => ?_⟩
  cases x with
  | none => exact lv_astoreN C.1 C.2.1 hd hl hn hl2 (fun ls2 hl2 => (k.2.2 c0 z0 H locs ls2 C hr hR hS hl2 h1 h2 h3 h4))
  | some a => exact lv_astore C.1 C.2.1 hd hl hn hl2 (fun ls2 hl2 => (k.2.2 c0 z0 H locs ls2 C hr hR hS hl2 h1 h2 h3 h4))
theorem rt_iinc {i : Nat} {n : Int} {x v : Int32} {l2 : List (Nat × Value)} (q : Nat) (hq : l[q]? = some (i, .int x)) (hv : x + Int32.ofInt n = v) (hn : i < nL) (hl2 : (i, .int v) :: l.filter (fun q => !(q.1 == i) && !(q.1 + 1 == i && q.2.category == 2)) = l2) (hd : decode cc pc = .ok (.iinc i n, 3)) (k : Rt X y cc nL d (pc + 3) l2 st h r h2) : Rt X y cc nL d pc l st h r h2 :=
  ⟨k.1, k.2.1, fun c0 z0 H locs ls C hr hR hS hl h1 h2 h3 h4 => lv_iinc C.1 C.2.1 hd hl hq hv hn hl2 (fun ls2 hl2 => (k.2.2 c0 z0 H locs ls2 C hr hR hS hl2 h1 h2 h3 h4))⟩
/-- the locals in another order, or fewer of them -/
theorem rt_locals {l2 : List (Nat × Value)} (hl2 : ∀ q ∈ l2, q ∈ l) (k : Rt X y cc nL d pc l2 st h r h2) : Rt X y cc nL d pc l st h r h2 :=
  ⟨k.1, k.2.1, fun c0 z0 H locs ls C hr hR hS hl h1 h2 h3 h4 => k.2.2 c0 z0 H locs ls C hr hR hS ⟨hl.1, hl.2.1, fun q hq => hl.2.2 q (hl2 q hq)⟩ h1 h2 h3 h4⟩
theorem rt_iadd {x z : Int32} (hd : decode cc pc = .ok (.iadd, 1)) (k : Rt X y cc nL d (pc + 1) l (.int (x + z) :: st) h r h2) : Rt X y cc nL d pc l (.int z :: .int x :: st) h r h2 :=
  ⟨k.1, k.2.1, fun c0 z0 H locs ls C hr hR hS hl h1 h2 h3 h4 => lv_iadd C.1 C.2.1 hd (k.2.2 c0 z0 H locs ls C hr hR hS hl h1 h2 h3 h4)⟩
theorem rt_isub {x z : Int32} (hd : decode cc pc = .ok (.isub, 1)) (k : Rt X y cc nL d (pc + 1) l (.int (x - z) :: st) h r h2) : Rt X y cc nL d pc l (.int z :: .int x :: st) h r h2 :=
  ⟨k.1, k.2.1, fun c0 z0 H locs ls C hr hR hS hl h1 h2 h3 h4 => lv_isub C.1 C.2.1 hd (k.2.2 c0 z0 H locs ls C hr hR hS hl h1 h2 h3 h4)⟩
theorem rt_imul {x z : Int32} (hd : decode cc pc = .ok (.imul, 1)) (k : Rt X y cc nL d (pc + 1) l (.int (x * z) :: st) h r h2) : Rt X y cc nL d pc l (.int z :: .int x :: st) h r h2 :=
  ⟨k.1, k.2.1, fun c0 z0 H locs ls C hr hR hS hl h1 h2 h3 h4 => lv_imul C.1 C.2.1 hd (k.2.2 c0 z0 H locs ls C hr hR hS hl h1 h2 h3 h4)⟩
theorem rt_iand {x z : Int32} (hd : decode cc pc = .ok (.iand, 1)) (k : Rt X y cc nL d (pc + 1) l (.int (x &&& z) :: st) h r h2) : Rt X y cc nL d pc l (.int z :: .int x :: st) h r h2 :=
  ⟨k.1, k.2.1, fun c0 z0 H locs ls C hr hR hS hl h1 h2 h3 h4 => lv_iand C.1 C.2.1 hd (k.2.2 c0 z0 H locs ls C hr hR hS hl h1 h2 h3 h4)⟩
theorem rt_ior {x z : Int32} (hd : decode cc pc = .ok (.ior, 1)) (k : Rt X y cc nL d (pc + 1) l (.int (x ||| z) :: st) h r h2) : Rt X y cc nL d pc l (.int z :: .int x :: st) h r h2 :=
  ⟨k.1, k.2.1, fun c0 z0 H locs ls C hr hR hS hl h1 h2 h3 h4 => lv_ior C.1 C.2.1 hd (k.2.2 c0 z0 H locs ls C hr hR hS hl h1 h2 h3 h4)⟩
theorem rt_ishl {x z : Int32} (hd : decode cc pc = .ok (.ishl, 1)) (k : Rt X y cc nL d (pc + 1) l (.int (x <<< (z &&& 31)) :: st) h r h2) : Rt X y cc nL d pc l (.int z :: .int x :: st) h r h2 :=
  ⟨k.1, k.2.1, fun c0 z0 H locs ls C hr hR hS hl h1 h2 h3 h4 => lv_ishl C.1 C.2.1 hd (k.2.2 c0 z0 H locs ls C hr hR hS hl h1 h2 h3 h4)⟩
theorem rt_ishr {x z : Int32} (hd : decode cc pc = .ok (.ishr, 1)) (k : Rt X y cc nL d (pc + 1) l (.int (x >>> (z &&& 31)) :: st) h r h2) : Rt X y cc nL d pc l (.int z :: .int x :: st) h r h2 :=
  ⟨k.1, k.2.1, fun c0 z0 H locs ls C hr hR hS hl h1 h2 h3 h4 => lv_ishr C.1 C.2.1 hd (k.2.2 c0 z0 H locs ls C hr hR hS hl h1 h2 h3 h4)⟩
theorem rt_idiv {x z : Int32} (hz : ¬ z = 0) (hd : decode cc pc = .ok (.idiv, 1)) (k : Rt X y cc nL d (pc + 1) l (.int (x / z) :: st) h r h2) : Rt X y cc nL d pc l (.int z :: .int x :: st) h r h2 :=
  ⟨k.1, k.2.1, fun c0 z0 H locs ls C hr hR hS hl h1 h2 h3 h4 => lv_idiv C.1 C.2.1 hd hz (k.2.2 c0 z0 H locs ls C hr hR hS hl h1 h2 h3 h4)⟩
theorem rt_irem {x z : Int32} (hz : ¬ z = 0) (hd : decode cc pc = .ok (.irem, 1)) (k : Rt X y cc nL d (pc + 1) l (.int (x - x / z * z) :: st) h r h2) : Rt X y cc nL d pc l (.int z :: .int x :: st) h r h2 :=
  ⟨k.1, k.2.1, fun c0 z0 H locs ls C hr hR hS hl h1 h2 h3 h4 => lv_irem C.1 C.2.1 hd hz (k.2.2 c0 z0 H locs ls C hr hR hS hl h1 h2 h3 h4)⟩
theorem rt_ladd {x z : Int64} (hd : decode cc pc = .ok (.ladd, 1)) (k : Rt X y cc nL d (pc + 1) l (.long (x + z) :: st) h r h2) : Rt X y cc nL d pc l (.long z :: .long x :: st) h r h2 :=
  ⟨k.1, k.2.1, fun c0 z0 H locs ls C hr hR hS hl h1 h2 h3 h4 => lv_ladd C.1 C.2.1 hd (k.2.2 c0 z0 H locs ls C hr hR hS hl h1 h2 h3 h4)⟩
theorem rt_lsub {x z : Int64} (hd : decode cc pc = .ok (.lsub, 1)) (k : Rt X y cc nL d (pc + 1) l (.long (x - z) :: st) h r h2) : Rt X y cc nL d pc l (.long z :: .long x :: st) h r h2 :=
  ⟨k.1, k.2.1, fun c0 z0 H locs ls C hr hR hS hl h1 h2 h3 h4 => lv_lsub C.1 C.2.1 hd (k.2.2 c0 z0 H locs ls C hr hR hS hl h1 h2 h3 h4)⟩
theorem rt_land {x z : Int64} (hd : decode cc pc = .ok (.land, 1)) (k : Rt X y cc nL d (pc + 1) l (.long (x &&& z) :: st) h r h2) : Rt X y cc nL d pc l (.long z :: .long x :: st) h r h2 :=
  ⟨k.1, k.2.1, fun c0 z0 H locs ls C hr hR hS hl h1 h2 h3 h4 => lv_land C.1 C.2.1 hd (k.2.2 c0 z0 H locs ls C hr hR hS hl h1 h2 h3 h4)⟩
theorem rt_lor {x z : Int64} (hd : decode cc pc = .ok (.lor, 1)) (k : Rt X y cc nL d (pc + 1) l (.long (x ||| z) :: st) h r h2) : Rt X y cc nL d pc l (.long z :: .long x :: st) h r h2 :=
  ⟨k.1, k.2.1, fun c0 z0 H locs ls C hr hR hS hl h1 h2 h3 h4 => lv_lor C.1 C.2.1 hd (k.2.2 c0 z0 H locs ls C hr hR hS hl h1 h2 h3 h4)⟩
theorem rt_lshl {x : Int64} {z : Int32} (hd : decode cc pc = .ok (.lshl, 1)) (k : Rt X y cc nL d (pc + 1) l (.long (x <<< (z.toInt64 &&& 63)) :: st) h r h2) : Rt X y cc nL d pc l (.int z :: .long x :: st) h r h2 :=
  ⟨k.1, k.2.1, fun c0 z0 H locs ls C hr hR hS hl h1 h2 h3 h4 => lv_lshl C.1 C.2.1 hd rfl (k.2.2 c0 z0 H locs ls C hr hR hS hl h1 h2 h3 h4)⟩
theorem rt_lshr {x : Int64} {z : Int32} (hd : decode cc pc = .ok (.lshr, 1)) (k : Rt X y cc nL d (pc + 1) l (.long (x >>> (z.toInt64 &&& 63)) :: st) h r h2) : Rt X y cc nL d pc l (.int z :: .long x :: st) h r h2 :=
  ⟨k.1, k.2.1, fun c0 z0 H locs ls C hr hR hS hl h1 h2 h3 h4 => lv_lshr C.1 C.2.1 hd rfl (k.2.2 c0 z0 H locs ls C hr hR hS hl h1 h2 h3 h4)⟩
theorem rt_lushr {x : Int64} {z : Int32} (hd : decode cc pc = .ok (.lushr, 1)) (k : Rt X y cc nL d (pc + 1) l (.long ((x.toUInt64 >>> (z.toInt64.toUInt64 &&& Int64.toUInt64 63)).toInt64) :: st) h r h2) : Rt X y cc nL d pc l (.int z :: .long x :: st) h r h2 :=
  ⟨k.1, k.2.1, fun c0 z0 H locs ls C hr hR hS hl h1 h2 h3 h4 => lv_lushr C.1 C.2.1 hd rfl (k.2.2 c0 z0 H locs ls C hr hR hS hl h1 h2 h3 h4)⟩
theorem rt_i2l {x : Int32} (hd : decode cc pc = .ok (.i2l, 1)) (k : Rt X y cc nL d (pc + 1) l (.long x.toInt64 :: st) h r h2) : Rt X y cc nL d pc l (.int x :: st) h r h2 :=
  ⟨k.1, k.2.1, fun c0 z0 H locs ls C hr hR hS hl h1 h2 h3 h4 => lv_i2l C.1 C.2.1 hd rfl (k.2.2 c0 z0 H locs ls C hr hR hS hl h1 h2 h3 h4)⟩
theorem rt_l2i {x : Int64} (hd : decode cc pc = .ok (.l2i, 1)) (k : Rt X y cc nL d (pc + 1) l (.int x.toInt32 :: st) h r h2) : Rt X y cc nL d pc l (.long x :: st) h r h2 :=
  ⟨k.1, k.2.1, fun c0 z0 H locs ls C hr hR hS hl h1 h2 h3 h4 => lv_l2i C.1 C.2.1 hd rfl (k.2.2 c0 z0 H locs ls C hr hR hS hl h1 h2 h3 h4)⟩
theorem rt_i2b {x : Int32} (hd : decode cc pc = .ok (.i2b, 1)) (k : Rt X y cc nL d (pc + 1) l (.int x.toInt8.toInt32 :: st) h r h2) : Rt X y cc nL d pc l (.int x :: st) h r h2 :=
  ⟨k.1, k.2.1, fun c0 z0 H locs ls C hr hR hS hl h1 h2 h3 h4 => lv_i2b C.1 C.2.1 hd rfl (k.2.2 c0 z0 H locs ls C hr hR hS hl h1 h2 h3 h4)⟩
theorem rt_lcmp {x z : Int64} (hd : decode cc pc = .ok (.lcmp, 1)) (k : Rt X y cc nL d (pc + 1) l (.int (lg_cmp x z) :: st) h r h2) : Rt X y cc nL d pc l (.long z :: .long x :: st) h r h2 :=
  ⟨k.1, k.2.1, fun c0 z0 H locs ls C hr hR hS hl h1 h2 h3 h4 => W.lcmp C.1 C.2.1 hd (k.2.2 c0 z0 H locs ls C hr hR hS hl h1 h2 h3 h4)⟩
theorem rt_dup {v : Value} (hv : v.category = 1) (hd : decode cc pc = .ok (.dup, 1)) (k : Rt X y cc nL d (pc + 1) l (v :: v :: st) h r h2) : Rt X y cc nL d pc l (v :: st) h r h2 :=
  ⟨k.1, k.2.1, fun c0 z0 H locs ls C hr hR hS hl h1 h2 h3 h4 => lv_dup C.1 C.2.1 hd hv (k.2.2 c0 z0 H locs ls C hr hR hS hl h1 h2 h3 h4)⟩
theorem rt_pop {v : Value} (hv : v.category = 1) (hd : decode cc pc = .ok (.pop, 1)) (k : Rt X y cc nL d (pc + 1) l (st) h r h2) : Rt X y cc nL d pc l (v :: st) h r h2 :=
  ⟨k.1, k.2.1, fun c0 z0 H locs ls C hr hR hS hl h1 h2 h3 h4 => lv_pop C.1 C.2.1 hd hv (k.2.2 c0 z0 H locs ls C hr hR hS hl h1 h2 h3 h4)⟩
theorem rt_dup_x1 {v w : Value} (hv : v.category = 1) (hw : w.category = 1) (hd : decode cc pc = .ok (.dup_x1, 1)) (k : Rt X y cc nL d (pc + 1) l (v :: w :: v :: st) h r h2) : Rt X y cc nL d pc l (v :: w :: st) h r h2 :=
  ⟨k.1, k.2.1, fun c0 z0 H locs ls C hr hR hS hl h1 h2 h3 h4 => lv_dup_x1 C.1 C.2.1 hd hv hw (k.2.2 c0 z0 H locs ls C hr hR hS hl h1 h2 h3 h4)⟩
theorem rt_dup2 {v w : Value} (hv : v.category = 1) (hw : w.category = 1) (hd : decode cc pc = .ok (.dup2, 1)) (k : Rt X y cc nL d (pc + 1) l (v :: w :: v :: w :: st) h r h2) : Rt X y cc nL d pc l (v :: w :: st) h r h2 :=
  ⟨k.1, k.2.1, fun c0 z0 H locs ls C hr hR hS hl h1 h2 h3 h4 => lv_dup2_11 C.1 C.2.1 hd hv hw (k.2.2 c0 z0 H locs ls C hr hR hS hl h1 h2 h3 h4)⟩
theorem rt_cat (x : Option Nat) : (va_rf x).category = 1 := by cases x <;> rfl
theorem rt_if_eq {x : Int32} {off : Int} {tgt : Nat} (ht : (pc : Int) + off = (tgt : Int)) (hd : decode cc pc = .ok (.ifCond .eq off, 3)) (c1 : h.1 ≤ h2.1 ∧ h.2.1 ≤ h2.2.1) (kt : x = 0 → Rt X y cc nL d tgt l st h r h2) (kf : ¬ x = 0 → Rt X y cc nL d (pc + 3) l st h r h2) : Rt X y cc nL d pc l (.int x :: st) h r h2 :=
  ⟨c1.1, c1.2, fun c0 z0 H locs ls C hr hR hS hl h1 h2 h3 h4 => lv_if_eq C.1 C.2.1 hd ht (fun q => (kt q).2.2 c0 z0 H locs ls C hr hR hS hl h1 h2 h3 h4) (fun q => (kf q).2.2 c0 z0 H locs ls C hr hR hS hl h1 h2 h3 h4)⟩
theorem rt_icmp_eq {x z : Int32} {off : Int} {tgt : Nat} (ht : (pc : Int) + off = (tgt : Int)) (hd : decode cc pc = .ok (.if_icmp .eq off, 3)) (c1 : h.1 ≤ h2.1 ∧ h.2.1 ≤ h2.2.1) (kt : x = z → Rt X y cc nL d tgt l st h r h2) (kf : ¬ x = z → Rt X y cc nL d (pc + 3) l st h r h2) : Rt X y cc nL d pc l (.int z :: .int x :: st) h r h2 :=
  ⟨c1.1, c1.2, fun c0 z0 H locs ls C hr hR hS hl h1 h2 h3 h4 => lv_icmp_eq C.1 C.2.1 hd ht (fun q => (kt q).2.2 c0 z0 H locs ls C hr hR hS hl h1 h2 h3 h4) (fun q => (kf q).2.2 c0 z0 H locs ls C hr hR hS hl h1 h2 h3 h4)⟩
theorem rt_if_ne {x : Int32} {off : Int} {tgt : Nat} (ht : (pc : Int) + off = (tgt : Int)) (hd : decode cc pc = .ok (.ifCond .ne off, 3)) (c1 : h.1 ≤ h2.1 ∧ h.2.1 ≤ h2.2.1) (kt : ¬ x = 0 → Rt X y cc nL d tgt l st h r h2) (kf : x = 0 → Rt X y cc nL d (pc + 3) l st h r h2) : Rt X y cc nL d pc l (.int x :: st) h r h2 :=
  ⟨c1.1, c1.2, fun c0 z0 H locs ls C hr hR hS hl h1 h2 h3 h4 => lv_if_ne C.1 C.2.1 hd ht (fun q => (kt q).2.2 c0 z0 H locs ls C hr hR hS hl h1 h2 h3 h4) (fun q => (kf q).2.2 c0 z0 H locs ls C hr hR hS hl h1 h2 h3 h4)⟩
theorem rt_icmp_ne {x z : Int32} {off : Int} {tgt : Nat} (ht : (pc : Int) + off = (tgt : Int)) (hd : decode cc pc = .ok (.if_icmp .ne off, 3)) (c1 : h.1 ≤ h2.1 ∧ h.2.1 ≤ h2.2.1) (kt : ¬ x = z → Rt X y cc nL d tgt l st h r h2) (kf : x = z → Rt X y cc nL d (pc + 3) l st h r h2) : Rt X y cc nL d pc l (.int z :: .int x :: st) h r h2 :=
  ⟨c1.1, c1.2, fun c0 z0 H locs ls C hr hR hS hl h1 h2 h3 h4 => lv_icmp_ne C.1 C.2.1 hd ht (fun q => (kt q).2.2 c0 z0 H locs ls C hr hR hS hl h1 h2 h3 h4) (fun q => (kf q).2.2 c0 z0 H locs ls C hr hR hS hl h1 h2 h3 h4)⟩
theorem rt_if_lt {x : Int32} {off : Int} {tgt : Nat} (ht : (pc : Int) + off = (tgt : Int)) (hd : decode cc pc = .ok (.ifCond .lt off, 3)) (c1 : h.1 ≤ h2.1 ∧ h.2.1 ≤ h2.2.1) (kt : x < 0 → Rt X y cc nL d tgt l st h r h2) (kf : ¬ x < 0 → Rt X y cc nL d (pc + 3) l st h r h2) : Rt X y cc nL d pc l (.int x :: st) h r h2 :=
  ⟨c1.1, c1.2, fun c0 z0 H locs ls C hr hR hS hl h1 h2 h3 h4 => lv_if_lt C.1 C.2.1 hd ht (fun q => (kt q).2.2 c0 z0 H locs ls C hr hR hS hl h1 h2 h3 h4) (fun q => (kf q).2.2 c0 z0 H locs ls C hr hR hS hl h1 h2 h3 h4)⟩
theorem rt_icmp_lt {x z : Int32} {off : Int} {tgt : Nat} (ht : (pc : Int) + off = (tgt : Int)) (hd : decode cc pc = .ok (.if_icmp .lt off, 3)) (c1 : h.1 ≤ h2.1 ∧ h.2.1 ≤ h2.2.1) (kt : x < z → Rt X y cc nL d tgt l st h r h2) (kf : ¬ x < z → Rt X y cc nL d (pc + 3) l st h r h2) : Rt X y cc nL d pc l (.int z :: .int x :: st) h r h2 :=
  ⟨c1.1, c1.2, fun c0 z0 H locs ls C hr hR hS hl h1 h2 h3 h4 => lv_icmp_lt C.1 C.2.1 hd ht (fun q => (kt q).2.2 c0 z0 H locs ls C hr hR hS hl h1 h2 h3 h4) (fun q => (kf q).2.2 c0 z0 H locs ls C hr hR hS hl h1 h2 h3 h4)⟩
theorem rt_if_ge {x : Int32} {off : Int} {tgt : Nat} (ht : (pc : Int) + off = (tgt : Int)) (hd : decode cc pc = .ok (.ifCond .ge off, 3)) (c1 : h.1 ≤ h2.1 ∧ h.2.1 ≤ h2.2.1) (kt : 0 ≤ x → Rt X y cc nL d tgt l st h r h2) (kf : ¬ 0 ≤ x → Rt X y cc nL d (pc + 3) l st h r h2) : Rt X y cc nL d pc l (.int x :: st) h r h2 :=
  ⟨c1.1, c1.2, fun c0 z0 H locs ls C hr hR hS hl h1 h2 h3 h4 => lv_if_ge C.1 C.2.1 hd ht (fun q => (kt q).2.2 c0 z0 H locs ls C hr hR hS hl h1 h2 h3 h4) (fun q => (kf q).2.2 c0 z0 H locs ls C hr hR hS hl h1 h2 h3 h4)⟩
theorem rt_icmp_ge {x z : Int32} {off : Int} {tgt : Nat} (ht : (pc : Int) + off = (tgt : Int)) (hd : decode cc pc = .ok (.if_icmp .ge off, 3)) (c1 : h.1 ≤ h2.1 ∧ h.2.1 ≤ h2.2.1) (kt : z ≤ x → Rt X y cc nL d tgt l st h r h2) (kf : ¬ z ≤ x → Rt X y cc nL d (pc + 3) l st h r h2) : Rt X y cc nL d pc l (.int z :: .int x :: st) h r h2 :=
  ⟨c1.1, c1.2, fun c0 z0 H locs ls C hr hR hS hl h1 h2 h3 h4 => lv_icmp_ge C.1 C.2.1 hd ht (fun q => (kt q).2.2 c0 z0 H locs ls C hr hR hS hl h1 h2 h3 h4) (fun q => (kf q).2.2 c0 z0 H locs ls C hr hR hS hl h1 h2 h3 h4)⟩
theorem rt_if_gt {x : Int32} {off : Int} {tgt : Nat} (ht : (pc : Int) + off = (tgt : Int)) (hd : decode cc pc = .ok (.ifCond .gt off, 3)) (c1 : h.1 ≤ h2.1 ∧ h.2.1 ≤ h2.2.1) (kt : 0 < x → Rt X y cc nL d tgt l st h r h2) (kf : ¬ 0 < x → Rt X y cc nL d (pc + 3) l st h r h2) : Rt X y cc nL d pc l (.int x :: st) h r h2 :=
  ⟨c1.1, c1.2, fun c0 z0 H locs ls C hr hR hS hl h1 h2 h3 h4 => lv_if_gt C.1 C.2.1 hd ht (fun q => (kt q).2.2 c0 z0 H locs ls C hr hR hS hl h1 h2 h3 h4) (fun q => (kf q).2.2 c0 z0 H locs ls C hr hR hS hl h1 h2 h3 h4)⟩
theorem rt_icmp_gt {x z : Int32} {off : Int} {tgt : Nat} (ht : (pc : Int) + off = (tgt : Int)) (hd : decode cc pc = .ok (.if_icmp .gt off, 3)) (c1 : h.1 ≤ h2.1 ∧ h.2.1 ≤ h2.2.1) (kt : z < x → Rt X y cc nL d tgt l st h r h2) (kf : ¬ z < x → Rt X y cc nL d (pc + 3) l st h r h2) : Rt X y cc nL d pc l (.int z :: .int x :: st) h r h2 :=
  ⟨c1.1, c1.2, fun c0 z0 H locs ls C hr hR hS hl h1 h2 h3 h4 => lv_icmp_gt C.1 C.2.1 hd ht (fun q => (kt q).2.2 c0 z0 H locs ls C hr hR hS hl h1 h2 h3 h4) (fun q => (kf q).2.2 c0 z0 H locs ls C hr hR hS hl h1 h2 h3 h4)⟩
theorem rt_if_le {x : Int32} {off : Int} {tgt : Nat} (ht : (pc : Int) + off = (tgt : Int)) (hd : decode cc pc = .ok (.ifCond .le off, 3)) (c1 : h.1 ≤ h2.1 ∧ h.2.1 ≤ h2.2.1) (kt : x ≤ 0 → Rt X y cc nL d tgt l st h r h2) (kf : ¬ x ≤ 0 → Rt X y cc nL d (pc + 3) l st h r h2) : Rt X y cc nL d pc l (.int x :: st) h r h2 :=
  ⟨c1.1, c1.2, fun c0 z0 H locs ls C hr hR hS hl h1 h2 h3 h4 => lv_if_le C.1 C.2.1 hd ht (fun q => (kt q).2.2 c0 z0 H locs ls C hr hR hS hl h1 h2 h3 h4) (fun q => (kf q).2.2 c0 z0 H locs ls C hr hR hS hl h1 h2 h3 h4)⟩
theorem rt_icmp_le {x z : Int32} {off : Int} {tgt : Nat} (ht : (pc : Int) + off = (tgt : Int)) (hd : decode cc pc = .ok (.if_icmp .le off, 3)) (c1 : h.1 ≤ h2.1 ∧ h.2.1 ≤ h2.2.1) (kt : x ≤ z → Rt X y cc nL d tgt l st h r h2) (kf : ¬ x ≤ z → Rt X y cc nL d (pc + 3) l st h r h2) : Rt X y cc nL d pc l (.int z :: .int x :: st) h r h2 :=
  ⟨c1.1, c1.2, fun c0 z0 H locs ls C hr hR hS hl h1 h2 h3 h4 => lv_icmp_le C.1 C.2.1 hd ht (fun q => (kt q).2.2 c0 z0 H locs ls C hr hR hS hl h1 h2 h3 h4) (fun q => (kf q).2.2 c0 z0 H locs ls C hr hR hS hl h1 h2 h3 h4)⟩
theorem rt_acmp_eq {x z : Option Nat} {off : Int} {tgt : Nat} (ht : (pc : Int) + off = (tgt : Int)) (hd : decode cc pc = .ok (.if_acmp .eq off, 3)) (c1 : h.1 ≤ h2.1 ∧ h.2.1 ≤ h2.2.1) (kt : x = z → Rt X y cc nL d tgt l st h r h2) (kf : ¬ x = z → Rt X y cc nL d (pc + 3) l st h r h2) : Rt X y cc nL d pc l (va_rf z :: va_rf x :: st) h r h2 :=
  ⟨c1.1, c1.2, fun c0 z0 H locs ls C hr hR hS hl h1 h2 h3 h4 => lv_acmp_eq C.1 C.2.1 hd ht (fun q => (kt q).2.2 c0 z0 H locs ls C hr hR hS hl h1 h2 h3 h4) (fun q => (kf q).2.2 c0 z0 H locs ls C hr hR hS hl h1 h2 h3 h4)⟩
theorem rt_acmp_ne {x z : Option Nat} {off : Int} {tgt : Nat} (ht : (pc : Int) + off = (tgt : Int)) (hd : decode cc pc = .ok (.if_acmp .ne off, 3)) (c1 : h.1 ≤ h2.1 ∧ h.2.1 ≤ h2.2.1) (kt : ¬ x = z → Rt X y cc nL d tgt l st h r h2) (kf : x = z → Rt X y cc nL d (pc + 3) l st h r h2) : Rt X y cc nL d pc l (va_rf z :: va_rf x :: st) h r h2 :=
  ⟨c1.1, c1.2, fun c0 z0 H locs ls C hr hR hS hl h1 h2 h3 h4 => lv_acmp_ne C.1 C.2.1 hd ht (fun q => (kt q).2.2 c0 z0 H locs ls C hr hR hS hl h1 h2 h3 h4) (fun q => (kf q).2.2 c0 z0 H locs ls C hr hR hS hl h1 h2 h3 h4)⟩
theorem rt_goto {off : Int} {tgt : Nat} (ht : (pc : Int) + off = (tgt : Int)) (hd : decode cc pc = .ok (.goto off, 3)) (k : Rt X y cc nL d tgt l st h r h2) : Rt X y cc nL d pc l st h r h2 :=
  ⟨k.1, k.2.1, fun c0 z0 H locs ls C hr hR hS hl h1 h2 h3 h4 => lv_goto C.1 C.2.1 hd ht (k.2.2 c0 z0 H locs ls C hr hR hS hl h1 h2 h3 h4)⟩
theorem rt_ifnull {x : Option Nat} {off : Int} {tgt : Nat} (ht : (pc : Int) + off = (tgt : Int)) (hd : decode cc pc = .ok (.ifnull off, 3)) (c1 : h.1 ≤ h2.1 ∧ h.2.1 ≤ h2.2.1) (kt : x = none → Rt X y cc nL d tgt l st h r h2) (kf : ¬ x = none → Rt X y cc nL d (pc + 3) l st h r h2) : Rt X y cc nL d pc l (va_rf x :: st) h r h2 := by
  refine ⟨c1.1, c1.2, fun c0 z0 H locs ls C hr hR hS hl h1 h2 h3 h4 => ?_⟩
  cases x with
  | none => exact lv_ifnullN C.1 C.2.1 hd ht ((kt rfl).2.2 c0 z0 H locs ls C hr hR hS hl h1 h2 h3 h4)
  | some a => exact lv_ifnull C.1 C.2.1 hd ((kf (fun q => by cases q)).2.2 c0 z0 H locs ls C hr hR hS hl h1 h2 h3 h4)
theorem rt_ifnonnull {x : Option Nat} {off : Int} {tgt : Nat} (ht : (pc : Int) + off = (tgt : Int)) (hd : decode cc pc = .ok (.ifnonnull off, 3)) (c1 : h.1 ≤ h2.1 ∧ h.2.1 ≤ h2.2.1) (kt : ¬ x = none → Rt X y cc nL d tgt l st h r h2) (kf : x = none → Rt X y cc nL d (pc + 3) l st h r h2) : Rt X y cc nL d pc l (va_rf x :: st) h r h2 := by
  refine ⟨c1.1, c1.2, fun c0 z0 H locs ls C hr hR hS hl h1 h2 h3 h4 => ?_⟩
  cases x with
  | none => exact lv_ifnonnullN C.1 C.2.1 hd ((kf rfl).2.2 c0 z0 H locs ls C hr hR hS hl h1 h2 h3 h4)
  | some a => exact lv_ifnonnull C.1 C.2.1 hd ht ((kt (fun q => by cases q)).2.2 c0 z0 H locs ls C hr hR hS hl h1 h2 h3 h4)
theorem rt_tableOut {dflt lo hi : Int} {offs : Array Int} {len : Nat} {x : Int32} {tgt : Nat} (ht : (pc : Int) + dflt = (tgt : Int)) (hd : decode cc pc = .ok (.tableswitch dflt lo hi offs, len)) (hx : x.toInt < lo ∨ hi < x.toInt) (k : Rt X y cc nL d tgt l st h r h2) : Rt X y cc nL d pc l (.int x :: st) h r h2 :=
  ⟨k.1, k.2.1, fun c0 z0 H locs ls C hr hR hS hl h1 h2 h3 h4 => lv_tableOut C.1 C.2.1 hd hx ht (k.2.2 c0 z0 H locs ls C hr hR hS hl h1 h2 h3 h4)⟩
theorem rt_tableIn {dflt lo hi : Int} {offs : Array Int} {len : Nat} {x : Int32} {off : Int} {tgt : Nat} (hd : decode cc pc = .ok (.tableswitch dflt lo hi offs, len)) (hx1 : ¬ x.toInt < lo) (hx2 : ¬ hi < x.toInt) (ho : offs[(x.toInt - lo).toNat]? = some off) (ht : (pc : Int) + off = (tgt : Int)) (k : Rt X y cc nL d tgt l st h r h2) : Rt X y cc nL d pc l (.int x :: st) h r h2 :=
  ⟨k.1, k.2.1, fun c0 z0 H locs ls C hr hR hS hl h1 h2 h3 h4 => lv_tableIn C.1 C.2.1 hd hx1 hx2 ho ht (k.2.2 c0 z0 H locs ls C hr hR hS hl h1 h2 h3 h4)⟩
end RT
