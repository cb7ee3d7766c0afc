/-! THE CLAIM OUT OF ONE WALK OF THE LAW'S BODY. Your part is whole_start (and what it stands on); all else here is the same for every law, but numbers. -/
def R_law : String := "LetterTreeLaw"
def lw_P (b : Addr) (xs : List Int32) (args : Array Value) (s : State) : Prop := args = #[.ref b] ∧ s.IntsAt b xs ∧ xs.length ≤ 2560 ∧ (Jvm.Cond.and given_1 narrow_1).before args s = true
def lw_Q (_ : Array Value) (s : State) (o : Outcome) (t : State) : Prop := o = .returned (some (.int 1)) ∧ Framed s o t [] 600000 7302250
def lw_Z (below : List Frame) (a : Array Value) (s : State) : State → Prop := fun t => ∃ o, t.status = .running ∧ Ended t below o ∧ lw_Q a s o t
/-- the law's own end, with 1 on the stack, nothing written that was there before, its room as the claim has it -/
theorem lw_ret {p : Program} {l : Launch} {e : Env} {s : State} {m : MethodId} {below : List Frame} {meth : Method} {c : Code} {b : Nat} (hx : p.tables.exec = Jvm.exec) (hb : c.code = code) (hr : meth.sig.returnType = ret) (hlocks : meth.locks = false) {pc : Nat} {H : Heap} {ls : Array Slot} (hdg : decode code pc = .ok (.ireturn, 1)) : W p l e room_1 s m #[Value.ref b] below meth c H [] 600000 7302250 (lw_Z below #[Value.ref b] s) (F0 m pc ls [.int 1]) := by
  intro T hT X
  obtain ⟨fs, hret, hrun, hended, hW, hframe⟩ := X.leave (v := some (.int 1)) (hlocks := hlocks) (fun h => by rw [hr] at h; cases h)
  have hmeth' : T.vm.method? m = some meth := X.method'
  refine ⟨T.setFrames fs, ?_, .returned (some (.int 1)), hrun, hended, rfl, ⟨_, rfl⟩, hW, hframe⟩
  jvm_step X.here [X.here.top, hx, hb, hdg, hmeth', hr, ret, narrow_b1]
  (try refine ⟨rfl, ?_⟩); (try refine ⟨rfl, ?_⟩)
  first | (intro acts; rw [hret _ acts rfl rfl rfl]) | rw [hret _ _ rfl rfl rfl]
  exact Steps.refl _
/-- what holds at the law's entry: the machine, the code, the tables' words (any of lw_tbl by 'hts w (by decide +kernel)'), the script of L ints xs at the cell b, what the Statement gives of the start (any of its parts by flat_of_before) -/
def lw_At (p : Program) (s : State) (m : MethodId) (meth : Method) (c : Code) (b L : Nat) (xs : Nat → Int32) : Prop :=
  p.tables.exec = Jvm.exec ∧ c.code = code ∧ meth.sig.returnType = ret ∧ c.maxLocals = 4 ∧ s.vm.findClass R_law = some m.cls ∧ (∀ w ∈ lw_tbl, w.before #[Value.ref b] s = true) ∧ va_X b L xs s s.heap ∧ b < s.heap.size ∧ meth.locks = false ∧ (Jvm.Cond.and given_1 narrow_1).before #[Value.ref b] s = true ∧ meth.name = "law"

theorem sa_byte : Cond.arrayClass .byte ∈ lw_tbl := in_1 _ (List.mem_of_getElem? (i := 44) (by decide +kernel))
theorem sa_boolean : Cond.arrayClass .boolean ∈ lw_tbl := in_6 _ (List.mem_of_getElem? (i := 94) (by decide +kernel))
theorem sa_int : Cond.arrayClass .int ∈ lw_tbl := in_1 _ (List.mem_of_getElem? (i := 76) (by decide +kernel))
theorem sa_long : Cond.arrayClass .long ∈ lw_tbl := in_6 _ (List.mem_of_getElem? (i := 93) (by decide +kernel))
theorem sa_obj : Cond.arrayOver (.object "java/lang/Object") ∈ lw_tbl := in_2 _ (List.mem_of_getElem? (i := 136) (by decide +kernel))
theorem sa_head : Cond.arrayOver (.object "LetterTree$Head") ∈ lw_tbl := in_1 _ (List.mem_of_getElem? (i := 52) (by decide +kernel))
theorem sa_ls0 : Cond.laysStatic "java/util/ArrayList" "DEFAULTCAPACITY_EMPTY_ELEMENTDATA" "[Ljava/lang/Object;" ∈ lw_tbl := in_1 _ (List.mem_of_getElem? (i := 107) (by decide +kernel))
theorem sa_ls1 : Cond.laysStatic "LetterTree" "NO_BYTES" "[B" ∈ lw_tbl := in_2 _ (List.mem_of_getElem? (i := 25) (by decide +kernel))
theorem sa_dc : Cond.declares ⟨"java/lang/Object", "getClass", "()Ljava/lang/Class;"⟩ ∈ lw_tbl := in_7 _ (List.mem_of_getElem? (i := 14) (by decide +kernel))
/-- the abstract heap at the law's start -/
def h0 (E : ah_E) (nx : Nat) : ah_H := (nx, 0, fun a => if a = E.1 then some ah_e4 else if a = E.2.1 then some ah_e0 else none)
/-- THE PURE STATEMENT: the law's function answers 1 on every script of at most 2560 ints, within the room -/
def lw_pure : Prop := ∀ (E : ah_E) (nx : Nat), E.2.2.2.2.1 ≤ 2560 → E.1 < nx → E.2.1 < nx → E.2.1 ≠ E.1 → ∃ h2 : ah_H, fL_law E (h0 E nx) = some (1, h2) ∧ h2.1 - nx ≤ 600000 ∧ h2.2.1 ≤ 7302250
theorem sa_prim {s : State} {b : Nat} {ty : FieldType} (h : (Cond.arrayClass ty).before #[Value.ref b] s = true) (hp : ∀ n, ty ≠ .object n) : ∃ cA : ClassId, ArrOfT s cA ty ∧ va_RA s cA ty := by
  obtain ⟨c, k, comp, h1, h2, h3⟩ := Cond.arrayClass_spec h
  refine ⟨c, fun n z => ⟨(fun k h => by cases h), k, h2, comp, h3⟩, ?_⟩
  cases ty <;> first | exact h1 | exact absurd rfl (hp _)
theorem sa_ref {s : State} {b : Nat} {C : String} (h : (Cond.arrayOver (.object C)).before #[Value.ref b] s = true) : ∃ cA : ClassId, ArrOfT s cA (.object C) ∧ va_RA s cA (.object C) := by
  obtain ⟨comp, c, k, h1, h2, h3, h4, h5⟩ := Cond.arrayOver_spec h
  exact ⟨c, fun n z => ⟨(fun k h => by cases h), k, h3, comp, h4⟩, k, comp, h3, h4, h1, h5⟩
theorem sa_cls {s : State} {b : Nat} (hts : ∀ w ∈ lw_tbl, w.before #[Value.ref b] s = true) : ∃ D : va_G, ∀ (k : Nat) (q : vw_C), vwCl[k]? = some q → u_Kn s q.1 q.2.1 q.2.2 (D.1 k) (D.2 k) := by
  have hk : ∀ k : Nat, ∃ p : ClassId × (Nat → Nat), ∀ q : vw_C, vwCl[k]? = some q → u_Kn s q.1 q.2.1 q.2.2 p.1 p.2 := by
    intro k
    match k with
    | 0 => exact (u_known (C := RJx4a65c) (T := TJx4a65c) (N := 3) (n := 3) hts (fun w h => gw_tbl (cl_0.2.1 w h)) (hts _ (gw_tbl wI_Jx4a65c))).elim (fun c h => h.elim (fun i h => ⟨(c, i), fun q e => by cases e; exact h⟩))
    | 1 => exact (u_known (C := RX0) (T := TX0) (N := 6) (n := 6) hts (fun w h => gw_tbl (cl_1.2.1 w h)) (hts _ (gw_tbl wI_X0))).elim (fun c h => h.elim (fun i h => ⟨(c, i), fun q e => by cases e; exact h⟩))
    | 2 => exact (u_known (C := RX1) (T := TX1) (N := 1) (n := 1) hts (fun w h => gw_tbl (cl_2.2.1 w h)) (hts _ (gw_tbl wI_X1))).elim (fun c h => h.elim (fun i h => ⟨(c, i), fun q e => by cases e; exact h⟩))
    | 3 => exact (u_known (C := RX2) (T := TX2) (N := 2) (n := 2) hts (fun w h => gw_tbl (cl_3.2.1 w h)) (hts _ (gw_tbl wI_X2))).elim (fun c h => h.elim (fun i h => ⟨(c, i), fun q e => by cases e; exact h⟩))
    | 4 => exact (u_known (C := RX3) (T := TX3) (N := 5) (n := 5) hts (fun w h => gw_tbl (cl_4.2.1 w h)) (hts _ (gw_tbl wI_X3))).elim (fun c h => h.elim (fun i h => ⟨(c, i), fun q e => by cases e; exact h⟩))
    | 5 => exact (u_known (C := RX4) (T := TX4) (N := 6) (n := 6) hts (fun w h => gw_tbl (cl_5.2.1 w h)) (hts _ (gw_tbl wI_X4))).elim (fun c h => h.elim (fun i h => ⟨(c, i), fun q e => by cases e; exact h⟩))
    | 6 => exact (u_known (C := RX5) (T := TX5) (N := 5) (n := 5) hts (fun w h => gw_tbl (cl_6.2.1 w h)) (hts _ (gw_tbl wI_X5))).elim (fun c h => h.elim (fun i h => ⟨(c, i), fun q e => by cases e; exact h⟩))
    | 7 => exact (u_known (C := RX6) (T := TX6) (N := 2) (n := 2) hts (fun w h => gw_tbl (cl_7.2.1 w h)) (hts _ (gw_tbl wI_X6))).elim (fun c h => h.elim (fun i h => ⟨(c, i), fun q e => by cases e; exact h⟩))
    | 8 => exact (u_known (C := RX7) (T := TX7) (N := 2) (n := 2) hts (fun w h => gw_tbl (cl_8.2.1 w h)) (hts _ (gw_tbl wI_X7))).elim (fun c h => h.elim (fun i h => ⟨(c, i), fun q e => by cases e; exact h⟩))
    | 9 => exact (u_known (C := RX8) (T := TX8) (N := 1) (n := 1) hts (fun w h => gw_tbl (cl_9.2.1 w h)) (hts _ (gw_tbl wI_X8))).elim (fun c h => h.elim (fun i h => ⟨(c, i), fun q e => by cases e; exact h⟩))
    | 10 => exact (u_known (C := RX9) (T := TX9) (N := 10) (n := 10) hts (fun w h => gw_tbl (cl_10.2.1 w h)) (hts _ (gw_tbl wI_X9))).elim (fun c h => h.elim (fun i h => ⟨(c, i), fun q e => by cases e; exact h⟩))
    | 11 => exact (u_known (C := RX10) (T := TX10) (N := 78) (n := 78) hts (fun w h => gw_tbl (cl_11.2.1 w h)) (hts _ (gw_tbl wI_X10))).elim (fun c h => h.elim (fun i h => ⟨(c, i), fun q e => by cases e; exact h⟩))
    | k + 12 => exact ⟨(0, fun _ => 0), fun q e => by simp [vwCl] at e⟩
  exact ⟨(fun k => (Classical.choose (hk k)).1, fun k => (Classical.choose (hk k)).2), fun k q e => Classical.choose_spec (hk k) q e⟩
theorem sa_arr {s : State} {b : Nat} (hts : ∀ w ∈ lw_tbl, w.before #[Value.ref b] s = true) : ∃ dA : Nat → ClassId, ∀ k, k < 6 → ArrOfT s (dA k) (ah_ty k) ∧ va_RA s (dA k) (ah_ty k) := by
  have hk : ∀ k : Nat, ∃ c : ClassId, k < 6 → ArrOfT s c (ah_ty k) ∧ va_RA s c (ah_ty k) := by
    intro k
    match k with
    | 0 => obtain ⟨c, h⟩ := sa_prim (hts _ sa_byte) (by intro n h; cases h); exact ⟨c, fun _ => h⟩
    | 1 => obtain ⟨c, h⟩ := sa_prim (hts _ sa_boolean) (by intro n h; cases h); exact ⟨c, fun _ => h⟩
    | 2 => obtain ⟨c, h⟩ := sa_prim (hts _ sa_int) (by intro n h; cases h); exact ⟨c, fun _ => h⟩
    | 3 => obtain ⟨c, h⟩ := sa_prim (hts _ sa_long) (by intro n h; cases h); exact ⟨c, fun _ => h⟩
    | 4 => obtain ⟨c, h⟩ := sa_ref (hts _ sa_obj); exact ⟨c, fun _ => h⟩
    | 5 => obtain ⟨c, h⟩ := sa_ref (hts _ sa_head); exact ⟨c, fun _ => h⟩
    | k + 6 => exact ⟨0, fun h => absurd h (by omega)⟩
  exact ⟨fun k => Classical.choose (hk k), fun k h => Classical.choose_spec (hk k) h⟩
