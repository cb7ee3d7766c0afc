/-! THE CLAIM OUT OF ONE WALK OF THE LAW'S BODY. Your part is whole_start (and what it stands on); all else here is the same for every law, but numbers. -/
def R_law : String := "LetterTreeLaw"
def lw_P (b : Addr) (xs : List Int32) (args : Array Value) (s : State) : Prop := args = #[.ref b] ∧ s.IntsAt b xs ∧ xs.length ≤ 5 ∧ (Jvm.Cond.and given_1 narrow_1).before args s = true
def lw_Q (_ : Array Value) (s : State) (o : Outcome) (t : State) : Prop := o = .returned (some (.int 1)) ∧ Framed s o t [] 600000 7302250
def lw_Z (below : List Frame) (a : Array Value) (s : State) : State → Prop := fun t => ∃ o, t.status = .running ∧ Ended t below o ∧ lw_Q a s o t
/-- the law's own end, with 1 on the stack, nothing written that was there before, its room as the claim has it -/
theorem lw_ret {p : Program} {l : Launch} {e : Env} {s : State} {m : MethodId} {below : List Frame} {meth : Method} {c : Code} {b : Nat} (hx : p.tables.exec = Jvm.exec) (hb : c.code = code) (hr : meth.sig.returnType = ret) (hlocks : meth.locks = false) {pc : Nat} {H : Heap} {ls : Array Slot} (hdg : decode code pc = .ok (.ireturn, 1)) : W p l e room_1 s m #[Value.ref b] below meth c H [] 600000 7302250 (lw_Z below #[Value.ref b] s) (F0 m pc ls [.int 1]) := by
  intro T hT X
  obtain ⟨fs, hret, hrun, hended, hW, hframe⟩ := X.leave (v := some (.int 1)) (hlocks := hlocks) (fun h => by rw [hr] at h; cases h)
  have hmeth' : T.vm.method? m = some meth := X.method'
  refine ⟨T.setFrames fs, ?_, .returned (some (.int 1)), hrun, hended, rfl, ⟨_, rfl⟩, hW, hframe⟩
  jvm_step X.here [X.here.top, hx, hb, hdg, hmeth', hr, ret, narrow_b1]
  (try refine ⟨rfl, ?_⟩); (try refine ⟨rfl, ?_⟩)
  first | (intro acts; rw [hret _ acts rfl rfl rfl]) | rw [hret _ _ rfl rfl rfl]
  exact Steps.refl _
/-- what holds at the law's entry: the machine, the code, the tables' words (any of lw_tbl by 'hts w (by decide +kernel)'), the script of L ints xs at the cell b, what the Statement gives of the start (any of its parts by flat_of_before) -/
def lw_At (p : Program) (s : State) (m : MethodId) (meth : Method) (c : Code) (b L : Nat) (xs : Nat → Int32) : Prop :=
  p.tables.exec = Jvm.exec ∧ c.code = code ∧ meth.sig.returnType = ret ∧ c.maxLocals = 4 ∧ s.vm.findClass R_law = some m.cls ∧ (∀ w ∈ lw_tbl, w.before #[Value.ref b] s = true) ∧ va_X b L xs s s.heap ∧ b < s.heap.size ∧ meth.locks = false ∧ (Jvm.Cond.and given_1 narrow_1).before #[Value.ref b] s = true ∧ meth.name = "law"

theorem sa_byte : Cond.arrayClass .byte ∈ lw_tbl := in_1 _ (List.mem_of_getElem? (i := 44) (by decide +kernel))
theorem sa_boolean : Cond.arrayClass .boolean ∈ lw_tbl := in_6 _ (List.mem_of_getElem? (i := 94) (by decide +kernel))
theorem sa_int : Cond.arrayClass .int ∈ lw_tbl := in_1 _ (List.mem_of_getElem? (i := 76) (by decide +kernel))
theorem sa_long : Cond.arrayClass .long ∈ lw_tbl := in_6 _ (List.mem_of_getElem? (i := 93) (by decide +kernel))
theorem sa_obj : Cond.arrayOver (.object "java/lang/Object") ∈ lw_tbl := in_2 _ (List.mem_of_getElem? (i := 136) (by decide +kernel))
theorem sa_head : Cond.arrayOver (.object "LetterTree$Head") ∈ lw_tbl := in_1 _ (List.mem_of_getElem? (i := 52) (by decide +kernel))
theorem sa_ls0 : Cond.laysStatic "java/util/ArrayList" "DEFAULTCAPACITY_EMPTY_ELEMENTDATA" "[Ljava/lang/Object;" ∈ lw_tbl := in_1 _ (List.mem_of_getElem? (i := 107) (by decide +kernel))
theorem sa_ls1 : Cond.laysStatic "LetterTree" "NO_BYTES" "[B" ∈ lw_tbl := in_2 _ (List.mem_of_getElem? (i := 25) (by decide +kernel))
theorem sa_dc : Cond.declares ⟨"java/lang/Object", "getClass", "()Ljava/lang/Class;"⟩ ∈ lw_tbl := in_7 _ (List.mem_of_getElem? (i := 14) (by decide +kernel))
/-- the abstract heap at the law's start -/
def h0 (E : ah_E) (nx : Nat) : ah_H := (nx, 0, fun a => if a = E.1 then some ah_e4 else if a = E.2.1 then some ah_e0 else none)
/-- THE PURE STATEMENT: the law's function answers 1 on every script of at most 5 ints, within the room -/
def lw_pure : Prop := ∀ (E : ah_E) (nx : Nat), E.2.2.2.2.1 ≤ 5 → E.1 < nx → E.2.1 < nx → E.2.1 ≠ E.1 → ∃ h2 : ah_H, fL_law E (h0 E nx) = some (1, h2) ∧ h2.1 - nx ≤ 600000 ∧ h2.2.1 ≤ 7302250
theorem sa_prim {s : State} {b : Nat} {ty : FieldType} (h : (Cond.arrayClass ty).before #[Value.ref b] s = true) (hp : ∀ n, ty ≠ .object n) : ∃ cA : ClassId, ArrOfT s cA ty ∧ va_RA s cA ty := by
  obtain ⟨c, k, comp, h1, h2, h3⟩ := Cond.arrayClass_spec h
  refine ⟨c, fun n z => ⟨(fun k h => by cases h), k, h2, comp, h3⟩, ?_⟩
  cases ty <;> first | exact h1 | exact absurd rfl (hp _)
theorem sa_ref {s : State} {b : Nat} {C : String} (h : (Cond.arrayOver (.object C)).before #[Value.ref b] s = true) : ∃ cA : ClassId, ArrOfT s cA (.object C) ∧ va_RA s cA (.object C) := by
  obtain ⟨comp, c, k, h1, h2, h3, h4, h5⟩ := Cond.arrayOver_spec h
  exact ⟨c, fun n z => ⟨(fun k h => by cases h), k, h3, comp, h4⟩, k, comp, h3, h4, h1, h5⟩
theorem sa_cls {s : State} {b : Nat} (hts : ∀ w ∈ lw_tbl, w.before #[Value.ref b] s = true) : ∃ D : va_G, ∀ (k : Nat) (q : vw_C), vwCl[k]? = some q → u_Kn s q.1 q.2.1 q.2.2 (D.1 k) (D.2 k) := by
  have hk : ∀ k : Nat, ∃ p : ClassId × (Nat → Nat), ∀ q : vw_C, vwCl[k]? = some q → u_Kn s q.1 q.2.1 q.2.2 p.1 p.2 := by
    intro k
    match k with
    | 0 => exact (u_known (C := RJx4a65c) (T := TJx4a65c) (N := 3) (n := 3) hts (fun w h => gw_tbl (cl_0.2.1 w h)) (hts _ (gw_tbl wI_Jx4a65c))).elim (fun c h => h.elim (fun i h => ⟨(c, i), fun q e => by cases e; exact h⟩))
    | 1 => exact (u_known (C := RX0) (T := TX0) (N := 6) (n := 6) hts (fun w h => gw_tbl (cl_1.2.1 w h)) (hts _ (gw_tbl wI_X0))).elim (fun c h => h.elim (fun i h => ⟨(c, i), fun q e => by cases e; exact h⟩))
    | 2 => exact (u_known (C := RX1) (T := TX1) (N := 1) (n := 1) hts (fun w h => gw_tbl (cl_2.2.1 w h)) (hts _ (gw_tbl wI_X1))).elim (fun c h => h.elim (fun i h => ⟨(c, i), fun q e => by cases e; exact h⟩))
    | 3 => exact (u_known (C := RX2) (T := TX2) (N := 2) (n := 2) hts (fun w h => gw_tbl (cl_3.2.1 w h)) (hts _ (gw_tbl wI_X2))).elim (fun c h => h.elim (fun i h => ⟨(c, i), fun q e => by cases e; exact h⟩))
    | 4 => exact (u_known (C := RX3) (T := TX3) (N := 5) (n := 5) hts (fun w h => gw_tbl (cl_4.2.1 w h)) (hts _ (gw_tbl wI_X3))).elim (fun c h => h.elim (fun i h => ⟨(c, i), fun q e => by cases e; exact h⟩))
    | 5 => exact (u_known (C := RX4) (T := TX4) (N := 6) (n := 6) hts (fun w h => gw_tbl (cl_5.2.1 w h)) (hts _ (gw_tbl wI_X4))).elim (fun c h => h.elim (fun i h => ⟨(c, i), fun q e => by cases e; exact h⟩))
    | 6 => exact (u_known (C := RX5) (T := TX5) (N := 5) (n := 5) hts (fun w h => gw_tbl (cl_6.2.1 w h)) (hts _ (gw_tbl wI_X5))).elim (fun c h => h.elim (fun i h => ⟨(c, i), fun q e => by cases e; exact h⟩))
    | 7 => exact (u_known (C := RX6) (T := TX6) (N := 2) (n := 2) hts (fun w h => gw_tbl (cl_7.2.1 w h)) (hts _ (gw_tbl wI_X6))).elim (fun c h => h.elim (fun i h => ⟨(c, i), fun q e => by cases e; exact h⟩))
    | 8 => exact (u_known (C := RX7) (T := TX7) (N := 2) (n := 2) hts (fun w h => gw_tbl (cl_8.2.1 w h)) (hts _ (gw_tbl wI_X7))).elim (fun c h => h.elim (fun i h => ⟨(c, i), fun q e => by cases e; exact h⟩))
    | 9 => exact (u_known (C := RX8) (T := TX8) (N := 1) (n := 1) hts (fun w h => gw_tbl (cl_9.2.1 w h)) (hts _ (gw_tbl wI_X8))).elim (fun c h => h.elim (fun i h => ⟨(c, i), fun q e => by cases e; exact h⟩))
    | 10 => exact (u_known (C := RX9) (T := TX9) (N := 10) (n := 10) hts (fun w h => gw_tbl (cl_10.2.1 w h)) (hts _ (gw_tbl wI_X9))).elim (fun c h => h.elim (fun i h => ⟨(c, i), fun q e => by cases e; exact h⟩))
    | 11 => exact (u_known (C := RX10) (T := TX10) (N := 78) (n := 78) hts (fun w h => gw_tbl (cl_11.2.1 w h)) (hts _ (gw_tbl wI_X10))).elim (fun c h => h.elim (fun i h => ⟨(c, i), fun q e => by cases e; exact h⟩))
    | k + 12 => exact ⟨(0, fun _ => 0), fun q e => by simp [vwCl] at e⟩
  exact ⟨(fun k => (Classical.choose (hk k)).1, fun k => (Classical.choose (hk k)).2), fun k q e => Classical.choose_spec (hk k) q e⟩
theorem sa_arr {s : State} {b : Nat} (hts : ∀ w ∈ lw_tbl, w.before #[Value.ref b] s = true) : ∃ dA : Nat → ClassId, ∀ k, k < 6 → ArrOfT s (dA k) (ah_ty k) ∧ va_RA s (dA k) (ah_ty k) := by
  have hk : ∀ k : Nat, ∃ c : ClassId, k < 6 → ArrOfT s c (ah_ty k) ∧ va_RA s c (ah_ty k) := by
    intro k
    match k with
    | 0 => obtain ⟨c, h⟩ := sa_prim (hts _ sa_byte) (by intro n h; cases h); exact ⟨c, fun _ => h⟩
    | 1 => obtain ⟨c, h⟩ := sa_prim (hts _ sa_boolean) (by intro n h; cases h); exact ⟨c, fun _ => h⟩
    | 2 => obtain ⟨c, h⟩ := sa_prim (hts _ sa_int) (by intro n h; cases h); exact ⟨c, fun _ => h⟩
    | 3 => obtain ⟨c, h⟩ := sa_prim (hts _ sa_long) (by intro n h; cases h); exact ⟨c, fun _ => h⟩
    | 4 => obtain ⟨c, h⟩ := sa_ref (hts _ sa_obj); exact ⟨c, fun _ => h⟩
    | 5 => obtain ⟨c, h⟩ := sa_ref (hts _ sa_head); exact ⟨c, fun _ => h⟩
    | k + 6 => exact ⟨0, fun h => absurd h (by omega)⟩
  exact ⟨fun k => Classical.choose (hk k), fun k h => Classical.choose_spec (hk k) h⟩
set_option maxHeartbeats 4000000 in
set_option maxRecDepth 100000 in
theorem whole_start_open (hG : lw_pure) {p : Program} {e : Env} {s : State} {m : MethodId} {below : List Frame} {meth : Method} {c : Code} (l : Launch) {b L : Nat} {xs : Nat → Int32} (hL : L ≤ 5) (C0 : lw_At p s m meth c b L xs) : W p l e room_1 s m #[Value.ref b] below meth c s.heap [] 0 0 (lw_Z below #[Value.ref b] s) (entryFrame m ([Value.ref b] : List Value).toArray 4) := by
  obtain ⟨hx, hb, hr, hml, hown, hts, hX, hbl, hlocks, hgv, hname⟩ := id C0
  have hs := flat_of_before _ hgv
  obtain ⟨D, hD⟩ := sa_cls hts
  obtain ⟨dA, hA⟩ := sa_arr hts
  have hno : ∀ a : Nat, a < s.heap.size → ¬ (fun q : Nat => s.heap.size ≤ q) a := fun a h q => Nat.not_le.mpr h q
  have hini0 : (Cond.initialized "java/util/ArrayList").before #[Value.ref b] s = true := hts _ (gw_tbl wN_Jx4a65c)
  have hini1 : (Cond.initialized "LetterTree").before #[Value.ref b] s = true := hts _ (gw_tbl wN_X9)
  obtain ⟨tE, hE1, hE2⟩ := va_Tof (args := #[Value.ref b]) (s := s) (tm := .static "java/util/ArrayList" "DEFAULTCAPACITY_EMPTY_ELEMENTDATA" "[Ljava/lang/Object;") (ty := .object "java/lang/Object") (N := 0) (f := fun _ => .null) (A := fun q : Nat => s.heap.size ≤ q) (by decide) (hs _ (by decide +kernel)) (va_eqt (z := 0) (hs _ (by decide +kernel))) (fun j hj => absurd hj (Nat.not_lt_zero j)) hno
  obtain ⟨tN, hN1, hN2⟩ := va_Tof (args := #[Value.ref b]) (s := s) (tm := .static "LetterTree" "NO_BYTES" "[B") (ty := .byte) (N := 0) (f := fun _ => .int 0) (A := fun q : Nat => s.heap.size ≤ q) (by decide) (hs _ (by decide +kernel)) (va_eqt (z := 0) (hs _ (by decide +kernel))) (fun j hj => absurd hj (Nat.not_lt_zero j)) hno
  have hZ0 := va_Zref (hts _ sa_ls0) hini0 hE1 hno
  have hZ1 := va_Zref (hts _ sa_ls1) hini1 hN1 hno
  obtain ⟨mi, hMi⟩ := va_Mi.of (hs (.isRef (.mirror "[Ljava/lang/Object;")) (by decide +kernel))
  have hEl : tE < s.heap.size := by obtain ⟨cell, q, -⟩ := hE2; exact (Array.getElem?_eq_some_iff.mp q).1
  have hNl : tN < s.heap.size := by obtain ⟨cell, q, -⟩ := hN2; exact (Array.getElem?_eq_some_iff.mp q).1
  have hne : tN ≠ tE := by
    intro e
    obtain ⟨c1, q1, ⟨-, k1, r1, cm1, r2⟩, -⟩ := hE2
    obtain ⟨c2, q2, ⟨-, k2, r3, cm2, r4⟩, -⟩ := hN2
    rw [e] at q2
    cases q1.symm.trans q2
    cases r1.symm.trans r3
    have := r2.symm.trans r4
    injection this with _ e2
    cases e2
  obtain ⟨h2, hf, hc1, hc2⟩ := hG (tE, tN, mi, b, L, xs) s.heap.size hL hEl hNl hne
  have X : ∃ X : ah_X, X = (D, dA, s.heap, tE, tN, mi, b, L, xs) := ⟨_, rfl⟩
  obtain ⟨X, hXe⟩ := X
  have hK : ah_K X s := by
    subst hXe
    refine ⟨⟨hD, fun k q hk => ?_⟩, fun w hw => ?_, hts _ sa_obj, hts _ sa_head, hZ0, hZ1, hE2, hN2, hMi, va_Dc.of (hts _ sa_dc), hX⟩
    · have hlt : k < 6 := by
        have := (List.getElem?_eq_some_iff.mp hk).1
        simpa [ah_tys] using this
      rw [ah_tys_at _ hlt] at hk
      cases hk
      exact hA k hlt
    · have hw2 := (List.mem_filter.mp hw).2
      exact va_Nw.of (A := #[Value.ref b]) (by cases w <;> first | (simp at hw2; done) | rfl) (hts w (List.mem_filter.mp hw).1)
  have hR : ah_R X (h0 X.2.2.2 s.heap.size) s.heap := by
    subst hXe
    refine ⟨rfl, fun a cc hc => ?_, fun q hq => rfl, Nat.le_refl _, hEl, hNl⟩
    have hc' : (if a = tE then some ah_e4 else if a = tN then some ah_e0 else none) = some cc := hc
    by_cases c1 : a = tE
    · rw [if_pos c1] at hc'
      cases hc'
      exact Or.inr (Or.inl ⟨c1, rfl⟩)
    · rw [if_neg c1] at hc'
      by_cases c2 : a = tN
      · rw [if_pos c2] at hc'
        cases hc'
        exact Or.inr (Or.inr ⟨c2, rfl⟩)
      · rw [if_neg c2] at hc'
        cases hc'
  have hf' : fL_law X.2.2.2 (h0 X.2.2.2 s.heap.size) = some (1, h2) := by subst hXe; exact hf
  have hb2 : X.2.2.2.2.2.2.1 = b := by subst hXe; rfl
  have hH0 : X.2.2.1 = s.heap := by subst hXe; rfl
  unfold fL_law at hf'
  have k := rL_law_0 (X := X) (d := 2047) (by decide) hf'
  rw [hb2] at k
  have hl := lv_entry ([.ref b]) (n := 4) (Nat.le_of_ble_eq_true rfl)
  rw [lg_entry_eq]
  generalize (lg_sl ([.ref b]) ++ List.replicate (4 - (lg_sl ([.ref b])).length) Slot.unset).toArray = ls at hl ⊢
  have hl : lv_has ls 4 [(0, va_rf (some b))] := hl
  have C : rt_C X yL_law cL_law 4 (2047 + 1) p room_1 s m #[Value.ref b] meth c :=
    ⟨hx, hb, hml, hown, fun w hw => hts w (gw_tbl hw), hname, hK, by decide, by decide, by rw [hH0]; exact Nat.le_refl _, fun q _ => by rw [hH0]⟩
  have fin := k.2.2 (la := l) (e := e) (below := below) (Q := lw_Z below #[Value.ref b] s) s.heap.size 0 s.heap [] ls C (fun pc' H' locs' ls' hat hR' hS' => ?_) hR va_S.rf hl (Nat.le_refl _) (Nat.le_refl _) hc1 hc2
  · have e1 : (h0 X.2.2.2 s.heap.size).1 - s.heap.size = 0 := Nat.sub_self _
    rw [e1] at fin
    exact fin
  · refine va_forget (fun q hq => ?_) (W.widen hc1 hc2 (lw_ret hx hb hr hlocks hat))
    have := hS'.2.2 q hq
    unfold ah_A at this
    rw [hH0] at this
    exact this
