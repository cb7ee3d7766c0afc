/-! The odd start: the witness's start with one array type more over byte, called Odd, with a clone of its own; NO_BYTES lies in it. The LAST part of a WHOLE round (start1 is the witness's). Its end: od_falls : RefutedClaimed_1_2. -/
def od_clone : Method := Lib.HandJ.method "clone" "()Ljava/lang/Object;" [] od_ret 0x1 1 od_code
def od_c : Class := { start1.cArr "Odd" 31 .byte with methods := #[od_clone] }
def od_xs : Array Value := #[.int 4, .int 0, .int 0, .int 0, .int 0, .int 4, .int 0, .int 0, .int 0, .int 0]
def od : State := { start1.aboutOf od_xs with vm := { (start1.aboutOf od_xs).vm with classes := (start1.aboutOf od_xs).vm.classes.push od_c }, heap := (start1.aboutOf od_xs).heap.set! 4 { cls := 39, slots := #[], vm := .none } }
/-! ===== the words at the odd start ===== -/
theorem od_find {A : Array Class} {k : Class} {q : Class → Bool} {c : Nat} (h : A.findIdx? q = some c) : (A.push k).findIdx? q = some c := by
  simp [Array.findIdx?_push, h]
theorem od_at {A : Array Class} {k d : Class} {c : Nat} (h : A[c]? = some d) : (A.push k)[c]? = some d := by
  have := (Array.getElem?_eq_some_iff.mp h).1
  rw [Array.getElem?_push, if_neg (by omega)]
  exact h
theorem od_fc {s t : State} {k : Class} (e : t.vm.classes = s.vm.classes.push k) {n : String} {c : ClassId} (h : s.vm.findClass n = some c) : t.vm.findClass n = some c := by
  unfold Vm.findClass at h ⊢
  rw [e]
  exact od_find h
theorem od_named {s t : State} {k : Class} (e : t.vm.classes = s.vm.classes.push k) {y : MethodName} {m : MethodId} (h : s.methodNamed? y = some m) : t.methodNamed? y = some m := by
  have h1 := findClass_of_methodNamed h
  have h2 := od_fc e h1
  unfold State.methodNamed? at h ⊢
  rw [h1] at h
  rw [h2]
  cases hk : s.vm.classes[m.cls]? with
  | none => simp [hk] at h
  | some d =>
    have hk2 : t.vm.classes[m.cls]? = some d := by rw [e]; exact od_at hk
    simpa [hk, hk2] using h
theorem od_code_kept {s t : State} {k : Class} (e : t.vm.classes = s.vm.classes.push k) {a : Array Value} {c : Cond} (hc : su_isCode c = true) (h : c.before a s = true) : c.before a t = true := by
  cases c with
  | code y bytes maxL ret =>
    obtain ⟨m, hn⟩ := Cond.code_named h
    have hm : ∀ meth, s.vm.method? m = some meth → t.vm.method? m = some meth := fun meth q => by
      unfold Vm.method? at q ⊢
      rw [e]
      cases hk : s.vm.classes[m.cls]? with
      | none => simp [hk] at q
      | some d => simpa [hk, od_at hk] using q
    have hn' := od_named e hn
    cases hq : s.vm.method? m with
    | none => simp [Cond.before, Cond.holds, Cond.value, hn, hq] at h
    | some meth =>
      have hq' := hm _ hq
      simp only [Cond.before, Cond.holds, Cond.value, hn, hn', hq, hq', Option.bind_some, Option.map_some] at h ⊢
      exact h
  | _ => simp [su_isCode] at hc
set_option maxRecDepth 16384 in
theorem od_w1 : tables_1_1.all (fun c => su_isCode c || c.before start1.args0 od) = true := by decide +kernel
set_option maxRecDepth 16384 in
theorem od_w2 : tables_1_2.all (fun c => su_isCode c || c.before start1.args0 od) = true := by decide +kernel
set_option maxRecDepth 16384 in
theorem od_w3 : tables_1_3.all (fun c => su_isCode c || c.before start1.args0 od) = true := by decide +kernel
set_option maxRecDepth 16384 in
theorem od_w4 : tables_1_4.all (fun c => su_isCode c || c.before start1.args0 od) = true := by decide +kernel
set_option maxRecDepth 16384 in
theorem od_w5 : tables_1_5.all (fun c => su_isCode c || c.before start1.args0 od) = true := by decide +kernel
set_option maxRecDepth 16384 in
theorem od_w6 : tables_1_6.all (fun c => su_isCode c || c.before start1.args0 od) = true := by decide +kernel
set_option maxRecDepth 16384 in
theorem od_w7 : tables_1_7.all (fun c => su_isCode c || c.before start1.args0 od) = true := by decide +kernel
theorem od_kept {c : Cond} (hc : su_isCode c = true) (h : c.before start1.args0 start1.about = true) : c.before start1.args0 od = true := od_code_kept (s := start1.about) (t := od) (k := od_c) rfl hc h
theorem od_words : ∀ c ∈ (Cond.code x code maxLocals ret :: tables_1), c.before start1.args0 od = true := by
  have hall : tables_1.all (fun c => su_isCode c || c.before start1.args0 od) = true := by
    unfold tables_1
    simp only [List.all_append, od_w1, od_w2, od_w3, od_w4, od_w5, od_w6, od_w7, Bool.and_true]
  intro c hc
  rcases List.mem_cons.mp hc with h | h
  · rw [h]; exact od_kept rfl start1.word_code
  · have h1 := List.all_eq_true.mp hall c h
    cases hq : su_isCode c with
    | true => exact od_kept hq (start1.words c hc)
    | false => simpa [hq] using h1
/-! ===== the premises at the odd start ===== -/
set_option maxRecDepth 16384 in
theorem od_pre : (Cond.and given_1 narrow_1).before start1.args0 od = true := by decide +kernel
set_option maxRecDepth 16384 in
theorem od_rest : rest_1_c.before start1.args0 od = true := by decide +kernel
set_option maxRecDepth 16384 in
theorem od_args : argsFit od.vm ⟨0, 0⟩ start1.args0 = true := by decide +kernel
set_option maxRecDepth 16384 in
theorem od_heap : heapFits od = true := by decide +kernel
set_option maxRecDepth 16384 in
theorem od_true : od.slotsTrue = true := by decide +kernel
set_option maxRecDepth 16384 in
theorem od_applies : (headSpec (Cond.code x code maxLocals ret :: tables_1) room_1).applies x start1.e0.platform od = true :=
  (Spec.applies_iff rfl).mpr ⟨rfl, rfl, rfl, by decide +kernel, by decide +kernel, by decide +kernel, launch0.hasRoom_least _ room_1 (by decide +kernel) (by decide +kernel) (by decide +kernel) (by decide +kernel) (by decide +kernel) (by decide +kernel), atoms_intro od_words⟩
theorem od_atStart : AtStart classFile x code maxLocals ret World_1 tables_1 room_1 Calls_1 rest_1 Pre_1 launch0 start1.p0 start1.e0 od ⟨0, 0⟩ start1.args0 Lib.HandBits.below0 :=
  ⟨lists_1, trivial, launch0.admits_env _ _ _, launch0.least_env, fairChoices_fair.cas, fairChoices_fair.clock, rfl, od_args, od_heap, od_applies, trivial, od_rest, od_pre⟩
/-! ===== what the walk needs of it ===== -/
set_option maxRecDepth 16384 in
theorem od_ows : ∀ w ∈ od_ws, w.before #[] od = true := by
  intro w hw
  simp only [od_ws, List.mem_cons, List.not_mem_nil, or_false] at hw
  rcases hw with rfl | rfl | rfl | rfl
  · exact su_hand_word (m := ⟨39, 0⟩) (by decide +kernel) rfl (by decide +kernel) (by decide +kernel)
  · decide +kernel
  · decide +kernel
  · decide +kernel
theorem od_script : va_X 0 10 od_s od od.heap :=
  ⟨{ cls := 30, slots := od_xs, vm := .none }, rfl, ⟨(fun k h => by cases h), _, rfl, 29, rfl⟩, (fun h => by cases h), rfl, by decide +kernel⟩
def od_Z (below : List Frame) : State → Prop := fun t => ∃ o, t.status = .running ∧ Ended t below o ∧ o = .returned (some (.int 0))
theorem od_ret0 {p : Program} {l : Launch} {e : Env} {s : State} {m : MethodId} {args : Array Value} {below : List Frame} {meth : Method} {c : Code} {locs : List Loc} {nc nz : Nat} (hx : p.tables.exec = Jvm.exec) (hb : c.code = code) (hr : meth.sig.returnType = ret) (hlocks : meth.locks = false) {pc : Nat} {H : Heap} {ls : Array Slot} (hdg : decode code pc = .ok (.ireturn, 1)) : W p l e room_1 s m args below meth c H locs nc nz (od_Z below) (F0 m pc ls [.int 0]) := by
  intro T hT X
  obtain ⟨fs, hret, hrun, hended, hW, hframe⟩ := X.leave (v := some (.int 0)) (hlocks := hlocks) (fun h => by rw [hr] at h; cases h)
  have hmeth' : T.vm.method? m = some meth := X.method'
  have hn : narrow FieldType.boolean (.int 0) = .int 0 := rfl
  refine ⟨T.setFrames fs, ?_, .returned (some (.int 0)), hrun, hended, rfl⟩
  jvm_step X.here [X.here.top, hx, hb, hdg, hmeth', hr, ret, hn]
  (try refine ⟨rfl, ?_⟩); (try refine ⟨rfl, ?_⟩)
  first | (intro acts; rw [hret _ acts rfl rfl rfl]) | rw [hret _ _ rfl rfl rfl]
  exact Steps.refl _
set_option maxHeartbeats 4000000 in
set_option maxRecDepth 100000 in
theorem od_start {p : Program} {e : Env} {m : MethodId} {below : List Frame} {meth : Method} {c : Code} (l : Launch) (C0 : lw_At p od m meth c 0 10 od_s) : W p l e room_1 od m #[Value.ref 0] below meth c od.heap [] 0 0 (od_Z below) (entryFrame m ([Value.ref 0] : List Value).toArray 4) := by
  obtain ⟨hx, hb, hr, hml, hown, hts, hX, hbl, hlocks, hgv, hname⟩ := id C0
  have hs := flat_of_before _ hgv
  obtain ⟨D, hD⟩ := sa_cls hts
  obtain ⟨dA, hA⟩ := sa_arr hts
  have hz6 : od.heap.size = 6 := rfl
  have hno : ∀ a : Nat, a < od.heap.size → ¬ (fun q : Nat => od.heap.size ≤ q) a := fun a h q => Nat.not_le.mpr h q
  have hini0 : (Cond.initialized "java/util/ArrayList").before #[Value.ref 0] od = true := hts _ (gw_tbl wN_Jx4a65c)
  have hini1 : (Cond.initialized "LetterTree").before #[Value.ref 0] od = true := hts _ (gw_tbl wN_X9)
  obtain ⟨tE, hE1, hE2⟩ := va_Tof (args := #[Value.ref 0]) (s := od) (tm := .static "java/util/ArrayList" "DEFAULTCAPACITY_EMPTY_ELEMENTDATA" "[Ljava/lang/Object;") (ty := .object "java/lang/Object") (N := 0) (f := fun _ => .null) (A := fun q : Nat => od.heap.size ≤ q) (by decide) (hs _ (by decide +kernel)) (va_eqt (z := 0) (hs _ (by decide +kernel))) (fun j hj => absurd hj (Nat.not_lt_zero j)) hno
  obtain ⟨tN, hN1, hN2⟩ := va_Tof (args := #[Value.ref 0]) (s := od) (tm := .static "LetterTree" "NO_BYTES" "[B") (ty := .byte) (N := 0) (f := fun _ => .int 0) (A := fun q : Nat => od.heap.size ≤ q) (by decide) (hs _ (by decide +kernel)) (va_eqt (z := 0) (hs _ (by decide +kernel))) (fun j hj => absurd hj (Nat.not_lt_zero j)) hno
  have hZ0 := va_Zref (hts _ sa_ls0) hini0 hE1 hno
  have hZ1 := va_Zref (hts _ sa_ls1) hini1 hN1 hno
  have vE : (Term.static "java/util/ArrayList" "DEFAULTCAPACITY_EMPTY_ELEMENTDATA" "[Ljava/lang/Object;").eval #[Value.ref 0] od none [] od = some (.ref 3) := by decide +kernel
  have vN : (Term.static "LetterTree" "NO_BYTES" "[B").eval #[Value.ref 0] od none [] od = some (.ref 4) := by decide +kernel
  have eE : tE = 3 := by
    have q := hE1.symm.trans vE
    injection q with q
    injection q
  have eN : tN = 4 := by
    have q := hN1.symm.trans vN
    injection q with q
    injection q
  subst eE
  subst eN
  have hMi : va_Mi "[Ljava/lang/Object;" 5 od := ⟨38, _, by decide +kernel, rfl, rfl⟩
  have hEl : 3 < od.heap.size := by rw [hz6]; decide
  have hNl : 4 < od.heap.size := by rw [hz6]; decide
  obtain ⟨h2, hf, hc1, hc2⟩ := od_pure
  have X : ∃ X : ah_X, X = (D, dA, od.heap, od_E) := ⟨_, rfl⟩
  obtain ⟨X, hXe⟩ := X
  have hO : od_F X od := by
    subst hXe
    exact ⟨fun w hw a => word_at (State.WarmedH.refl od) (Or.inl (od_ws_good w hw)) (od_ows w hw), { cls := 39, slots := #[], vm := .none }, rfl, rfl, by decide +kernel⟩
  have hK : ah_K X od := by
    subst hXe
    refine ⟨⟨hD, fun k q hk => ?_⟩, fun w hw => ?_, hts _ sa_obj, hts _ sa_head, hZ0, hZ1, hE2, hN2, hMi, va_Dc.of (hts _ sa_dc), hX, hO⟩
    · have hlt : k < 6 := by
        have := (List.getElem?_eq_some_iff.mp hk).1
        simpa [ah_tys] using this
      rw [ah_tys_at _ hlt] at hk
      cases hk
      exact hA k hlt
    · have hw2 := (List.mem_filter.mp hw).2
      exact va_Nw.of (A := #[Value.ref 0]) (by cases w <;> first | (simp at hw2; done) | rfl) (hts w (List.mem_filter.mp hw).1)
  have hR : ah_R X (h0 X.2.2.2 6) od.heap := by
    subst hXe
    refine ⟨rfl, fun a cc hc => ?_, fun q hq => rfl, Nat.le_refl _, hEl, hNl⟩
    have hc' : (if a = 3 then some ah_e4 else if a = 4 then some ah_e0 else none) = some cc := hc
    by_cases c1 : a = 3
    · rw [if_pos c1] at hc'
      cases hc'
      exact Or.inr (Or.inl ⟨c1, rfl⟩)
    · rw [if_neg c1] at hc'
      by_cases c2 : a = 4
      · rw [if_pos c2] at hc'
        cases hc'
        exact Or.inr (Or.inr ⟨c2, rfl⟩)
      · rw [if_neg c2] at hc'
        cases hc'
  have hf' : fL_law X.2.2.2 (h0 X.2.2.2 6) = some (0, h2) := by subst hXe; exact hf
  have hb2 : X.2.2.2.2.2.2.1 = 0 := by subst hXe; rfl
  have hH0 : X.2.2.1 = od.heap := by subst hXe; rfl
  unfold fL_law at hf'
  have k := rL_law_0 (X := X) (d := 2047) (by decide) hf'
  rw [hb2] at k
  have hl := lv_entry ([.ref 0]) (n := 4) (Nat.le_of_ble_eq_true rfl)
  rw [lg_entry_eq]
  generalize (lg_sl ([.ref 0]) ++ List.replicate (4 - (lg_sl ([.ref 0])).length) Slot.unset).toArray = ls at hl ⊢
  have hl : lv_has ls 4 [(0, va_rf (some 0))] := hl
  have C : rt_C X yL_law cL_law 4 (2047 + 1) p room_1 od m #[Value.ref 0] meth c :=
    ⟨hx, hb, hml, hown, fun w hw => hts w (gw_tbl hw), hname, hK, by decide, by decide, by rw [hH0]; exact Nat.le_refl _, fun q _ => by rw [hH0]⟩
  have fin := k.2.2 (la := l) (e := e) (below := below) (Q := od_Z below) 6 0 od.heap [] ls C (fun pc' H' locs' ls' hat hR' hS' => od_ret0 hx hb hr hlocks hat) hR va_S.rf hl (Nat.le_refl _) (Nat.le_refl _) hc1 hc2
  exact fin
set_option maxHeartbeats 4000000 in
theorem od_walk (l : Launch) : MetFree l x (headSpec (Jvm.Cond.code x code maxLocals ret :: tables_1) room_1) (fun args s => args = #[Value.ref 0] ∧ s = od) (fun _ _ _ _ _ => True) (fun _ _ o _ => o = .returned (some (.int 0))) := by
  refine MetFree.of_bodyS (code := code) (maxLocals := maxLocals) (ret := ret) (by decide) ?_ ?_
  · intro args s m h hn
    obtain ⟨meth, c, h1, h2, h3, h4, h5, h6, -, -⟩ := Cond.code_spec hn (atoms_spec (ws := Jvm.Cond.code x code maxLocals ret :: tables_1) h _ List.mem_cons_self)
    exact ⟨meth, c, h1, h2, h3, h4, h5, h6⟩
  · intro p e s m args below meth c s₁ B hml0 hP _
    obtain ⟨rfl, rfl⟩ := hP
    have hown : od.vm.findClass R_law = some m.cls := findClass_of_methodNamed B.named
    have hts0 : ∀ c ∈ (Jvm.Cond.code x code maxLocals ret :: tables_1), c.before #[Value.ref 0] od = true := atoms_spec (ws := Jvm.Cond.code x code maxLocals ret :: tables_1) B.pre
    have hts : ∀ w ∈ lw_tbl, w.before #[Value.ref 0] od = true := k2_hts_sels lw_privs (fun w hw => hts0 w (List.mem_cons_of_mem _ hw)) lw_privs_ok
    have hml : c.maxLocals = 4 := B.maxLocals_eq (hts0 _ List.mem_cons_self)
    have X₀ : Stand p l e room_1 od m #[Value.ref 0] below meth c s₁ [] 0 0 := Stand.of_body B
    have hh0 : s₁.heap = od.heap := by rw [B.state]; rfl
    have K : W p l e room_1 od m #[Value.ref 0] below meth c s₁.heap [] 0 0 (od_Z below) (entryFrame m ([Value.ref 0] : List Value).toArray 4) := by
      rw [hh0]
      exact od_start l ⟨B.exec, B.bytes, B.returns, hml, hown, hts, od_script, by decide +kernel, B.notSynchronized, od_pre, (name_of_methodNamed B.named B.method).1⟩
    obtain ⟨t, a1, o, b1, b2, b3⟩ := K s₁ rfl X₀
    exact ⟨t, o, a1, b1, b2, b3⟩
/-- THE REFUTATION, in the statement's own word for it -/
theorem od_falls : RefutedClaimed_1_2 := by
  obtain ⟨n, o, h1, h2, h3, rfl⟩ := od_walk launch0 start1.p0 start1.e0 (launch0.admits_env _ _ _) fairChoices_fair.cas fairChoices_fair.clock od ⟨0, 0⟩ start1.args0 Lib.HandBits.below0 rfl ((Spec.applies_iff_loose rfl).mp od_applies).1 ⟨rfl, rfl⟩ trivial
  refine ⟨launch0, start1.p0, start1.e0, od, ⟨0, 0⟩, start1.args0, Lib.HandBits.below0, rfl, od_atStart, n, _, h1, h2, h3, ?_⟩
  rintro ⟨hp, -⟩
  have hp' : limb_1_2.after start1.args0 od (.returned (some (.int 0))) (stepsAlone start1.p0.tables start1.e0 n od) = true := hp
  rw [Cond.after_iff, show limb_1_2 = Cond.eq .result (.int 1) from rfl, Cond.eq_ints (x := 0) (y := 1) rfl rfl] at hp'
  simp at hp'
theorem od_only {t : State} {o : Outcome} (hw : Within t Lib.HandBits.below0) (he : Ended t Lib.HandBits.below0 o) : False := by
  obtain ⟨above, h1, h2, h3⟩ := hw
  cases o with
  | threw a =>
    have he' : t.frames = [.throwing a] ++ Lib.HandBits.below0 := he
    exact h3 a (List.append_cancel_right (h1.symm.trans he'))
  | returned v =>
    have he' : t.frames = [.native { method := ⟨0, 0⟩, args := #[], awaiting := false, answer := some (.returned v) }] := he
    have hl := congrArg List.length (h1.symm.trans he')
    have h4 : 0 < above.length := List.length_pos_iff.mpr h2
    simp [Lib.HandBits.below0] at hl
    exact h2 hl
/-- so what is claimed does not hold -/
theorem od_not : ¬ Claimed_1_2 := by
  intro hC
  obtain ⟨n, o, h1, h2, h3, rfl⟩ := od_walk launch0 start1.p0 start1.e0 (launch0.admits_env _ _ _) fairChoices_fair.cas fairChoices_fair.clock od ⟨0, 0⟩ start1.args0 Lib.HandBits.below0 rfl ((Spec.applies_iff_loose rfl).mp od_applies).1 ⟨rfl, rfl⟩ trivial
  obtain ⟨k, o', g1, g2, g3, g4, -⟩ := hC launch0 rfl lists_1 trivial start1.p0 start1.e0 (launch0.admits_env _ _ _) fairChoices_fair.cas fairChoices_fair.clock od ⟨0, 0⟩ start1.args0 Lib.HandBits.below0 rfl od_args od_heap od_applies ⟨trivial, od_rest, od_pre⟩
  have hnk : n = k := by
    rcases Nat.lt_trichotomy n k with h | h | h
    · exact (od_only (g1 n h) h3).elim
    · exact h
    · exact (od_only (h1 k h) g3).elim
  subst hnk
  have ho : o' = .returned (some (.int 0)) := by
    cases o' with
    | threw a =>
      have e1 : (stepsAlone start1.p0.tables start1.e0 n od).frames = .throwing a :: Lib.HandBits.below0 := g3
      have e2 : (stepsAlone start1.p0.tables start1.e0 n od).frames = [.native { method := ⟨0, 0⟩, args := #[], awaiting := false, answer := some (.returned (some (.int 0))) }] := h3
      have := e1.symm.trans e2
      injection this with q
      cases q
    | returned v =>
      have e1 : (stepsAlone start1.p0.tables start1.e0 n od).frames = [.native { method := ⟨0, 0⟩, args := #[], awaiting := false, answer := some (.returned v) }] := g3
      have e2 : (stepsAlone start1.p0.tables start1.e0 n od).frames = [.native { method := ⟨0, 0⟩, args := #[], awaiting := false, answer := some (.returned (some (.int 0))) }] := h3
      have := e1.symm.trans e2
      injection this with q
      injection q with q
      injection q with _ _ _ _ _ q _
      exact Option.some.inj q
  subst ho
  have hp' : limb_1_2.after start1.args0 od (.returned (some (.int 0))) (stepsAlone start1.p0.tables start1.e0 n od) = true := g4
  rw [Cond.after_iff, show limb_1_2 = Cond.eq .result (.int 1) from rfl, Cond.eq_ints (x := 0) (y := 1) rfl rfl] at hp'
  simp at hp'
