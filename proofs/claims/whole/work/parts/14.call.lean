/-! ===== contracts over abstract heaps, and calls ===== -/
def rn_rm (d mc ms : Nat) : Room := { frames := d, cells := mc, slots := ms, locals := 40 * d }
/-- the method y, called with av over h, with d frames and 40 d words left, returns r, and the heap is h2 -/
def Rn (X : ah_X) (y : MethodName) (cc : ByteArray) (nL : Nat) (ret : Option FieldType) (d : Nat) (av : List Value) (h : ah_H) (r : Option Value) (h2 : ah_H) : Prop :=
  h.1 ≤ h2.1 ∧ h.2.1 ≤ h2.2.1 ∧ ∀ la : Launch, Met la y (.code y cc nL ret :: gw_t) (rn_rm d (h2.1 - h.1) (h2.2.1 - h.2.1)) (va_Pc av (fun U => ah_K X U ∧ ah_R X h U.heap)) (fun _ st oc t => oc = .returned r ∧ ah_R X h2 t.heap ∧ va_F (ah_A X) st t) (h2.1 - h.1) (h2.2.1 - h.2.1) (ah_A X)
def rt_ok (ret : Option FieldType) (r : Option Value) : Prop := match r with
  | none => ret = none
  | some (.int v) => ∃ ty, ret = some ty ∧ narrow ty (.int v) = .int v
  | some (.long _) => ret = some .long
  | some .null => ∃ rt, ret = some rt ∧ ((∃ n, rt = .object n) ∨ ∃ t, rt = .array t)
  | some (.ref _) => ∃ rt, ret = some rt ∧ ((∃ n, rt = .object n) ∨ ∃ t, rt = .array t)
  | _ => False
def me_ok (y : MethodName) (cc : ByteArray) (nL : Nat) (ret : Option FieldType) (n : Nat) : Prop :=
  Cond.code y cc nL ret ∈ gw_t ∧ Cond.initialized y.cls ∈ gw_t ∧ (y.cls ≠ "java/lang/invoke/MethodHandle" ∧ y.cls ≠ "java/lang/invoke/VarHandle" ∧ (parseMethodDescriptor y.desc).map (fun d => d.parameters.length) = some n) ∧ nL ≤ 21 ∧ plainFor y = true
theorem Rn.of {X : ah_X} {y : MethodName} {cc : ByteArray} {nL n d : Nat} {ret : Option FieldType} {av : List Value} {h h2 : ah_H} {r : Option Value} (F : me_ok y cc nL ret n) (hlen : (lg_sl av).length ≤ nL) (hok : rt_ok ret r) (k : Rt X y cc nL d 0 (lv_args 0 av) [] h r h2) : Rn X y cc nL ret d av h r h2 := by
  refine ⟨k.1, k.2.1, fun la => ?_⟩
  refine va_MetF (cc := cc) (maxL := nL) (ret := ret) F.2.2.2.2 rfl ?_
  intro p e s m args below meth c s₁ B hml hv
  obtain ⟨rfl, hK, hR⟩ := hv
  have hts := atoms_spec (ws := .code y cc nL ret :: gw_t) B.pre
  have hl := lv_entry av (n := nL) hlen
  have hlocks := B.notSynchronized
  rw [lg_entry_eq]
  generalize (lg_sl av ++ List.replicate (nL - (lg_sl av).length) Slot.unset).toArray = ls at hl ⊢
  have hrt := B.returns
  have C : rt_C X y cc nL d p (headSpec (.code y cc nL ret :: gw_t) (rn_rm d (h2.1 - h.1) (h2.2.1 - h.2.1))).room s m av.toArray meth c :=
    ⟨B.exec, B.bytes, hml, findClass_of_methodNamed B.named, fun w hw => hts w (List.mem_cons_of_mem _ hw), (name_of_methodNamed B.named B.method).1, hK, Nat.le_refl _, Nat.le_refl _, by rw [hR.1]; exact hR.2.2.2.1, hR.2.2.1⟩
  have fin := k.2.2 (la := la) (e := e) (below := below) (Q := MQ below (fun _ st oc t => oc = .returned r ∧ ah_R X h2 t.heap ∧ va_F (ah_A X) st t) av.toArray s (h2.1 - h.1) (h2.2.1 - h.2.1) (ah_A X)) h.1 h.2.1 s.heap [] ls C ?_ hR va_S.rf hl (Nat.le_refl _) (Nat.le_refl _) (Nat.le_refl _) (Nat.le_refl _)
  · rw [Nat.sub_self, Nat.sub_self] at fin
    exact fin
  · intro pc' H' locs' ls' hat hR' hS'
    cases r with
    | none => exact W.vret B.exec B.bytes (hrt.trans hok) (fun t ht _ => ⟨rfl, by rw [ht]; exact hR', hS'.F ht⟩) hS'.2.2 hat
    | some v =>
      cases v with
      | int v =>
        obtain ⟨ty, e1, e2⟩ := hok
        exact W.zret B.exec B.bytes (hrt.trans e1) e2 (fun t ht _ => ⟨rfl, by rw [ht]; exact hR', hS'.F ht⟩) hS'.2.2 hat
      | long v => exact W.lret B.exec B.bytes (hrt.trans hok) (fun t ht _ => ⟨rfl, by rw [ht]; exact hR', hS'.F ht⟩) hS'.2.2 hat
      | null =>
        obtain ⟨rt, e1, e2⟩ := hok
        exact W.aret B.exec B.bytes (hrt.trans e1) e2 (Or.inl rfl) (fun t ht _ => ⟨rfl, by rw [ht]; exact hR', hS'.F ht⟩) hS'.2.2 hat
      | ref a =>
        obtain ⟨rt, e1, e2⟩ := hok
        exact W.aret B.exec B.bytes (hrt.trans e1) e2 (Or.inr ⟨a, rfl⟩) (fun t ht _ => ⟨rfl, by rw [ht]; exact hR', hS'.F ht⟩) hS'.2.2 hat
      | float _ => exact hok.elim
      | double _ => exact hok.elim
      | retAddr _ => exact hok.elim
theorem Rn.ofP {X : ah_X} {y : MethodName} {cc : ByteArray} {nL d : Nat} {ret : Option FieldType} {av : List Value} {h h2 : ah_H} {r : Option Value} (hp : plainFor y = true) (hlen : (lg_sl av).length ≤ nL) (hok : rt_ok ret r) (k : Rt X y cc nL d 0 (lv_args 0 av) [] h r h2) : Rn X y cc nL ret d av h r h2 := by
  refine ⟨k.1, k.2.1, fun la => ?_⟩
  refine va_MetF (cc := cc) (maxL := nL) (ret := ret) hp rfl ?_
  intro p e s m args below meth c s₁ B hml hv
  obtain ⟨rfl, hK, hR⟩ := hv
  have hts := atoms_spec (ws := .code y cc nL ret :: gw_t) B.pre
  have hl := lv_entry av (n := nL) hlen
  have hlocks := B.notSynchronized
  rw [lg_entry_eq]
  generalize (lg_sl av ++ List.replicate (nL - (lg_sl av).length) Slot.unset).toArray = ls at hl ⊢
  have hrt := B.returns
  have C : rt_C X y cc nL d p (headSpec (.code y cc nL ret :: gw_t) (rn_rm d (h2.1 - h.1) (h2.2.1 - h.2.1))).room s m av.toArray meth c :=
    ⟨B.exec, B.bytes, hml, findClass_of_methodNamed B.named, fun w hw => hts w (List.mem_cons_of_mem _ hw), (name_of_methodNamed B.named B.method).1, hK, Nat.le_refl _, Nat.le_refl _, by rw [hR.1]; exact hR.2.2.2.1, hR.2.2.1⟩
  have fin := k.2.2 (la := la) (e := e) (below := below) (Q := MQ below (fun _ st oc t => oc = .returned r ∧ ah_R X h2 t.heap ∧ va_F (ah_A X) st t) av.toArray s (h2.1 - h.1) (h2.2.1 - h.2.1) (ah_A X)) h.1 h.2.1 s.heap [] ls C ?_ hR va_S.rf hl (Nat.le_refl _) (Nat.le_refl _) (Nat.le_refl _) (Nat.le_refl _)
  · rw [Nat.sub_self, Nat.sub_self] at fin
    exact fin
  · intro pc' H' locs' ls' hat hR' hS'
    cases r with
    | none => exact W.vret B.exec B.bytes (hrt.trans hok) (fun t ht _ => ⟨rfl, by rw [ht]; exact hR', hS'.F ht⟩) hS'.2.2 hat
    | some v =>
      cases v with
      | int v =>
        obtain ⟨ty, e1, e2⟩ := hok
        exact W.zret B.exec B.bytes (hrt.trans e1) e2 (fun t ht _ => ⟨rfl, by rw [ht]; exact hR', hS'.F ht⟩) hS'.2.2 hat
      | long v => exact W.lret B.exec B.bytes (hrt.trans hok) (fun t ht _ => ⟨rfl, by rw [ht]; exact hR', hS'.F ht⟩) hS'.2.2 hat
      | null =>
        obtain ⟨rt, e1, e2⟩ := hok
        exact W.aret B.exec B.bytes (hrt.trans e1) e2 (Or.inl rfl) (fun t ht _ => ⟨rfl, by rw [ht]; exact hR', hS'.F ht⟩) hS'.2.2 hat
      | ref a =>
        obtain ⟨rt, e1, e2⟩ := hok
        exact W.aret B.exec B.bytes (hrt.trans e1) e2 (Or.inr ⟨a, rfl⟩) (fun t ht _ => ⟨rfl, by rw [ht]; exact hR', hS'.F ht⟩) hS'.2.2 hat
      | float _ => exact hok.elim
      | double _ => exact hok.elim
      | retAddr _ => exact hok.elim
/-- the receiver is an object of that class -/
def hp_rcv (h : ah_H) (x : Option Nat) (ci : Nat) : Bool := match x with
  | none => false
  | some b => match h.2.2 b with
    | some (.inr o) => decide (o.1 = ci)
    | _ => false
theorem hp_rcv_spec {h : ah_H} {x : Option Nat} {ci : Nat} (e : hp_rcv h x ci = true) : ∃ a fs, x = some a ∧ h.2.2 a = some (.inr (ci, fs)) := by
  unfold hp_rcv at e
  cases x with
  | none => cases e
  | some b =>
    simp only at e
    split at e
    · rename_i o ho
      obtain ⟨c, fs⟩ := o
      have : c = ci := of_decide_eq_true e
      subst this
      exact ⟨b, fs, rfl, ho⟩
    · cases e
theorem hp_rcv_of {h : ah_H} {a ci : Nat} {fs : List Value} (e : h.2.2 a = some (.inr (ci, fs))) : hp_rcv h (some a) ci = true := by simp [hp_rcv, e]
def mi_ok (y : MethodName) (ci : Nat) : Prop := Cond.instanceMethod y ∈ gw_t ∧ Cond.selects y.cls y y ∈ gw_t ∧ ∃ (T : u_T) (N : Nat), vwCl[ci]? = some (y.cls, T, N)
section RTC
variable {X : ah_X} {y yc : MethodName} {cc ccc : ByteArray} {nL nLc d pc n idx ci : Nat} {retc : Option FieldType} {l : List (Nat × Value)} {st stk As : List Value} {h hh h2 : ah_H} {r rr : Option Value} {x : Option Nat} {host : String}
theorem rn_blind {av : List Value} : FrameBlind (va_Pc av (fun U => ah_K X U ∧ ah_R X h U.heap)) := fun a U g mk q => by
  obtain ⟨q0, qK, qR⟩ := q
  refine ⟨q0, ?_, qR⟩
  obtain ⟨h1, h2, h3, h4, h5, h6, h7, h8, h9, h10, h11, h12⟩ := qK
  have ha : U.vm.Alike (U.calling g mk a).vm := Vm.Alike.refl U.vm
  exact ⟨va_K.moved ha h1, fun w hw => by
    have hw2 := (List.mem_filter.mp hw).2
    exact va_Nw.same (u := U) (by cases w <;> first | (simp at hw2; done) | rfl) rfl (h2 w hw), va_AO.moved ha h3, va_AO.moved ha h4, va_Z.moved ha h5, va_Z.moved ha h6, va_T.moved ha h7, va_T.moved ha h8, va_Mi.moved ha h9, va_Dc.moved ha h10, va_X.moved ha h11, h12.warm (U := U.calling g mk a) (State.WarmedH.refl U)⟩
theorem rn_warm {av : List Value} {s : State} {H : Heap} (hK : ah_K X s) (hR : ah_R X h H) : ∀ U : State, U.heap = H → s.WarmedH U.vm → va_Pc av (fun U => ah_K X U ∧ ah_R X h U.heap) av.toArray U := fun U e hW => ⟨rfl, hK.warm hW, by rw [e]; exact hR⟩
theorem rt_back {A : Array Value} (hM : Rn X yc ccc nLc retc d As h rr hh) (k : Rt X y cc nL (d + 1) (pc + 3) l (rr.toList ++ st) hh r h2)
    (run : ∀ {p : Program} {la : Launch} {e : Env} {R : Room} {s : State} {m : MethodId} {args : Array Value} {below : List Frame} {meth : Method} {c : Code} (c0 z0 : Nat) (H : Heap) (locs : List Loc) (ls : Array Slot), rt_C X y cc nL (d + 1) p R s m args meth c → ah_R X h H → lv_has ls nL l → (h.1 - c0) + (hh.1 - h.1) ≤ R.cells → (h.2.1 - z0) + (hh.2.1 - h.2.1) ≤ R.slots → va_Run p la e R s m args below meth c H locs (h.1 - c0) (h.2.1 - z0) (hh.1 - h.1) (hh.2.1 - h.2.1) (F0 m pc ls stk) st (fun st oc t => oc = .returned rr ∧ ah_R X hh t.heap ∧ va_F (ah_A X) st t) (ah_A X)) : Rt X y cc nL (d + 1) pc l stk h r h2 := by
  have g1 := hM.1
  have g2 := hM.2.1
  have k1 := k.1
  have k2 := k.2.1
  refine ⟨by omega, by omega, ?_⟩
  intro p la e R s m args below meth c Q c0 z0 H locs ls C hr hR hS hl h1 h2 h3 h4
  intro T hT Xs
  obtain ⟨v, st₀, t, T', L, e0, X', hL, e1, e2, ⟨hv, hR1, hF⟩, go⟩ := run (la := la) (e := e) (below := below) c0 z0 H locs ls C hR hl (by omega) (by omega) T hT Xs
  cases hv
  have hS1 : va_S (ah_A X) s.heap T'.heap (locs ++ L) := by
    refine ⟨?_, fun q q1 q2 => ?_, fun q hq => ?_⟩
    · rw [e1]
      exact Nat.le_trans hS.1 (by rw [← e0]; exact hF.1)
    · rw [e1, hF.2 q (by rw [e0]; exact Nat.lt_of_lt_of_le q1 hS.1) q2, e0]
      exact hS.2.1 q q1 q2
    · rcases List.mem_append.mp hq with q | q
      · exact hS.2.2 _ q
      · exact hL _ q
  have kk := k.2.2 (la := la) (e := e) (below := below) (Q := Q) c0 z0 T'.heap (locs ++ L) ls C hr (by rw [e1]; exact hR1) hS1 hl (by omega) (by omega) h3 h4
  rw [show hh.1 - c0 = h.1 - c0 + (hh.1 - h.1) by omega, show hh.2.1 - z0 = h.2.1 - z0 + (hh.2.1 - h.2.1) by omega] at kk
  obtain ⟨t2, a1, b1⟩ := kk T' rfl X'
  exact ⟨t2, go t2 a1, b1⟩
theorem rt_cb {R : Room} {s : State} {args : Array Value} (F : me_ok yc ccc nLc retc n) (hts : ∀ w ∈ gw_t, w.before args s = true) (hl : Cond.methodLink y.cls idx yc ∈ gw_t) (h1 : d + 1 ≤ R.frames) (h2 : 40 * (d + 1) ≤ R.locals) {mc ms : Nat} : CallB R s args y.cls idx yc ccc nLc retc (.code yc ccc nLc retc :: gw_t) (rn_rm d mc ms) mc ms n :=
  callB_of n hts (gw_goodc F.1) rfl rfl rfl (hts _ F.2.1) (hts _ hl) F.2.2.1 ⟨h1, by show 8 + (nLc + 11) + 40 * d ≤ _; have := F.2.2.2.1; omega⟩
theorem rt_cn {R : Room} {s : State} {args : Array Value} (F : me_ok yc ccc nLc retc n) (hts : ∀ w ∈ gw_t, w.before args s = true) (hl : va_Nw (.methodLinkNest y.cls idx yc host) s) (h1 : d + 1 ≤ R.frames) (h2 : 40 * (d + 1) ≤ R.locals) {mc ms : Nat} : va_CN R s args y.cls idx yc host ccc nLc retc (.code yc ccc nLc retc :: gw_t) (rn_rm d mc ms) mc ms n :=
  va_cnB n hts (gw_goodc F.1) rfl rfl rfl hl (hts _ F.2.1) F.2.2.1 ⟨h1, by show 8 + (nLc + 11) + 40 * d ≤ _; have := F.2.2.2.1; omega⟩
theorem rt_callV (F : me_ok yc ccc nLc retc n) (G : mi_ok yc ci) (hl : Cond.methodLink y.cls idx yc ∈ gw_t) (hd : decode cc pc = .ok (.invokevirtual idx, 3)) (hn : As.length = n) (hcat : (st.map fun v => v.category).sum ≤ 8) (hst : stk = As.reverse ++ va_rf x :: st) (hrc : hp_rcv h x ci = true) (hM : Rn X yc ccc nLc retc d (va_rf x :: As) h rr hh) (k : Rt X y cc nL (d + 1) (pc + 3) l (rr.toList ++ st) hh r h2) : Rt X y cc nL (d + 1) pc l stk h r h2 := by
  obtain ⟨b, fs, rfl, hb⟩ := hp_rcv_spec hrc
  refine rt_back (A := #[]) hM k ?_
  intro p la e R s m args below meth c c0 z0 H locs ls C hR hls hc1 hc2
  obtain ⟨hx, hcb, hml, hown, hts, hname, hK, hf, hlo, -⟩ := id C
  obtain ⟨T, N, hci⟩ := G.2.2
  obtain ⟨-, -, hat⟩ := hR.obj hb
  exact va_runV (b := b) (As := As) (rest := st) ⟨hx, hcb, hml, hown, hts⟩ (hM.2.2 la) ⟨rt_cb F hts hl hf hlo, hts _ G.1, hts _ G.2.1⟩ ⟨rn_blind, va_recv hK.1 (ah_P1 (q := (b, .inr (ci, fs))) hat) (q0 := 0) hci rfl, rn_warm hK hR⟩ rfl hn hls.1 hst (lv_room hcat) hd ⟨hc1, hc2⟩
theorem rt_callVN (F : me_ok yc ccc nLc retc n) (G : mi_ok yc ci) (hl : Cond.methodLinkNest y.cls idx yc host ∈ ah_ns) (hd : decode cc pc = .ok (.invokevirtual idx, 3)) (hn : As.length = n) (hcat : (st.map fun v => v.category).sum ≤ 8) (hst : stk = As.reverse ++ va_rf x :: st) (hrc : hp_rcv h x ci = true) (hM : Rn X yc ccc nLc retc d (va_rf x :: As) h rr hh) (k : Rt X y cc nL (d + 1) (pc + 3) l (rr.toList ++ st) hh r h2) : Rt X y cc nL (d + 1) pc l stk h r h2 := by
  obtain ⟨b, fs, rfl, hb⟩ := hp_rcv_spec hrc
  refine rt_back (A := #[]) hM k ?_
  intro p la e R s m args below meth c c0 z0 H locs ls C hR hls hc1 hc2
  obtain ⟨hx, hcb, hml, hown, hts, hname, hK, hf, hlo, -⟩ := id C
  obtain ⟨T, N, hci⟩ := G.2.2
  obtain ⟨-, -, hat⟩ := hR.obj hb
  exact va_runVN (b := b) (As := As) (rest := st) ⟨hx, hcb, hml, hown, hts⟩ (hM.2.2 la) ⟨rt_cn F hts (hK.2.1 _ hl) hf hlo, hts _ G.1, hts _ G.2.1⟩ ⟨rn_blind, va_recv hK.1 (ah_P1 (q := (b, .inr (ci, fs))) hat) (q0 := 0) hci rfl, rn_warm hK hR⟩ rfl hn hls.1 hst (lv_room hcat) hd ⟨hc1, hc2⟩
theorem rt_callS (F : me_ok yc ccc nLc retc n) (hs : Cond.static yc ∈ gw_t) (hl : Cond.methodLink y.cls idx yc ∈ gw_t) (hd : decode cc pc = .ok (.invokestatic idx, 3)) (hn : As.length = n) (hcat : (st.map fun v => v.category).sum ≤ 8) (hst : stk = As.reverse ++ st) (hM : Rn X yc ccc nLc retc d As h rr hh) (k : Rt X y cc nL (d + 1) (pc + 3) l (rr.toList ++ st) hh r h2) : Rt X y cc nL (d + 1) pc l stk h r h2 := by
  refine rt_back (A := #[]) hM k ?_
  intro p la e R s m args below meth c c0 z0 H locs ls C hR hls hc1 hc2
  obtain ⟨hx, hcb, hml, hown, hts, hname, hK, hf, hlo, -⟩ := id C
  exact va_runS (As := As) (rest := st) ⟨hx, hcb, hml, hown, hts⟩ (hM.2.2 la) ⟨rt_cb F hts hl hf hlo, hts _ hs⟩ ⟨rn_blind, rn_warm hK hR⟩ rfl hn hls.1 hst (lv_room hcat) hd ⟨hc1, hc2⟩
theorem rt_callSN (F : me_ok yc ccc nLc retc n) (hs : Cond.static yc ∈ gw_t) (hl : Cond.methodLinkNest y.cls idx yc host ∈ ah_ns) (hd : decode cc pc = .ok (.invokestatic idx, 3)) (hn : As.length = n) (hcat : (st.map fun v => v.category).sum ≤ 8) (hst : stk = As.reverse ++ st) (hM : Rn X yc ccc nLc retc d As h rr hh) (k : Rt X y cc nL (d + 1) (pc + 3) l (rr.toList ++ st) hh r h2) : Rt X y cc nL (d + 1) pc l stk h r h2 := by
  refine rt_back (A := #[]) hM k ?_
  intro p la e R s m args below meth c c0 z0 H locs ls C hR hls hc1 hc2
  obtain ⟨hx, hcb, hml, hown, hts, hname, hK, hf, hlo, -⟩ := id C
  exact va_runSN (As := As) (rest := st) ⟨hx, hcb, hml, hown, hts⟩ (hM.2.2 la) ⟨rt_cn F hts (hK.2.1 _ hl) hf hlo, hts _ hs, trivial⟩ ⟨rn_blind, rn_warm hK hR⟩ rfl hn hls.1 hst (lv_room hcat) hd ⟨hc1, hc2⟩
theorem rt_callI (F : me_ok yc ccc nLc none n) (hi : yc.name = "<init>" ∧ Cond.instanceMethod yc ∈ gw_t) (hl : Cond.methodLink y.cls idx yc ∈ gw_t) (hd : decode cc pc = .ok (.invokespecial idx, 3)) (hn : As.length = n) (hcat : (st.map fun v => v.category).sum ≤ 8) (hst : stk = As.reverse ++ va_rf x :: st) (hrc : hp_rcv h x ci = true) (hM : Rn X yc ccc nLc none d (va_rf x :: As) h rr hh) (k : Rt X y cc nL (d + 1) (pc + 3) l (rr.toList ++ st) hh r h2) : Rt X y cc nL (d + 1) pc l stk h r h2 := by
  obtain ⟨b, fs, rfl, hb⟩ := hp_rcv_spec hrc
  refine rt_back (A := #[]) hM k ?_
  intro p la e R s m args below meth c c0 z0 H locs ls C hR hls hc1 hc2
  obtain ⟨hx, hcb, hml, hown, hts, hname, hK, hf, hlo, -⟩ := id C
  exact va_runI (b := b) (As := As) (rest := st) ⟨hx, hcb, hml, hown, hts⟩ (hM.2.2 la) ⟨rt_cb F hts hl hf hlo, hi.1, hts _ hi.2⟩ ⟨rn_blind, rn_warm hK hR⟩ rfl hn hls.1 hst (lv_room hcat) hd ⟨hc1, hc2⟩
theorem rt_callIN (F : me_ok yc ccc nLc none n) (hi : yc.name = "<init>" ∧ Cond.instanceMethod yc ∈ gw_t) (hl : Cond.methodLinkNest y.cls idx yc host ∈ ah_ns) (hd : decode cc pc = .ok (.invokespecial idx, 3)) (hn : As.length = n) (hcat : (st.map fun v => v.category).sum ≤ 8) (hst : stk = As.reverse ++ va_rf x :: st) (hrc : hp_rcv h x ci = true) (hM : Rn X yc ccc nLc none d (va_rf x :: As) h rr hh) (k : Rt X y cc nL (d + 1) (pc + 3) l (rr.toList ++ st) hh r h2) : Rt X y cc nL (d + 1) pc l stk h r h2 := by
  obtain ⟨b, fs, rfl, hb⟩ := hp_rcv_spec hrc
  refine rt_back (A := #[]) hM k ?_
  intro p la e R s m args below meth c c0 z0 H locs ls C hR hls hc1 hc2
  obtain ⟨hx, hcb, hml, hown, hts, hname, hK, hf, hlo, -⟩ := id C
  exact va_runIN (b := b) (As := As) (rest := st) ⟨hx, hcb, hml, hown, hts⟩ (hM.2.2 la) ⟨rt_cn F hts (hK.2.1 _ hl) hf hlo, hi.1, hts _ hi.2⟩ ⟨rn_blind, rn_warm hK hR⟩ rfl hn hls.1 hst (lv_room hcat) hd ⟨hc1, hc2⟩
end RTC
