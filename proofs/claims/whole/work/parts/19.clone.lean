theorem cn_same : Cond.sameMethod "[B" "java/lang/Object" "clone" "()Ljava/lang/Object;" ∈ gw_t := gw_in (in_2 _ (List.mem_of_getElem? (i := 47) (by decide +kernel))) (by decide +kernel)
theorem cn_nat : Cond.native ⟨"java/lang/Object", "clone", "()Ljava/lang/Object;"⟩ ∈ gw_t := gw_in (in_2 _ (List.mem_of_getElem? (i := 48) (by decide +kernel))) (by decide +kernel)
theorem cn_inst : Cond.instanceMethod ⟨"java/lang/Object", "clone", "()Ljava/lang/Object;"⟩ ∈ gw_t := gw_in (in_2 _ (List.mem_of_getElem? (i := 49) (by decide +kernel))) (by decide +kernel)
theorem cn_sel : Cond.selects "[B" ⟨"[B", "clone", "()Ljava/lang/Object;"⟩ ⟨"java/lang/Object", "clone", "()Ljava/lang/Object;"⟩ ∈ gw_t := gw_in (in_2 _ (List.mem_of_getElem? (i := 50) (by decide +kernel))) (by decide +kernel)
theorem cn_cas : Cond.castable "[B" "java/lang/Cloneable" ∈ ah_ns := List.mem_filter.mpr ⟨in_2 _ (List.mem_of_getElem? (i := 51) (by decide +kernel)), rfl⟩
def hp_clo0 (E : ah_E) (h : ah_H) (x : Option Nat) : Option ah_H := match hp_ar h x with
  | some (0, n, .inl f) => if x = some E.1 ∨ x = some E.2.1 ∨ (List.range n).all (fun i => fits .byte (.int (f i))) = false then none else some (ah_new h (.inl (0, n, .inl f)) n)
  | _ => none
def hp_isb (E : ah_E) (h : ah_H) (x : Option Nat) : Bool := match hp_ar h x with
  | some (0, _, .inl _) => decide (¬ x = some E.1 ∧ ¬ x = some E.2.1)
  | _ => false
def hp_clo (E : ah_E) (h : ah_H) (x : Option Nat) : Option ah_H := if x = some E.2.1 then some (ah_new h (.inl (0, 1, .inl (fun _ => 0))) 1) else hp_clo0 E h x
theorem od_d0 : decode od_code 0 = .ok (.iconst 1, 1) := by decide +kernel
theorem od_d1 : decode od_code 1 = .ok (.newarray .byte, 2) := by decide +kernel
theorem od_d3 : decode od_code 3 = .ok (.areturn, 1) := by decide +kernel
theorem od_wb : Cond.arrayClass (newarray.typeOf .byte) ∈ gw_t := gw_in (in_1 _ (List.mem_of_getElem? (i := 44) (by decide +kernel))) (by decide +kernel)
section RTCL
variable {X : ah_X} {y : MethodName} {cc : ByteArray} {nL d pc idx : Nat} {l : List (Nat × Value)} {st : List Value} {h hh h2 : ah_H} {r : Option Value} {x : Option Nat}
theorem ah_heapB {H : Heap} {a n : Nat} {f : Nat → Int32} (hR : ah_R X h H) (ha : h.2.2 a = some (.inl (0, n, .inl f))) (h1 : ¬ some a = some X.2.2.2.1) (h2 : ¬ some a = some X.2.2.2.2.1) : H[a]? = some (vp_cell (X.2.1 0) (n, .inl f)) := by
  rcases hR.2.1 a _ ha with q | ⟨q, -⟩ | ⟨q, -⟩
  · exact q.2.2
  · exact absurd (by rw [q]) h1
  · exact absurd (by rw [q]) h2
theorem ah_nmB {s : State} (hK : ah_K X s) : s.vm.findClass "[B" = some (X.2.1 0) := (hK.1.2 0 _ (ah_tys_at X (by decide))).2
theorem rt_clone0 (hl : Cond.methodLink y.cls idx ⟨"[B", "clone", "()Ljava/lang/Object;"⟩ ∈ gw_t) (hcat : (st.map fun v => v.category).sum ≤ 8) (hd : decode cc pc = .ok (.invokevirtual idx, 3)) (hx : hp_clo0 X.2.2.2 h x = some hh) (k : Rt X y cc nL (d + 1) (pc + 3) l (va_rf (some h.1) :: st) hh r h2) : Rt X y cc nL (d + 1) pc l (va_rf x :: st) h r h2 := by
  unfold hp_clo0 at hx
  split at hx
  · rename_i n f q0
    obtain ⟨a, rfl, ha⟩ := hp_ar_spec q0
    split at hx
    · cases hx
    · rename_i hno
      cases hx
      simp only [not_or] at hno
      obtain ⟨hE, hN, hfit⟩ := hno
      have k1 : h.1 + 1 ≤ h2.1 := k.1
      have k2 : h.2.1 + n ≤ h2.2.1 := k.2.1
      refine ⟨by omega, by omega, ?_⟩
      intro p la e R s m args below meth c Q c0 z0 H locs ls C hr hR hS hls h1 h2 h3 h4
      obtain ⟨hx, hb, hml, hown, hts, -, hK, hf, hlo, -⟩ := id C
      have hc := ah_heapB hR ha hE hN
      have hnm := ah_nmB hK
      obtain ⟨c1, t1, f1, f2, f3⟩ := Cond.castable_spec (va_Nw.use (A := args) rfl (hK.2.1 _ cn_cas))
      cases hnm.symm.trans f1
      have hfit' : ∀ i, i < n → fits .byte (.int (f i)) = true := fun i hi => by
        have := (Bool.not_eq_false _).mp hfit
        exact List.all_eq_true.mp this i (List.mem_range.mpr hi)
      intro T hT Xs
      obtain ⟨-, kA, hkA, comp, hkind⟩ := State.isArrayOf_alike Xs.warmed.alike ((hK.1.2 0 _ (ah_tys_at X (by decide))).1 0 (fun _ => .null))
      obtain ⟨-, kS, hkS, compS, hkindS⟩ := (hK.1.2 0 _ (ah_tys_at X (by decide))).1 0 (fun _ => .null)
      obtain ⟨vm', X', step⟩ := Xs.cloneArray hx hown (hts _ hl) (hts _ cn_same) (hts _ cn_nat) (hts _ cn_inst) (hts _ cn_sel) (a := a) (cell := vp_cell (X.2.1 0) (n, .inl f)) (by rw [hT]; exact hc) (fun q h => by cases h) (fun h => by cases h) hnm f2 f3
        (fun i v hv => by
          have hk' : T.vm.classes[X.2.1 0]? = some kA := hkA
          have hi : i < n := by
            have := (Array.getElem?_eq_some_iff.mp hv).1
            rwa [vp_cell_i, arrV_size] at this
          have hv' : v = .int (f i) := by
            rw [vp_cell_i, arrV_read _ _ hi] at hv
            exact (Option.some.inj hv).symm
          subst hv'
          have hf0 := hfit' i hi
          show T.fitsSlot (X.2.1 0) .none i (.int (f i)) = true
          have hkd : kA.kind = .array comp .byte := hkind
          simpa [State.fitsSlot, State.slotType?, hk', hkd] using hf0)
        (g := F0 m pc ls (.ref a :: st)) rfl (by rw [hml]; exact hls.1) rfl (by rw [hb]; exact hd) (by omega) (by show 2 * 0 + _ + 14 ≤ _; omega) (by omega) (by rw [vp_cell_i, arrV_size]; omega) (hloader := Vm.clonesLoader_of_array hkS hkindS)
      have hcellE : ({ cls := (vp_cell (X.2.1 0) (n, .inl f)).cls, slots := (vp_cell (X.2.1 0) (n, .inl f)).slots } : Cell) = vp_cell (X.2.1 0) (n, .inl f) := rfl
      rw [hcellE, show (vp_cell (X.2.1 0) (n, .inl f)).slots.size = n by rw [vp_cell_i, arrV_size]] at X'
      generalize hH1 : H.push (vp_cell (X.2.1 0) (n, .inl f)) = H1
      have z1 : H1.size = h.1 + 1 := by rw [← hH1, Array.size_push, hR.1]
      have e1 : H1[h.1]? = some (vp_cell (X.2.1 0) (n, .inl f)) := by rw [← hH1, ← hR.1, Array.getElem?_push_size]
      have o1 : ∀ q : Nat, q < h.1 → H1[q]? = H[q]? := fun q hq => by rw [← hH1, Array.getElem?_push, if_neg (by rw [hR.1]; omega)]
      have hat : va_at X.1 vwCl (h.1, ah_cv X (.inl (0, n, .inl f))) H1 := e1
      have hR1 := hR.new (n := n) hat z1 o1
      have hS1 : va_S (ah_A X) s.heap H1 locs := ⟨Nat.le_trans hS.1 (by rw [z1, hR.1]; omega), fun q g1 g2 => (o1 q (Nat.lt_of_lt_of_le g1 (by rw [← hR.1]; exact hS.1))).trans (hS.2.1 q g1 g2), hS.2.2⟩
      have kk := k.2.2 (la := la) (e := e) (below := below) (Q := Q) c0 z0 H1 locs ls C hr hR1 hS1 hls (Nat.le_succ_of_le h1) (Nat.le_trans h2 (Nat.le_add_right _ _)) h3 h4
      have ec : (ah_new h (.inl (0, n, .inl f)) n).1 - c0 = h.1 - c0 + 1 := by show h.1 + 1 - c0 = _; omega
      have ez : (ah_new h (.inl (0, n, .inl f)) n).2.1 - z0 = h.2.1 - z0 + n := by show h.2.1 + n - z0 = _; omega
      rw [ec, ez] at kk
      obtain ⟨t, b1, b2⟩ := kk ((T.setVm vm').pushCell (vp_cell (X.2.1 0) (n, .inl f))) (by rw [← hH1, ← hT]; rfl) X'
      refine ⟨t, step t ?_, b2⟩
      rw [hcellE, hT, hR.1]
      exact b1
  · cases hx
theorem od_body {a : Nat} : Rt X od_y od_code 1 d 0 (lv_args 0 [va_rf (some a)]) [] h (some (.ref h.1)) (ah_new h (.inl (0, 1, .inl (fun _ => 0))) 1) := by
  refine rt_iconst (pc := 0) (n := 1) (v := (1 : Int32)) (by decide) od_d0 ?_
  refine rt_newa (pc := 1) (i := (1 : Int32)) (z := .inl (fun _ => 0)) 0 (by decide) rfl od_wb (fun cA N => rfl) (by decide) od_d1 (hh := ah_new h (.inl (0, 1, .inl (fun _ => 0))) 1) rfl ?_
  exact rt_ret (pc := 3) od_d3 rfl
theorem od_rn {a : Nat} : Rn X od_y od_code 1 od_ret d [va_rf (some a)] h (some (.ref h.1)) (ah_new h (.inl (0, 1, .inl (fun _ => 0))) 1) :=
  Rn.ofP (by decide +kernel) (Nat.le_of_ble_eq_true rfl) ⟨_, rfl, Or.inl ⟨_, rfl⟩⟩ od_body
theorem rt_cloneO (hl : Cond.methodLink y.cls idx ⟨"[B", "clone", "()Ljava/lang/Object;"⟩ ∈ gw_t) (hcat : (st.map fun v => v.category).sum ≤ 8) (hd : decode cc pc = .ok (.invokevirtual idx, 3)) (k : Rt X y cc nL (d + 1) (pc + 3) l (va_rf (some h.1) :: st) (ah_new h (.inl (0, 1, .inl (fun _ => 0))) 1) r h2) : Rt X y cc nL (d + 1) pc l (va_rf (some X.2.2.2.2.1) :: st) h r h2 := by
  have hM : Rn X od_y od_code 1 od_ret d [va_rf (some X.2.2.2.2.1)] h (some (.ref h.1)) (ah_new h (.inl (0, 1, .inl (fun _ => 0))) 1) := od_rn
  refine rt_back (A := #[]) hM k ?_
  intro p la e R s m args below meth c c0 z0 H locs ls C hR hls hc1 hc2
  obtain ⟨hx, hb, hml, hown, hts, hname, hK, hf, hlo, -⟩ := id C
  obtain ⟨hO, cell, hc0, hvm, hcls⟩ := hK.2.2.2.2.2.2.2.2.2.2.2
  have hcH : H[X.2.2.2.2.1]? = some cell := by rw [hR.2.2.1 _ hR.2.2.2.2.2]; exact hc0
  have hB : Back la R p e below s args od_y 3 8 (PreOf R _ _ _) (PostOf _ _ _ _) := back_of (bytes := od_code) (maxL := 1) (ret := od_ret) (hM.2.2 la) rn_blind rfl rfl hf (by show 8 + (1 + 11) + 40 * d ≤ _; omega)
    (fun w hw a' U hW => by
      rcases List.mem_cons.mp hw with rfl | hw
      · exact word_at hW (Or.inl (od_ws_good _ (by decide +kernel))) (hO _ (by decide +kernel) #[])
      · exact pay_in hts gw_good w hw a' U hW) List.mem_cons_self (fun a' U hW => word_at hW (Or.inl (od_ws_good _ (by decide +kernel))) (hO (.initialized "Odd") (by decide +kernel) #[]))
  intro T hT Xs
  obtain ⟨rr, kO, methO, hnO, hmO, hkO, N⟩ := NativeOf.of_instance (hts _ cn_nat) (hts _ cn_inst) (ps := []) (ret := some (.object "java/lang/Object")) (by decide +kernel)
  obtain ⟨cn, ck, r1, hcn, hck, -, hff, hn1⟩ := Cond.sameMethod_found (hts _ cn_same)
  cases hnO.symm.trans hn1
  obtain ⟨c2, r2, m2, q1, q2, q3, q4, mk, hmk, hmki⟩ := Cond.selects_spec (hO (.selects "Odd" ⟨"[B", "clone", "()Ljava/lang/Object;"⟩ od_y) (by decide +kernel) args)
  cases hcls.symm.trans q1
  cases hff.symm.trans q2
  obtain ⟨m3, methC, hn3, hm3, hst3, hab3⟩ := Cond.instanceMethod_spec (hO (.instanceMethod od_y) (by decide +kernel) args)
  cases q3.symm.trans hn3
  have hselP : selectMethod e.platform s.vm cell.cls rr = .method m2 := by rw [Launch.admits_selectMethod Xs.admits]; exact q4
  obtain ⟨vm₁, X₁, step⟩ := Xs.invokevirtualUp hx hown (hts _ hl) (hts _ cn_same) (by decide) hnO hmO N.static (a := X.2.2.2.2.1) (by rw [hT]; exact hcH) (fun z h => by rw [hvm] at h; cases h) hselP hm3 hab3 hmk hmki (g := F0 m pc ls (.ref X.2.2.2.2.1 :: st)) rfl (argsL := []) (rest := st) (by rw [N.sig]; rfl) rfl (by rw [hb]; exact hd)
  obtain ⟨v, ⟨U', l2, c2', s2⟩, X', ⟨g', mk', t, L, e1, e2, hq, h1, hL, h2, h3⟩, hsteps⟩ := hB m meth c ⟨T.setVm vm₁, locs, h.1 - c0, h.2.1 - z0⟩ (F0 m pc ls st) (.invokevirtual idx) m2 ([va_rf (some X.2.2.2.2.1)] : List Value).toArray X₁ rfl (by rw [hml]; exact hls.1) (by rw [hb]; exact hd) (lv_room hcat) (X₁.named q3) ⟨hc1, hc2, rn_warm hK hR (T.setVm vm₁) hT X₁.warmed⟩
  dsimp only [Pt.U, Pt.locs, Pt.cells, Pt.slots] at X' e1 e2 h1 h2 h3 hsteps
  subst h1; subst h2; subst h3
  exact ⟨v, (T.setVm vm₁).calling g' mk' ([va_rf (some X.2.2.2.2.1)] : List Value).toArray, t, U', L, hT, X', hL, e1, e2, hq, fun target hh => step _ fun acts => by rw [doInvoke_state]; exact hsteps.trans hh⟩
theorem rt_clone (hl : Cond.methodLink y.cls idx ⟨"[B", "clone", "()Ljava/lang/Object;"⟩ ∈ gw_t) (hcat : (st.map fun v => v.category).sum ≤ 8) (hd : decode cc pc = .ok (.invokevirtual idx, 3)) (hx : hp_clo X.2.2.2 h x = some hh) (k : Rt X y cc nL (d + 1) (pc + 3) l (va_rf (some h.1) :: st) hh r h2) : Rt X y cc nL (d + 1) pc l (va_rf x :: st) h r h2 := by
  unfold hp_clo at hx
  split at hx
  · rename_i hq
    subst hq
    cases hx
    exact rt_cloneO hl hcat hd k
  · exact rt_clone0 hl hcat hd hx k
theorem rt_castB (hw : Cond.classLink y.cls idx "[B" ∈ gw_t) (hd : decode cc pc = .ok (.checkcast idx, 3)) (hx : hp_isb X.2.2.2 h x = true) (k : Rt X y cc nL d (pc + 3) l (va_rf x :: st) h r h2) : Rt X y cc nL d pc l (va_rf x :: st) h r h2 := by
  unfold hp_isb at hx
  split at hx
  · rename_i n f q0
    obtain ⟨a, rfl, ha⟩ := hp_ar_spec q0
    obtain ⟨hE, hN⟩ := of_decide_eq_true hx
    refine ⟨k.1, k.2.1, ?_⟩
    intro p la e R s m args below meth c Q c0 z0 H locs ls C hr hR hS hls h1 h2 h3 h4
    have hc := ah_heapB hR ha hE hN
    exact va_castA C.1 C.2.1 C.2.2.2.1 (C.2.2.2.2.1 _ hw) (ah_P1 (X := X) (q := (a, .inl (X.2.1 0, n, .inl f))) hc) 0 rfl (ah_nmB C.2.2.2.2.2.2.1) hd (k.2.2 c0 z0 H locs ls C hr hR hS hls h1 h2 h3 h4)
  · cases hx
end RTCL
