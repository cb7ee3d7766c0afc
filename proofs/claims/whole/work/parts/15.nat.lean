theorem nt_acN : Cond.native arraycopyName ∈ gw_t := gw_in (List.mem_of_getElem? (i := 354) (by decide +kernel)) (by decide +kernel)
theorem nt_acS : Cond.static arraycopyName ∈ gw_t := gw_in (List.mem_of_getElem? (i := 353) (by decide +kernel)) (by decide +kernel)
theorem nt_acI : Cond.initialized "java/lang/System" ∈ gw_t := gw_in (List.mem_of_getElem? (i := 84) (by decide +kernel)) (by decide +kernel)
theorem nt_oiI : Cond.instanceMethod Lib.objectInit ∈ gw_t := gw_in (List.mem_of_getElem? (i := 96) (by decide +kernel)) (by decide +kernel)
theorem nt_oiC : Cond.code Lib.objectInit ⟨#[0xb1]⟩ 1 none ∈ gw_t := gw_in (List.mem_of_getElem? (i := 97) (by decide +kernel)) (by decide +kernel)
theorem nt_gcI : Cond.instanceMethod ⟨"java/lang/Object", "getClass", "()Ljava/lang/Class;"⟩ ∈ gw_t := gw_in (List.mem_of_getElem? (i := 426) (by decide +kernel)) (by decide +kernel)
theorem nt_gcN : Cond.native ⟨"java/lang/Object", "getClass", "()Ljava/lang/Class;"⟩ ∈ gw_t := gw_in (List.mem_of_getElem? (i := 440) (by decide +kernel)) (by decide +kernel)
theorem nt_gcS : Cond.selects "[Ljava/lang/Object;" ⟨"java/lang/Object", "getClass", "()Ljava/lang/Class;"⟩ ⟨"java/lang/Object", "getClass", "()Ljava/lang/Class;"⟩ ∈ gw_t := gw_in (List.mem_of_getElem? (i := 1522) (by decide +kernel)) (by decide +kernel)
def hp_cpb (E : ah_E) (h : ah_H) (x : Option Nat) (sp : Int32) (z : Option Nat) (dp n : Int32) : Option ah_H := match z, hp_ar h x, hp_ar h z with
  | some a, some (0, n0, .inl f), some (0, n1, .inl g) => if sp < 0 ∨ dp < 0 ∨ n < 0 ∨ n0 < sp.toNatClampNeg + n.toNatClampNeg ∨ n1 < dp.toNatClampNeg + n.toNatClampNeg ∨ a = E.1 ∨ a = E.2.1 ∨ (List.range n.toNatClampNeg).all (fun i => fits .byte (.int (f (sp.toNatClampNeg + i)))) = false then none else some (ah_set h a (.inl (0, n1, .inl (va_cpy f g sp.toNatClampNeg dp.toNatClampNeg n.toNatClampNeg))))
  | _, _, _ => none
def hp_cpq (E : ah_E) (h : ah_H) (x : Option Nat) (sp : Int32) (z : Option Nat) (dp n : Int32) : Option ah_H := match z, hp_ar h x, hp_ar h z with
  | some a, some (4, n0, .inr (.inr (.inr (.inr f)))), some (4, n1, .inr (.inr (.inr (.inr g)))) => if sp < 0 ∨ dp < 0 ∨ n < 0 ∨ n0 < sp.toNatClampNeg + n.toNatClampNeg ∨ n1 < dp.toNatClampNeg + n.toNatClampNeg ∨ a = E.1 ∨ a = E.2.1 ∨ (List.range n.toNatClampNeg).all (fun i => hp_obj h (f (sp.toNatClampNeg + i))) = false then none else some (ah_set h a (.inl (4, n1, .inr (.inr (.inr (.inr (va_cpy f g sp.toNatClampNeg dp.toNatClampNeg n.toNatClampNeg)))))))
  | _, _, _ => none
theorem nt_nn (z : Int32) (hz : ¬ z < 0) : z.toInt = (z.toNatClampNeg : Int) := by
  have hz0 : (0 : Int) ≤ z.toInt := by
    have := Int32.not_lt.mp hz
    simpa using Int32.le_iff_toInt_le.mp this
  show z.toInt = ((z.toInt.toNat : Nat) : Int)
  omega
section RTN
variable {X : ah_X} {y : MethodName} {cc : ByteArray} {nL d pc idx : Nat} {l : List (Nat × Value)} {st : List Value} {h hh h2 : ah_H} {r : Option Value} {x z : Option Nat} {sp dp n : Int32}
theorem rt_objInit (hl : Cond.methodLink y.cls idx Lib.objectInit ∈ gw_t) (hcat : (st.map fun v => v.category).sum ≤ 8) (hd : decode cc pc = .ok (.invokespecial idx, 3)) (hx : ∃ a, x = some a) (k : Rt X y cc nL (d + 1) (pc + 3) l st h r h2) : Rt X y cc nL (d + 1) pc l (va_rf x :: st) h r h2 := by
  obtain ⟨a, rfl⟩ := hx
  refine ⟨k.1, k.2.1, ?_⟩
  intro p la e R s m args below meth c Q c0 z0 H locs ls C hr hR hS hls h1 h2 h3 h4
  obtain ⟨hx, hb, hml, hown, hts, -, -, hf, hlo, -⟩ := id C
  exact W.objInit hx hb hown (hts _ hl) (hts _ nt_oiI) (hts _ nt_oiC) rfl (by rw [hml]; exact hls.1) rfl hd (by omega) (by show 2 * 0 + _ + 12 ≤ _; omega) (k.2.2 c0 z0 H locs ls C hr hR hS hls h1 h2 h3 h4)
/-- one arraycopy, the source in the heap or one of the empty static rows -/
theorem rt_copyG {a0 a kd n1 : Nat} {cs : State → Heap → Cell → Prop} {f1 g1 : (Nat → Int32) ⊕ (Nat → Int64) ⊕ (Nat → UInt32) ⊕ (Nat → UInt64) ⊕ (Nat → Option Nat)} (h6 : kd < 6) (hl : Cond.methodLink y.cls idx arraycopyName ∈ gw_t) (hcat : (st.map fun v => v.category).sum ≤ 8) (hd : decode cc pc = .ok (.invokestatic idx, 3))
    (hs1 : ¬ sp < 0) (hs2 : ¬ dp < 0) (hs3 : ¬ n < 0) (hb2 : dp.toNatClampNeg + n.toNatClampNeg ≤ n1) (hE : ¬ a = X.2.2.2.1) (hN : ¬ a = X.2.2.2.2.1) (ha : h.2.2 a = some (.inl (kd, n1, g1)))
    (src : ∀ (s : State) (H : Heap), ah_K X s → ah_R X h H → ∃ (scr : Cell) (ks : Class) (cm : ClassId), H[a0]? = some scr ∧ (∀ k, scr.vm ≠ .statics k) ∧ scr.vm ≠ .unknown ∧ s.vm.classes[scr.cls]? = some ks ∧ ks.kind = .array cm (ah_ty kd) ∧ sp.toNatClampNeg + n.toNatClampNeg ≤ scr.slots.size ∧ copied scr (vp_cell (X.2.1 kd) (n1, g1)) sp dp n = vp_cell (X.2.1 kd) (n1, f1) ∧
      (∀ (T : State), T.heap = H → ∀ vm', s.vm.Alike vm' → ∀ dComp : ClassId, (∀ kA : Class, s.vm.classes[X.2.1 kd]? = some kA → kA.kind = .array dComp (ah_ty kd)) → ∀ i, i < n.toNatClampNeg → fits (ah_ty kd) (scr.slots.getD (sp.toNatClampNeg + i) .null) = true ∧ (T.setVm vm').takes dComp (scr.slots.getD (sp.toNatClampNeg + i) .null)))
    (k : Rt X y cc nL (d + 1) (pc + 3) l st (ah_set h a (.inl (kd, n1, f1))) r h2) : Rt X y cc nL (d + 1) pc l (.int n :: .int dp :: .ref a :: .int sp :: .ref a0 :: st) h r h2 := by
  refine ⟨k.1, k.2.1, ?_⟩
  intro p la e R s m args below meth c Q c0 z0 H locs ls C hr hR hS hls h1 h2 h3 h4
  obtain ⟨hx, hb, hml, hown, hts, -, hK, hf, hlo, -⟩ := id C
  obtain ⟨b1, b2, b3⟩ : X.2.2.1.size ≤ a ∧ a < h.1 ∧ H[a]? = some (vp_cell (X.2.1 kd) (n1, g1)) := by
    rcases hR.2.1 a _ ha with q | ⟨q, -⟩ | ⟨q, -⟩
    · exact q
    · exact absurd q hE
    · exact absurd q hN
  obtain ⟨scr, ks, cm, s1, s2, s3, s4, s5, s6, s7, s8⟩ := src s H hK hR
  have hAr := (hK.1.2 kd _ (ah_tys_at X h6)).1
  have hvp : (vp_cell (X.2.1 kd) (n1, g1)).cls = X.2.1 kd ∧ (vp_cell (X.2.1 kd) (n1, g1)).vm = .none ∧ (vp_cell (X.2.1 kd) (n1, g1)).slots.size = n1 := by
    obtain f | f | f | f | f := g1 <;> exact ⟨rfl, rfl, by first | (rw [vp_cell_i, arrV_size]; done) | (rw [vp_cell_l, arrV_size]; done) | (rw [vp_cell_f, arrV_size]; done) | (rw [vp_cell_d, arrV_size]; done) | (rw [vp_cell_q, arrV_size]; done)⟩
  obtain ⟨-, k1, hk1, cm1, hkk1⟩ := hAr n1 (fun _ => .null)
  have hk1' : s.vm.classes[X.2.1 kd]? = some k1 := hk1
  intro T hT Xs
  obtain ⟨vm', X', step⟩ := Xs.arraycopy hx hown (hts _ hl) (hts _ nt_acN) (hts _ nt_acS) (hts _ nt_acI) (src := a0) (dst := a) (cs := scr) (cd := vp_cell (X.2.1 kd) (n1, g1)) (srcPos := sp) (destPos := dp) (n := n) (by rw [hT]; exact s1) (by rw [hT]; exact b3)
    s2 (fun q hq => by rw [hvp.2.1] at hq; cases hq) s3 (fun hq => by rw [hvp.2.1] at hq; cases hq) s4 (by rw [hvp.1]; exact hk1') s5 hkk1
    (by simp) hs1 hs2 hs3
    (by rw [nt_nn sp hs1, nt_nn n hs3]; omega)
    (by rw [nt_nn dp hs2, nt_nn n hs3, hvp.2.2]; omega)
    (fun vm' hal i hi => s8 T hT vm' hal cm1 (fun kA hkA => by cases hk1'.symm.trans hkA; exact hkk1) i hi)
    (g := F0 m pc ls (.int n :: .int dp :: .ref a :: .int sp :: .ref a0 :: st)) rfl (by rw [hml]; exact hls.1) (rest := st) rfl (by rw [hb]; exact hd) (by omega) (by show 2 * 0 + _ + (5 + 2 + 11) ≤ _; omega)
  rw [s7] at X' step
  have hl2 : a < H.size := (Array.getElem?_eq_some_iff.mp b3).1
  have hheap : ((T.setVm vm').setCell a (vp_cell (X.2.1 kd) (n1, f1))).heap = H.setIfInBounds a (vp_cell (X.2.1 kd) (n1, f1)) := by rw [← hT]; rfl
  have oq : ∀ q : Nat, q ≠ a → (H.setIfInBounds a (vp_cell (X.2.1 kd) (n1, f1)))[q]? = H[q]? := fun q hq => by simp [Array.getElem?_setIfInBounds, Ne.symm hq]
  have hz : (H.setIfInBounds a (vp_cell (X.2.1 kd) (n1, f1))).size = H.size := by simp
  have hat : va_at X.1 vwCl (a, ah_cv X (.inl (kd, n1, f1))) (H.setIfInBounds a (vp_cell (X.2.1 kd) (n1, f1))) := by
    show (H.setIfInBounds a _)[a]? = some _
    simp [Array.getElem?_setIfInBounds, hl2]
  have hS1 : va_S (ah_A X) s.heap (H.setIfInBounds a (vp_cell (X.2.1 kd) (n1, f1))) (locs ++ (scr.stretch sp.toNatClampNeg n.toNatClampNeg).zipIdx.map fun q => ⟨a, dp.toNatClampNeg + q.2⟩) := ⟨by rw [hz]; exact hS.1, fun q q1 q2 => by
      rw [oq q (fun e => q2 (by rw [e]; exact b1))]
      exact hS.2.1 q q1 q2, fun q hq => by
      rcases List.mem_append.mp hq with q | q
      · exact hS.2.2 _ q
      · obtain ⟨z, -, hz⟩ := List.mem_map.mp q
        rw [← hz]
        exact b1⟩
  obtain ⟨t, a1, b4⟩ := k.2.2 (la := la) (e := e) (below := below) (Q := Q) c0 z0 _ _ ls C hr (hR.set b1 b2 hat hz oq) hS1 hls h1 h2 h3 h4 _ hheap X'
  exact ⟨t, step t a1, b4⟩
theorem rt_cpb (hl : Cond.methodLink y.cls idx arraycopyName ∈ gw_t) (hcat : (st.map fun v => v.category).sum ≤ 8) (hd : decode cc pc = .ok (.invokestatic idx, 3)) (hx : hp_cpb X.2.2.2 h x sp z dp n = some hh) (k : Rt X y cc nL (d + 1) (pc + 3) l st hh r h2) : Rt X y cc nL (d + 1) pc l (.int n :: .int dp :: va_rf z :: .int sp :: va_rf x :: st) h r h2 := by
  unfold hp_cpb at hx
  split at hx
  · rename_i a n0 f n1 g q0 q1
    obtain ⟨a0, rfl, ha0⟩ := hp_ar_spec q0
    obtain ⟨a', e1, ha⟩ := hp_ar_spec q1
    cases e1
    split at hx
    · cases hx
    · rename_i hno
      cases hx
      simp only [not_or] at hno
      obtain ⟨hs1, hs2, hs3, hs4, hs5, hE, hN, hfit⟩ := hno
      refine rt_copyG (kd := 0) (n1 := n1) (g1 := .inl g) (cs := fun _ _ _ => True) (by decide) hl hcat hd hs1 hs2 hs3 (by omega) hE hN ha ?_ k
      intro s H hK hR
      have hfit' : ∀ i, i < n.toNatClampNeg → fits .byte (.int (f (sp.toNatClampNeg + i))) = true := fun i hi => by
        have := (Bool.not_eq_false _).mp hfit
        exact List.all_eq_true.mp this i (List.mem_range.mpr hi)
      rcases hR.2.1 a0 _ ha0 with ⟨g1, g2, g3⟩ | ⟨e1, e2⟩ | ⟨e1, e2⟩
      · have hc : H[a0]? = some (vp_cell (X.2.1 0) (n0, .inl f)) := g3
        obtain ⟨-, k0, hk0, cm0, hkk0⟩ := (hK.1.2 0 _ (ah_tys_at X (by decide))).1 n0 (fun j => .int (f j))
        refine ⟨_, k0, cm0, hc, (fun _ h => by cases h), (fun h => by cases h), hk0, hkk0, ?_, va_copied (fun q => .int q) (X.2.1 0) (X.2.1 0) f g (by omega), fun T hT vm' hal dComp hdc i hi => ?_⟩
        · rw [vp_cell_i, arrV_size]; omega
        · have e : (vp_cell (X.2.1 0) (n0, .inl f)).slots.getD (sp.toNatClampNeg + i) .null = .int (f (sp.toNatClampNeg + i)) := by
            show (arrV (X.2.1 0) n0 (fun j => .int (f j))).slots.getD _ _ = _
            rw [Array.getD_eq_getD_getElem?, arrV_read _ _ (by omega)]
            rfl
          rw [e]
          exact ⟨hfit' i hi, trivial⟩
      · cases e2
      · cases e2
        obtain ⟨cell, t1, ⟨t2, k0, hk0, cm0, hkk0⟩, t3, t4, t5, t6, t7⟩ := hK.2.2.2.2.2.2.2.1
        subst e1
        refine ⟨cell, k0, cm0, by rw [hR.2.2.1 _ hR.2.2.2.2.2]; exact t1, t2, t3, hk0, hkk0, by omega, va_copiedX (fun q => .int q) cell (X.2.1 0) (fun _ => 0) g (n0 := 0) (fun j hj => absurd hj (Nat.not_lt_zero j)) (by omega), fun T hT vm' hal dComp hdc i hi => absurd hi (by omega)⟩
  · cases hx
theorem rt_cpq (hl : Cond.methodLink y.cls idx arraycopyName ∈ gw_t) (hcat : (st.map fun v => v.category).sum ≤ 8) (hd : decode cc pc = .ok (.invokestatic idx, 3)) (hx : hp_cpq X.2.2.2 h x sp z dp n = some hh) (k : Rt X y cc nL (d + 1) (pc + 3) l st hh r h2) : Rt X y cc nL (d + 1) pc l (.int n :: .int dp :: va_rf z :: .int sp :: va_rf x :: st) h r h2 := by
  unfold hp_cpq at hx
  split at hx
  · rename_i a n0 f n1 g q0 q1
    obtain ⟨a0, rfl, ha0⟩ := hp_ar_spec q0
    obtain ⟨a', e1, ha⟩ := hp_ar_spec q1
    cases e1
    split at hx
    · cases hx
    · rename_i hno
      cases hx
      simp only [not_or] at hno
      obtain ⟨hs1, hs2, hs3, hs4, hs5, hE, hN, hfit⟩ := hno
      refine rt_copyG (kd := 4) (n1 := n1) (g1 := .inr (.inr (.inr (.inr g)))) (cs := fun _ _ _ => True) (by decide) hl hcat hd hs1 hs2 hs3 (by omega) hE hN ha ?_ k
      intro s H hK hR
      have hfit' : ∀ i, i < n.toNatClampNeg → hp_obj h (f (sp.toNatClampNeg + i)) = true := fun i hi => by
        have := (Bool.not_eq_false _).mp hfit
        exact List.all_eq_true.mp this i (List.mem_range.mpr hi)
      rcases hR.2.1 a0 _ ha0 with ⟨g1, g2, g3⟩ | ⟨e1, e2⟩ | ⟨e1, e2⟩
      · have hc : H[a0]? = some (vp_cell (X.2.1 4) (n0, .inr (.inr (.inr (.inr f))))) := g3
        obtain ⟨-, k0, hk0, cm0, hkk0⟩ := (hK.1.2 4 _ (ah_tys_at X (by decide))).1 n0 (fun j => va_rf (f j))
        refine ⟨_, k0, cm0, hc, (fun _ h => by cases h), (fun h => by cases h), hk0, hkk0, ?_, va_copied (fun q => va_rf q) (X.2.1 4) (X.2.1 4) f g (by omega), fun T hT vm' hal dComp hdc i hi => ?_⟩
        · rw [vp_cell_q, arrV_size]; omega
        · have e : (vp_cell (X.2.1 4) (n0, .inr (.inr (.inr (.inr f))))).slots.getD (sp.toNatClampNeg + i) .null = va_rf (f (sp.toNatClampNeg + i)) := by
            show (arrV (X.2.1 4) n0 (fun j => va_rf (f j))).slots.getD _ _ = _
            rw [Array.getD_eq_getD_getElem?, arrV_read _ _ (by omega)]
            rfl
          rw [e]
          have ho := hfit' i hi
          cases hy : f (sp.toNatClampNeg + i) with
          | none => exact ⟨rfl, trivial⟩
          | some b =>
            rw [hy] at ho
            obtain ⟨cellV, g1, g2, ⟨kC, hkC⟩, hasg⟩ := ah_any hK hR ho
            obtain ⟨kA, comp, r1, r2, r3, -⟩ := (hK.1.2 4 _ (ah_tys_at X (by decide))).2
            have hdc2 := hdc kA r1
            have ec : dComp = comp := by
              have := hdc2.symm.trans r2
              injection this
            subst ec
            obtain ⟨kE, hkE, -⟩ := Vm.findClass_spec r3
            obtain ⟨kC', hkC', -⟩ := hal.2.2 _ _ hkC
            obtain ⟨kE', hkE', -⟩ := hal.2.2 _ _ hkE
            refine ⟨rfl, cellV, (show T.heap[b]? = some cellV by rw [hT]; exact g1), (fun q h => by rw [h] at g2; cases g2), ⟨kC', hkC'⟩, ?_, ?_⟩
            · exact ⟨kE', hkE'⟩
            · show vm'.assignable _ _ = true
              rw [hal.assignable]
              exact hasg _ r3
      · cases e2
        obtain ⟨cell, t1, ⟨t2, k0, hk0, cm0, hkk0⟩, t3, t4, t5, t6, t7⟩ := hK.2.2.2.2.2.2.1
        subst e1
        refine ⟨cell, k0, cm0, by rw [hR.2.2.1 _ hR.2.2.2.2.1]; exact t1, t2, t3, hk0, hkk0, by omega, va_copiedX (fun q => va_rf q) cell (X.2.1 4) (fun _ => none) g (n0 := 0) (fun j hj => absurd hj (Nat.not_lt_zero j)) (by omega), fun T hT vm' hal dComp hdc i hi => absurd hi (by omega)⟩
      · cases e2
  · cases hx
/-- the class of a row of Object that the run made -/
def hp_isq (E : ah_E) (h : ah_H) (x : Option Nat) : Bool := match hp_ar h x with
  | some (4, _, .inr (.inr (.inr (.inr _)))) => decide (¬ x = some E.1)
  | _ => false
theorem rt_getC (hl : Cond.methodLink y.cls idx ⟨"java/lang/Object", "getClass", "()Ljava/lang/Class;"⟩ ∈ gw_t) (hcat : (st.map fun v => v.category).sum ≤ 8) (hd : decode cc pc = .ok (.invokevirtual idx, 3)) (hx : hp_isq X.2.2.2 h x = true) (k : Rt X y cc nL (d + 1) (pc + 3) l (va_rf (some X.2.2.2.2.2.1) :: st) h r h2) : Rt X y cc nL (d + 1) pc l (va_rf x :: st) h r h2 := by
  unfold hp_isq at hx
  split at hx
  · rename_i n f q0
    obtain ⟨a, rfl, ha⟩ := hp_ar_spec q0
    have hne : ¬ some a = some X.2.2.2.1 := of_decide_eq_true hx
    refine ⟨k.1, k.2.1, ?_⟩
    intro p la e R s m args below meth c Q c0 z0 H locs ls C hr hR hS hls h1 h2 h3 h4
    obtain ⟨hx, hb, hml, hown, hts, -, hK, hf, hlo, -⟩ := id C
    have hc : H[a]? = some (vp_cell (X.2.1 4) (n, .inr (.inr (.inr (.inr f))))) := by
      rcases hR.2.1 a _ ha with q | ⟨q, -⟩ | ⟨-, q⟩
      · exact q.2.2
      · exact absurd (by rw [q]) hne
      · cases q
    have hnm : s.vm.findClass "[Ljava/lang/Object;" = some (X.2.1 4) := va_nmO (hK.1.2 4 _ (ah_tys_at X (by decide))).2 (by decide +kernel)
    exact va_getC hx hb (by rw [hml]; exact hls.1.symm) hown (hts _ hl) (va_Dc.use hK.2.2.2.2.2.2.2.2.2.1) (hts _ nt_gcS) (hts _ nt_gcI) (hts _ nt_gcN) hK.2.2.2.2.2.2.2.2.1 ⟨_, hc, rfl, hnm⟩ (by omega) (by omega) hd (k.2.2 c0 z0 H locs ls C hr hR hS hls h1 h2 h3 h4)
  · cases hx
end RTN
