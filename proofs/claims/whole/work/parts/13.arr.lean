/-! ===== arrays of the abstract heap ===== -/
def hp_ar (h : ah_H) (r : Option Nat) : Option (Nat × vp_A) := match r with
  | none => none
  | some a => match h.2.2 a with
    | some (.inl q) => some q
    | _ => none
theorem hp_ar_spec {h : ah_H} {r : Option Nat} {q : Nat × vp_A} (e : hp_ar h r = some q) : ∃ a, r = some a ∧ h.2.2 a = some (.inl q) := by
  unfold hp_ar at e
  cases r with
  | none => cases e
  | some a =>
    simp only at e
    split at e
    · rename_i q0 hq
      cases e
      exact ⟨a, rfl, hq⟩
    · cases e
theorem hp_ar_of {h : ah_H} {a : Nat} {q : Nat × vp_A} (e : h.2.2 a = some (.inl q)) : hp_ar h (some a) = some q := by simp [hp_ar, e]
def hp_len (h : ah_H) (r : Option Nat) : Option Int32 := match hp_ar h r with
  | some q => if q.1 < 6 then some (Int32.ofNat q.2.1) else none
  | none => none
/-- an int of an array of ints (2) or of bytes and booleans (0, 1) -/
def hp_ldi (h : ah_H) (r : Option Nat) (i : Int32) : Option Int32 := match hp_ar h r with
  | some (2, n, .inl f) => if i < 0 ∨ n ≤ i.toNatClampNeg then none else some (f i.toNatClampNeg)
  | _ => none
def hp_ldb (h : ah_H) (r : Option Nat) (i : Int32) : Option Int32 := match hp_ar h r with
  | some (0, n, .inl f) => if i < 0 ∨ n ≤ i.toNatClampNeg then none else some (f i.toNatClampNeg)
  | some (1, n, .inl f) => if i < 0 ∨ n ≤ i.toNatClampNeg then none else some (f i.toNatClampNeg)
  | _ => none
def hp_ldl (h : ah_H) (r : Option Nat) (i : Int32) : Option Int64 := match hp_ar h r with
  | some (3, n, .inr (.inl f)) => if i < 0 ∨ n ≤ i.toNatClampNeg then none else some (f i.toNatClampNeg)
  | _ => none
def hp_ldq (h : ah_H) (r : Option Nat) (i : Int32) : Option (Option Nat) := match hp_ar h r with
  | some (4, n, .inr (.inr (.inr (.inr f)))) => if i < 0 ∨ n ≤ i.toNatClampNeg then none else some (f i.toNatClampNeg)
  | some (5, n, .inr (.inr (.inr (.inr f)))) => if i < 0 ∨ n ≤ i.toNatClampNeg then none else some (f i.toNatClampNeg)
  | _ => none
def hp_sti (h : ah_H) (r : Option Nat) (i x : Int32) : Option ah_H := match r, hp_ar h r with
  | some a, some (2, n, .inl f) => if i < 0 ∨ n ≤ i.toNatClampNeg then none else some (ah_set h a (.inl (2, n, .inl (upd f i.toNatClampNeg x))))
  | _, _ => none
def hp_stb (h : ah_H) (r : Option Nat) (i x : Int32) : Option ah_H := match r, hp_ar h r with
  | some a, some (0, n, .inl f) => if i < 0 ∨ n ≤ i.toNatClampNeg then none else some (ah_set h a (.inl (0, n, .inl (upd f i.toNatClampNeg x.toInt8.toInt32))))
  | some a, some (1, n, .inl f) => if i < 0 ∨ n ≤ i.toNatClampNeg then none else some (ah_set h a (.inl (1, n, .inl (upd f i.toNatClampNeg (vp_nar .boolean x)))))
  | _, _ => none
def hp_stl (h : ah_H) (r : Option Nat) (i : Int32) (x : Int64) : Option ah_H := match r, hp_ar h r with
  | some a, some (3, n, .inr (.inl f)) => if i < 0 ∨ n ≤ i.toNatClampNeg then none else some (ah_set h a (.inl (3, n, .inr (.inl (vp_updL f i.toNatClampNeg x)))))
  | _, _ => none
/-- an object whose class may lie in a row of Object -/
def hp_obj (h : ah_H) (v : Option Nat) : Bool := match v with
  | none => true
  | some b => match h.2.2 b with
    | some (.inr o) => decide (1 ≤ o.1 ∧ o.1 ≤ 11)
    | _ => false
def hp_cls (h : ah_H) (v : Option Nat) (ci : Nat) : Bool := match v with
  | none => true
  | some b => match h.2.2 b with
    | some (.inr o) => decide (o.1 = ci)
    | _ => false
def hp_stq (h : ah_H) (r : Option Nat) (i : Int32) (v : Option Nat) : Option ah_H := match r, hp_ar h r with
  | some a, some (4, n, .inr (.inr (.inr (.inr f)))) => if i < 0 ∨ n ≤ i.toNatClampNeg ∨ hp_obj h v = false then none else some (ah_set h a (.inl (4, n, .inr (.inr (.inr (.inr (va_up f i.toNatClampNeg v)))))))
  | some a, some (5, n, .inr (.inr (.inr (.inr f)))) => if i < 0 ∨ n ≤ i.toNatClampNeg ∨ hp_cls h v 4 = false then none else some (ah_set h a (.inl (5, n, .inr (.inr (.inr (.inr (va_up f i.toNatClampNeg v)))))))
  | _, _ => none
theorem ah_in {i : Int32} {n : Nat} (h : ¬ (i < 0 ∨ n ≤ i.toNatClampNeg)) : vp_in i n ∧ 0 < n := ⟨h, by
  have := fun q => h (Or.inr q)
  omega⟩
theorem cas_1 : Cond.castable "LetterTree$Disk" "java/lang/Object" ∈ ah_ns := List.mem_filter.mpr ⟨List.mem_of_getElem? (i := 1526) (by decide +kernel), rfl⟩
theorem cas_2 : Cond.castable "LetterTree$Entries" "java/lang/Object" ∈ ah_ns := List.mem_filter.mpr ⟨List.mem_of_getElem? (i := 1528) (by decide +kernel), rfl⟩
theorem cas_3 : Cond.castable "LetterTree$Entry" "java/lang/Object" ∈ ah_ns := List.mem_filter.mpr ⟨List.mem_of_getElem? (i := 1532) (by decide +kernel), rfl⟩
theorem cas_4 : Cond.castable "LetterTree$Head" "java/lang/Object" ∈ ah_ns := List.mem_filter.mpr ⟨List.mem_of_getElem? (i := 1533) (by decide +kernel), rfl⟩
theorem cas_5 : Cond.castable "LetterTree$Letter" "java/lang/Object" ∈ ah_ns := List.mem_filter.mpr ⟨List.mem_of_getElem? (i := 1531) (by decide +kernel), rfl⟩
theorem cas_6 : Cond.castable "LetterTree$Page" "java/lang/Object" ∈ ah_ns := List.mem_filter.mpr ⟨List.mem_of_getElem? (i := 1529) (by decide +kernel), rfl⟩
theorem cas_7 : Cond.castable "LetterTree$Picture" "java/lang/Object" ∈ ah_ns := List.mem_filter.mpr ⟨List.mem_of_getElem? (i := 1534) (by decide +kernel), rfl⟩
theorem cas_8 : Cond.castable "LetterTree$Tape" "java/lang/Object" ∈ ah_ns := List.mem_filter.mpr ⟨List.mem_of_getElem? (i := 1525) (by decide +kernel), rfl⟩
theorem cas_9 : Cond.castable "LetterTree$Tree" "java/lang/Object" ∈ ah_ns := List.mem_filter.mpr ⟨List.mem_of_getElem? (i := 1527) (by decide +kernel), rfl⟩
theorem cas_10 : Cond.castable "LetterTree" "java/lang/Object" ∈ ah_ns := List.mem_filter.mpr ⟨List.mem_of_getElem? (i := 1524) (by decide +kernel), rfl⟩
theorem cas_11 : Cond.castable "LetterTreeModel" "java/lang/Object" ∈ ah_ns := List.mem_filter.mpr ⟨List.mem_of_getElem? (i := 1530) (by decide +kernel), rfl⟩
section RTA
variable {X : ah_X} {y : MethodName} {cc : ByteArray} {nL d pc : Nat} {l : List (Nat × Value)} {st : List Value} {h hh h2 : ah_H} {r : Option Value} {x : Option Nat} {i : Int32}

theorem rt_alen {z : Int32} (hd : decode cc pc = .ok (.arraylength, 1)) (hx : hp_len h x = some z) (k : Rt X y cc nL d (pc + 1) l (.int z :: st) h r h2) : Rt X y cc nL d pc l (va_rf x :: st) h r h2 := by
  unfold hp_len at hx
  split at hx
  · rename_i q hq
    split at hx
    · rename_i h6
      obtain ⟨a, rfl, ha⟩ := hp_ar_spec hq
      cases hx
      obtain ⟨kd, n, f⟩ := q
      refine ⟨k.1, k.2.1, ?_⟩
      intro p la e R s m args below meth c Q c0 z0 H locs ls C hr hR hS hl h1 h2 h3 h4
      have kk := (k.2.2 c0 z0 H locs ls C hr hR hS hl h1 h2 h3 h4)
      have hK := C.2.2.2.2.2.2.1
      rcases hR.2.1 a _ ha with ⟨g1, g2, g3⟩ | ⟨e1, e2⟩ | ⟨e1, e2⟩
      · exact va_alen C.1 C.2.1 hK.1 (ah_P1 (q := (a, .inl (X.2.1 kd, n, f))) g3) 0 kd rfl (ah_tys_at X h6) rfl hd kk
      · cases e2
        obtain ⟨cell, t1, t2, t3, t4, t5, t6, t7⟩ := hK.2.2.2.2.2.2.1
        subst e1
        exact W.alen (n := Int32.ofNat 0) C.1 C.2.1 (by rw [hR.2.2.1 _ hR.2.2.2.2.1]; exact t1) t2 t5 rfl rfl hd kk
      · cases e2
        obtain ⟨cell, t1, t2, t3, t4, t5, t6, t7⟩ := hK.2.2.2.2.2.2.2.1
        subst e1
        exact W.alen (n := Int32.ofNat 0) C.1 C.2.1 (by rw [hR.2.2.1 _ hR.2.2.2.2.2]; exact t1) t2 t5 rfl rfl hd kk
    · cases hx
  · cases hx
theorem rt_iald {z : Int32} (hd : decode cc pc = .ok (.iaload, 1)) (hx : hp_ldi h x i = some z) (k : Rt X y cc nL d (pc + 1) l (.int z :: st) h r h2) : Rt X y cc nL d pc l (.int i :: va_rf x :: st) h r h2 := by
  unfold hp_ldi at hx
  split at hx
  · rename_i n f hq
    obtain ⟨a, rfl, ha⟩ := hp_ar_spec hq
    split at hx
    · cases hx
    · rename_i hin
      cases hx
      refine ⟨k.1, k.2.1, ?_⟩
      intro p la e R s m args below meth c Q c0 z0 H locs ls C hr hR hS hl h1 h2 h3 h4
      obtain ⟨g1, g2, g3⟩ := hR.arr ha (ah_in hin).2
      exact va_iald C.1 C.2.1 C.2.2.2.2.2.2.1.1 (ah_P1 (q := (a, .inl (X.2.1 2, n, .inl f))) g3) 0 2 rfl (ah_tys_at X (by decide)) (ah_in hin).1 hd (k.2.2 c0 z0 H locs ls C hr hR hS hl h1 h2 h3 h4)
  · cases hx
theorem rt_bald {z : Int32} (hd : decode cc pc = .ok (.baload, 1)) (hx : hp_ldb h x i = some z) (k : Rt X y cc nL d (pc + 1) l (.int z :: st) h r h2) : Rt X y cc nL d pc l (.int i :: va_rf x :: st) h r h2 := by
  unfold hp_ldb at hx
  split at hx
  · rename_i n f hq
    obtain ⟨a, rfl, ha⟩ := hp_ar_spec hq
    split at hx
    · cases hx
    · rename_i hin
      cases hx
      refine ⟨k.1, k.2.1, ?_⟩
      intro p la e R s m args below meth c Q c0 z0 H locs ls C hr hR hS hl h1 h2 h3 h4
      obtain ⟨g1, g2, g3⟩ := hR.arr ha (ah_in hin).2
      exact va_bald C.1 C.2.1 C.2.2.2.2.2.2.1.1 (ah_P1 (q := (a, .inl (X.2.1 0, n, .inl f))) g3) 0 0 rfl (ah_tys_at X (by decide)) (ah_in hin).1 hd (k.2.2 c0 z0 H locs ls C hr hR hS hl h1 h2 h3 h4)
  · rename_i n f hq
    obtain ⟨a, rfl, ha⟩ := hp_ar_spec hq
    split at hx
    · cases hx
    · rename_i hin
      cases hx
      refine ⟨k.1, k.2.1, ?_⟩
      intro p la e R s m args below meth c Q c0 z0 H locs ls C hr hR hS hl h1 h2 h3 h4
      obtain ⟨g1, g2, g3⟩ := hR.arr ha (ah_in hin).2
      exact va_zald C.1 C.2.1 C.2.2.2.2.2.2.1.1 (ah_P1 (q := (a, .inl (X.2.1 1, n, .inl f))) g3) 0 1 rfl (ah_tys_at X (by decide)) (ah_in hin).1 hd (k.2.2 c0 z0 H locs ls C hr hR hS hl h1 h2 h3 h4)
  · cases hx
theorem rt_lald {z : Int64} (hd : decode cc pc = .ok (.laload, 1)) (hx : hp_ldl h x i = some z) (k : Rt X y cc nL d (pc + 1) l (.long z :: st) h r h2) : Rt X y cc nL d pc l (.int i :: va_rf x :: st) h r h2 := by
  unfold hp_ldl at hx
  split at hx
  · rename_i n f hq
    obtain ⟨a, rfl, ha⟩ := hp_ar_spec hq
    split at hx
    · cases hx
    · rename_i hin
      cases hx
      refine ⟨k.1, k.2.1, ?_⟩
      intro p la e R s m args below meth c Q c0 z0 H locs ls C hr hR hS hl h1 h2 h3 h4
      obtain ⟨g1, g2, g3⟩ := hR.arr ha (ah_in hin).2
      exact va_lald C.1 C.2.1 C.2.2.2.2.2.2.1.1 (ah_P1 (q := (a, .inl (X.2.1 3, n, .inr (.inl f)))) g3) 0 3 rfl (ah_tys_at X (by decide)) (ah_in hin).1 hd (k.2.2 c0 z0 H locs ls C hr hR hS hl h1 h2 h3 h4)
  · cases hx
theorem rt_aald {z : Option Nat} (hd : decode cc pc = .ok (.aaload, 1)) (hx : hp_ldq h x i = some z) (k : Rt X y cc nL d (pc + 1) l (va_rf z :: st) h r h2) : Rt X y cc nL d pc l (.int i :: va_rf x :: st) h r h2 := by
  unfold hp_ldq at hx
  split at hx
  · rename_i n f hq
    obtain ⟨a, rfl, ha⟩ := hp_ar_spec hq
    split at hx
    · cases hx
    · rename_i hin
      cases hx
      refine ⟨k.1, k.2.1, ?_⟩
      intro p la e R s m args below meth c Q c0 z0 H locs ls C hr hR hS hl h1 h2 h3 h4
      obtain ⟨g1, g2, g3⟩ := hR.arr ha (ah_in hin).2
      exact va_aldq C.1 C.2.1 C.2.2.2.2.2.2.1.1 (ah_P1 (q := (a, .inl (X.2.1 4, n, .inr (.inr (.inr (.inr f)))))) g3) 0 4 rfl (ah_tys_at X (by decide)) (ah_in hin).1 hd (k.2.2 c0 z0 H locs ls C hr hR hS hl h1 h2 h3 h4)
  · rename_i n f hq
    obtain ⟨a, rfl, ha⟩ := hp_ar_spec hq
    split at hx
    · cases hx
    · rename_i hin
      cases hx
      refine ⟨k.1, k.2.1, ?_⟩
      intro p la e R s m args below meth c Q c0 z0 H locs ls C hr hR hS hl h1 h2 h3 h4
      obtain ⟨g1, g2, g3⟩ := hR.arr ha (ah_in hin).2
      exact va_aldq C.1 C.2.1 C.2.2.2.2.2.2.1.1 (ah_P1 (q := (a, .inl (X.2.1 5, n, .inr (.inr (.inr (.inr f)))))) g3) 0 5 rfl (ah_tys_at X (by decide)) (ah_in hin).1 hd (k.2.2 c0 z0 H locs ls C hr hR hS hl h1 h2 h3 h4)
  · cases hx
theorem rt_iast {z : Int32} (hd : decode cc pc = .ok (.iastore, 1)) (hx : hp_sti h x i z = some hh) (k : Rt X y cc nL d (pc + 1) l st hh r h2) : Rt X y cc nL d pc l (.int z :: .int i :: va_rf x :: st) h r h2 := by
  unfold hp_sti at hx
  split at hx
  · rename_i a n f hq
    obtain ⟨a', e0, ha⟩ := hp_ar_spec hq
    cases e0
    split at hx
    · cases hx
    · rename_i hin
      cases hx
      refine ⟨k.1, k.2.1, ?_⟩
      intro p la e R s m args below meth c Q c0 z0 H locs ls C hr hR hS hl h1 h2 h3 h4
      obtain ⟨g1, g2, g3⟩ := hR.arr ha (ah_in hin).2
      refine W.iast C.1 C.2.1 g3 ((C.2.2.2.2.2.2.1.1.2 2 _ (ah_tys_at X (by decide))).1 n (fun j => .int (f j))) (fun q => by cases q) (by show ¬ (i < 0 ∨ (arrV _ _ _).slots.size ≤ _); rw [arrV_size]; exact hin) rfl rfl hd fun H1 e1 z1 oq => ?_
      have hat : va_at X.1 vwCl (a, ah_cv X (.inl (2, n, .inl (upd f i.toNatClampNeg z)))) H1 := by
        show H1[a]? = some (vp_cell _ _)
        rw [e1, vp_cell_i, vp_cell_i, arrV_store]
        congr 2
        funext q
        by_cases hq : q = i.toNatClampNeg
        · subst hq
          simp [updV, upd]
          try rfl
        · simp [updV, upd, hq]
      exact k.2.2 c0 z0 H1 _ ls C hr (hR.set g1 g2 hat z1 oq) (hS.put z1 oq g1) hl h1 h2 h3 h4
  · cases hx
theorem rt_bast {z : Int32} (hd : decode cc pc = .ok (.bastore, 1)) (hx : hp_stb h x i z = some hh) (k : Rt X y cc nL d (pc + 1) l st hh r h2) : Rt X y cc nL d pc l (.int z :: .int i :: va_rf x :: st) h r h2 := by
  unfold hp_stb at hx
  split at hx
  · rename_i a n f hq
    obtain ⟨a', e0, ha⟩ := hp_ar_spec hq
    cases e0
    split at hx
    · cases hx
    · rename_i hin
      cases hx
      refine ⟨k.1, k.2.1, ?_⟩
      intro p la e R s m args below meth c Q c0 z0 H locs ls C hr hR hS hl h1 h2 h3 h4
      obtain ⟨g1, g2, g3⟩ := hR.arr ha (ah_in hin).2
      refine W.bast C.1 C.2.1 g3 ((C.2.2.2.2.2.2.1.1.2 0 _ (ah_tys_at X (by decide))).1 n (fun j => .int (f j))) (fun q => by cases q) (by show ¬ (i < 0 ∨ (arrV _ _ _).slots.size ≤ _); rw [arrV_size]; exact hin) rfl rfl hd fun H1 e1 z1 oq => ?_
      have hat : va_at X.1 vwCl (a, ah_cv X (.inl (0, n, .inl (upd f i.toNatClampNeg z.toInt8.toInt32)))) H1 := by
        show H1[a]? = some (vp_cell _ _)
        rw [e1, vp_cell_i, vp_cell_i, arrV_store]
        congr 2
        funext q
        by_cases hq : q = i.toNatClampNeg
        · subst hq
          simp [updV, upd, vp_nar, narrow]
          try rfl
        · simp [updV, upd, vp_nar, narrow, hq]
      exact k.2.2 c0 z0 H1 _ ls C hr (hR.set g1 g2 hat z1 oq) (hS.put z1 oq g1) hl h1 h2 h3 h4
  · rename_i a n f hq
    obtain ⟨a', e0, ha⟩ := hp_ar_spec hq
    cases e0
    split at hx
    · cases hx
    · rename_i hin
      cases hx
      refine ⟨k.1, k.2.1, ?_⟩
      intro p la e R s m args below meth c Q c0 z0 H locs ls C hr hR hS hl h1 h2 h3 h4
      obtain ⟨g1, g2, g3⟩ := hR.arr ha (ah_in hin).2
      refine W.zast C.1 C.2.1 g3 ((C.2.2.2.2.2.2.1.1.2 1 _ (ah_tys_at X (by decide))).1 n (fun j => .int (f j))) (fun q => by cases q) (by show ¬ (i < 0 ∨ (arrV _ _ _).slots.size ≤ _); rw [arrV_size]; exact hin) rfl rfl hd fun H1 e1 z1 oq => ?_
      have hat : va_at X.1 vwCl (a, ah_cv X (.inl (1, n, .inl (upd f i.toNatClampNeg (vp_nar .boolean z))))) H1 := by
        show H1[a]? = some (vp_cell _ _)
        rw [e1, vp_cell_i, vp_cell_i, arrV_store]
        congr 2
        funext q
        by_cases hq : q = i.toNatClampNeg
        · subst hq
          simp [updV, upd, vp_nar, narrow]
          try rfl
        · simp [updV, upd, vp_nar, narrow, hq]
      exact k.2.2 c0 z0 H1 _ ls C hr (hR.set g1 g2 hat z1 oq) (hS.put z1 oq g1) hl h1 h2 h3 h4
  · cases hx
theorem rt_last {z : Int64} (hd : decode cc pc = .ok (.lastore, 1)) (hx : hp_stl h x i z = some hh) (k : Rt X y cc nL d (pc + 1) l st hh r h2) : Rt X y cc nL d pc l (.long z :: .int i :: va_rf x :: st) h r h2 := by
  unfold hp_stl at hx
  split at hx
  · rename_i a n f hq
    obtain ⟨a', e0, ha⟩ := hp_ar_spec hq
    cases e0
    split at hx
    · cases hx
    · rename_i hin
      cases hx
      refine ⟨k.1, k.2.1, ?_⟩
      intro p la e R s m args below meth c Q c0 z0 H locs ls C hr hR hS hl h1 h2 h3 h4
      obtain ⟨g1, g2, g3⟩ := hR.arr ha (ah_in hin).2
      refine W.last C.1 C.2.1 g3 ((C.2.2.2.2.2.2.1.1.2 3 _ (ah_tys_at X (by decide))).1 n (fun j => .long (f j))) (fun q => by cases q) (by show ¬ (i < 0 ∨ (arrV _ _ _).slots.size ≤ _); rw [arrV_size]; exact hin) rfl rfl hd fun H1 e1 z1 oq => ?_
      have hat : va_at X.1 vwCl (a, ah_cv X (.inl (3, n, .inr (.inl (vp_updL f i.toNatClampNeg z))))) H1 := by
        show H1[a]? = some (vp_cell _ _)
        rw [e1, vp_cell_l, vp_cell_l, arrV_store]
        congr 2
        funext q
        by_cases hq : q = i.toNatClampNeg
        · subst hq
          simp [updV, vp_updL]
          try rfl
        · simp [updV, vp_updL, hq]
      exact k.2.2 c0 z0 H1 _ ls C hr (hR.set g1 g2 hat z1 oq) (hS.put z1 oq g1) hl h1 h2 h3 h4
  · cases hx
theorem ah_any {X : ah_X} {h : ah_H} {H : Heap} {s : State} {b : Nat} (hK : ah_K X s) (hR : ah_R X h H) (hb : hp_obj h (some b) = true) : va_Any "java/lang/Object" s H b := by
  unfold hp_obj at hb
  simp only at hb
  split at hb
  · rename_i o ho
    obtain ⟨ci, fs⟩ := o
    have hr : 1 ≤ ci ∧ ci ≤ 11 := of_decide_eq_true hb
    obtain ⟨-, -, hat⟩ := hR.obj ho
    have key : ∀ ci, 1 ≤ ci ∧ ci ≤ 11 → ∃ q : vw_C, vwCl[ci]? = some q ∧ Cond.castable q.1 "java/lang/Object" ∈ ah_ns := by
      intro ci hc
      rcases (show ci = 1 ∨ ci = 2 ∨ ci = 3 ∨ ci = 4 ∨ ci = 5 ∨ ci = 6 ∨ ci = 7 ∨ ci = 8 ∨ ci = 9 ∨ ci = 10 ∨ ci = 11 by omega) with rfl | rfl | rfl | rfl | rfl | rfl | rfl | rfl | rfl | rfl | rfl
      · exact ⟨_, rfl, cas_1⟩
      · exact ⟨_, rfl, cas_2⟩
      · exact ⟨_, rfl, cas_3⟩
      · exact ⟨_, rfl, cas_4⟩
      · exact ⟨_, rfl, cas_5⟩
      · exact ⟨_, rfl, cas_6⟩
      · exact ⟨_, rfl, cas_7⟩
      · exact ⟨_, rfl, cas_8⟩
      · exact ⟨_, rfl, cas_9⟩
      · exact ⟨_, rfl, cas_10⟩
      · exact ⟨_, rfl, cas_11⟩
    obtain ⟨q, hq, hcas⟩ := key ci hr
    refine va_rAny hK.1 (ah_P1 (q := (b, .inr (ci, fs))) hat) (q0 := 0) rfl hq (fun comp c0 g1 g2 => ?_)
    obtain ⟨c1, t1, f1, f2, f3⟩ := Cond.castable_spec (va_Nw.use (A := #[]) rfl (hK.2.1 _ hcas))
    cases g1.symm.trans f2
    cases g2.symm.trans f1
    exact f3
  · cases hb
theorem rt_aast {z : Option Nat} (hd : decode cc pc = .ok (.aastore, 1)) (hx : hp_stq h x i z = some hh) (k : Rt X y cc nL d (pc + 1) l st hh r h2) : Rt X y cc nL d pc l (va_rf z :: .int i :: va_rf x :: st) h r h2 := by
  unfold hp_stq at hx
  split at hx
  · rename_i a n f hq
    obtain ⟨a', e0, ha⟩ := hp_ar_spec hq
    cases e0
    split at hx
    · cases hx
    · rename_i hno
      cases hx
      have hin : ¬ (i < 0 ∨ n ≤ i.toNatClampNeg) := fun q => hno (q.elim Or.inl (fun q => Or.inr (Or.inl q)))
      have hob : hp_obj h z = true := by
        cases hb : hp_obj h z with
        | true => rfl
        | false => exact absurd (Or.inr (Or.inr hb)) hno
      refine ⟨k.1, k.2.1, ?_⟩
      intro p la e R s m args below meth c Q c0 z0 H locs ls C hr hR hS hl h1 h2 h3 h4
      obtain ⟨g1, g2, g3⟩ := hR.arr ha (ah_in hin).2
      have hK := C.2.2.2.2.2.2.1
      have hlt : i.toNatClampNeg < n := Nat.not_le.mp fun q => hin (Or.inr q)
      have fin : ∀ H1 : Heap, H1[a]? = some ((vp_cell (X.2.1 4) (n, .inr (.inr (.inr (.inr f))))).setSlot i.toNatClampNeg (va_rf z)) → va_at X.1 vwCl (a, ah_cv X (.inl (4, n, .inr (.inr (.inr (.inr (va_up f i.toNatClampNeg z))))))) H1 := by
        intro H1 e1
        show H1[a]? = some (vp_cell _ _)
        rw [e1, vp_cell_q, vp_cell_q, arrV_store]
        congr 2
        funext q
        by_cases hq : q = i.toNatClampNeg
        · subst hq
          simp [updV, va_up]
        · simp [updV, va_up, hq]
      cases z with
      | none =>
        refine va_WaastN (C := "java/lang/Object") C.1 C.2.1 g3 ((hK.1.2 4 _ (ah_tys_at X (by decide))).1 n (fun j => va_rf (f j))) (fun q => by cases q) (by show ¬ (i < 0 ∨ (arrV _ _ _).slots.size ≤ _); rw [arrV_size]; exact hin) rfl rfl hd fun H1 e1 z1 oq => ?_
        exact k.2.2 c0 z0 H1 _ ls C hr (hR.set g1 g2 (fin H1 e1) z1 oq) (hS.put z1 oq g1) hl h1 h2 h3 h4
      | some v =>
        obtain ⟨cellV, v1, v2, ⟨kv, v3⟩, v4⟩ := ah_any hK hR hob
        obtain ⟨kA, comp, k1, k2, k3, -⟩ := (hK.1.2 4 _ (ah_tys_at X (by decide))).2
        obtain ⟨kE, hkE, -⟩ := Vm.findClass_spec k3
        refine W.aast C.1 C.2.1 g3 (fun q h => by cases h) (fun h => by cases h) k1 k2 rfl hkE ⟨fun q => hin (Or.inl q), by show _ < (arrV _ _ _).slots.size; rw [arrV_size]; exact hlt⟩ v1 (fun q h => by rw [h] at v2; cases v2) v3 (v4 _ k3) rfl rfl hd fun H1 e1 z1 oq => ?_
        exact k.2.2 c0 z0 H1 _ ls C hr (hR.set g1 g2 (fin H1 e1) z1 oq) (hS.put z1 oq g1) hl h1 h2 h3 h4
  · rename_i a n f hq
    obtain ⟨a', e0, ha⟩ := hp_ar_spec hq
    cases e0
    split at hx
    · cases hx
    · rename_i hno
      cases hx
      have hin : ¬ (i < 0 ∨ n ≤ i.toNatClampNeg) := fun q => hno (q.elim Or.inl (fun q => Or.inr (Or.inl q)))
      have hob : hp_cls h z 4 = true := by
        cases hb : hp_cls h z 4 with
        | true => rfl
        | false => exact absurd (Or.inr (Or.inr hb)) hno
      refine ⟨k.1, k.2.1, ?_⟩
      intro p la e R s m args below meth c Q c0 z0 H locs ls C hr hR hS hl h1 h2 h3 h4
      obtain ⟨g1, g2, g3⟩ := hR.arr ha (ah_in hin).2
      have hK := C.2.2.2.2.2.2.1
      have hlt : i.toNatClampNeg < n := Nat.not_le.mp fun q => hin (Or.inr q)
      have fin : ∀ H1 : Heap, H1[a]? = some ((vp_cell (X.2.1 5) (n, .inr (.inr (.inr (.inr f))))).setSlot i.toNatClampNeg (va_rf z)) → va_at X.1 vwCl (a, ah_cv X (.inl (5, n, .inr (.inr (.inr (.inr (va_up f i.toNatClampNeg z))))))) H1 := by
        intro H1 e1
        show H1[a]? = some (vp_cell _ _)
        rw [e1, vp_cell_q, vp_cell_q, arrV_store]
        congr 2
        funext q
        by_cases hq : q = i.toNatClampNeg
        · subst hq
          simp [updV, va_up]
        · simp [updV, va_up, hq]
      cases z with
      | none =>
        refine va_WaastN (C := "LetterTree$Head") C.1 C.2.1 g3 ((hK.1.2 5 _ (ah_tys_at X (by decide))).1 n (fun j => va_rf (f j))) (fun q => by cases q) (by show ¬ (i < 0 ∨ (arrV _ _ _).slots.size ≤ _); rw [arrV_size]; exact hin) rfl rfl hd fun H1 e1 z1 oq => ?_
        exact k.2.2 c0 z0 H1 _ ls C hr (hR.set g1 g2 (fin H1 e1) z1 oq) (hS.put z1 oq g1) hl h1 h2 h3 h4
      | some v =>
        unfold hp_cls at hob
        simp only at hob
        split at hob
        · rename_i ob hobj
          obtain ⟨cj, vs⟩ := ob
          have hcj : cj = 4 := of_decide_eq_true hob
          subst hcj
          obtain ⟨-, -, rr, hrr, cellV, v1, v2, v3, -⟩ := hR.obj hobj
          have hcls := (hK.1.1 4 _ (show vwCl[4]? = some (RX3, TX3, 5) from rfl)).2
          obtain ⟨kA, comp, k1, k2, k3, -⟩ := (hK.1.2 5 _ (ah_tys_at X (by decide))).2
          have hcomp : comp = X.1.1 4 := Option.some.inj (k3.symm.trans hcls.1)
          subst hcomp
          obtain ⟨kC, hkC, -⟩ := hcls.2
          refine W.aast C.1 C.2.1 g3 (fun q h => by cases h) (fun h => by cases h) k1 k2 rfl hkC ⟨fun q => hin (Or.inl q), by show _ < (arrV _ _ _).slots.size; rw [arrV_size]; exact hlt⟩ v1 (fun q h => by rw [v3] at h; cases h) (by rw [v2]; exact hkC) (by rw [v2]; exact va_assign hcls) rfl rfl hd fun H1 e1 z1 oq => ?_
          exact k.2.2 c0 z0 H1 _ ls C hr (hR.set g1 g2 (fin H1 e1) z1 oq) (hS.put z1 oq g1) hl h1 h2 h3 h4
        · cases hob
  · cases hx
/-- new arrays -/
def hp_na (h : ah_H) (kd : Nat) (i : Int32) (z : (Nat → Int32) ⊕ (Nat → Int64) ⊕ (Nat → UInt32) ⊕ (Nat → UInt64) ⊕ (Nat → Option Nat)) : Option ah_H := if i < 0 ∨ 1000000 < i.toNatClampNeg then none else some (ah_new h (.inl (kd, i.toNatClampNeg, z)) i.toNatClampNeg)
theorem rt_newa {at_ : ArrayType} (kd : Nat) {z : (Nat → Int32) ⊕ (Nat → Int64) ⊕ (Nat → UInt32) ⊕ (Nat → UInt64) ⊕ (Nat → Option Nat)} (h6 : kd < 4) (hty : newarray.typeOf at_ = ah_ty kd) (hw : Cond.arrayClass (newarray.typeOf at_) ∈ gw_t) (hz : ∀ (cA : ClassId) (N : Nat), vp_cell cA (N, z) = arrV cA N (fun _ => defaultValue (ah_ty kd))) (hcb : componentBytes (ah_ty kd) ≤ 8) (hd : decode cc pc = .ok (.newarray at_, 2)) (hx : hp_na h kd i z = some hh) (k : Rt X y cc nL d (pc + 2) l (va_rf (some h.1) :: st) hh r h2) : Rt X y cc nL d pc l (.int i :: st) h r h2 := by
  unfold hp_na at hx
  split at hx
  · cases hx
  · rename_i hno
    cases hx
    have k1 : h.1 + 1 ≤ h2.1 := k.1
    have k2 : h.2.1 + i.toNatClampNeg ≤ h2.2.1 := k.2.1
    refine ⟨by omega, by omega, ?_⟩
    intro p la e R s m args below meth c Q c0 z0 H locs ls C hr hR hS hl h1 h2 h3 h4
    have hK := C.2.2.2.2.2.2.1
    have hle : i.toNatClampNeg ≤ 1000000 := Nat.not_lt.mp fun q => hno (Or.inr q)
    have hmul : i.toNatClampNeg * componentBytes (newarray.typeOf at_) ≤ 536870912 := by
      rw [hty]
      calc i.toNatClampNeg * componentBytes (ah_ty kd) ≤ 1000000 * 8 := Nat.mul_le_mul hle hcb
        _ ≤ 536870912 := by decide
    refine va_newaK C.1 C.2.1 (C.2.2.2.2.1 _ hw) rfl hd rfl (fun q => hno (Or.inl q)) rfl hmul (by omega) (by omega) hR.1 fun H1 cA e1 z1 o1 hAr hNm => ?_
    have hcA : cA = X.2.1 kd := by
      have hRA := (hK.1.2 kd _ (ah_tys_at X (by omega))).2
      rw [hty] at hNm
      rcases (show kd = 0 ∨ kd = 1 ∨ kd = 2 ∨ kd = 3 by omega) with rfl | rfl | rfl | rfl <;> exact Option.some.inj (hNm.symm.trans hRA)
    subst hcA
    have hat : va_at X.1 vwCl (h.1, ah_cv X (.inl (kd, i.toNatClampNeg, z))) H1 := by
      show H1[h.1]? = some (vp_cell _ _)
      rw [hz, e1, hty]
    have hR1 := hR.new (n := i.toNatClampNeg) hat z1 (fun q hq => o1 q hq)
    have hS1 : va_S (ah_A X) s.heap H1 locs := ⟨Nat.le_trans hS.1 (by rw [z1, hR.1]; omega), fun q g1 g2 => (o1 q (Nat.lt_of_lt_of_le g1 (by rw [← hR.1]; exact hS.1))).trans (hS.2.1 q g1 g2), hS.2.2⟩
    have := k.2.2 c0 z0 H1 locs ls C hr hR1 hS1 hl (Nat.le_succ_of_le h1) (Nat.le_trans h2 (Nat.le_add_right _ _)) h3 h4
    have ec : (ah_new h (.inl (kd, i.toNatClampNeg, z)) i.toNatClampNeg).1 - c0 = h.1 - c0 + 1 := by show h.1 + 1 - c0 = _; omega
    have ez : (ah_new h (.inl (kd, i.toNatClampNeg, z)) i.toNatClampNeg).2.1 - z0 = h.2.1 - z0 + i.toNatClampNeg := by show h.2.1 + i.toNatClampNeg - z0 = _; omega
    rw [ec, ez] at this
    exact this
theorem rt_anew {idx : Nat} (kd : Nat) (Cn : String) (h6 : kd < 6) (hty : ah_ty kd = .object Cn) (hw : Cond.classLink y.cls idx Cn ∈ gw_t) (hao : ∀ U : State, ah_K X U → va_AO Cn U) (hd : decode cc pc = .ok (.anewarray idx, 3)) (hx : hp_na h kd i (.inr (.inr (.inr (.inr (fun _ => none))))) = some hh) (k : Rt X y cc nL d (pc + 3) l (va_rf (some h.1) :: st) hh r h2) : Rt X y cc nL d pc l (.int i :: st) h r h2 := by
  unfold hp_na at hx
  split at hx
  · cases hx
  · rename_i hno
    cases hx
    have k1 : h.1 + 1 ≤ h2.1 := k.1
    have k2 : h.2.1 + i.toNatClampNeg ≤ h2.2.1 := k.2.1
    refine ⟨by omega, by omega, ?_⟩
    intro p la e R s m args below meth c Q c0 z0 H locs ls C hr hR hS hl h1 h2 h3 h4
    have hK := C.2.2.2.2.2.2.1
    have hle : i.toNatClampNeg ≤ 1000000 := Nat.not_lt.mp fun q => hno (Or.inr q)
    refine W.anew C.1 C.2.1 C.2.2.2.1 (C.2.2.2.2.1 _ hw) (va_AO.use (hao s hK)) rfl hd rfl (fun q => hno (Or.inl q)) (by omega) (by omega) (by omega) fun cA kA comp f1 f2 f3 f4 => ?_
    have hcA : cA = X.2.1 kd := by
      have hRA := (hK.1.2 kd _ (ah_tys_at X h6)).2
      rw [hty] at hRA
      obtain ⟨-, -, -, -, -, r4⟩ := hRA
      exact Option.some.inj (f1.symm.trans r4)
    subst hcA
    rw [hR.1]
    generalize hH1 : H.push ({ cls := X.2.1 kd, slots := Array.replicate i.toNatClampNeg .null, vm := .none } : Cell) = H1
    have z1 : H1.size = h.1 + 1 := by rw [← hH1, Array.size_push, hR.1]
    have e1 : H1[h.1]? = some (arrV (X.2.1 kd) i.toNatClampNeg (fun _ => .null)) := by rw [← hH1, ← hR.1, Array.getElem?_push_size, ← arrV_new]
    have o1 : ∀ q : Nat, q < h.1 → H1[q]? = H[q]? := fun q hq => by rw [← hH1, Array.getElem?_push, if_neg (by rw [hR.1]; omega)]
    have hat : va_at X.1 vwCl (h.1, ah_cv X (.inl (kd, i.toNatClampNeg, .inr (.inr (.inr (.inr (fun _ => none))))))) H1 := by
      show H1[h.1]? = some (vp_cell _ _)
      rw [vp_cell_q]
      exact e1
    have hR1 := hR.new (n := i.toNatClampNeg) hat z1 o1
    have hS1 : va_S (ah_A X) s.heap H1 locs := ⟨Nat.le_trans hS.1 (by rw [z1, hR.1]; omega), fun q g1 g2 => (o1 q (Nat.lt_of_lt_of_le g1 (by rw [← hR.1]; exact hS.1))).trans (hS.2.1 q g1 g2), hS.2.2⟩
    have := k.2.2 c0 z0 H1 locs ls C hr hR1 hS1 hl (Nat.le_succ_of_le h1) (Nat.le_trans h2 (Nat.le_add_right _ _)) h3 h4
    have ec : (ah_new h (.inl (kd, i.toNatClampNeg, .inr (.inr (.inr (.inr (fun _ => none)))))) i.toNatClampNeg).1 - c0 = h.1 - c0 + 1 := by show h.1 + 1 - c0 = _; omega
    have ez : (ah_new h (.inl (kd, i.toNatClampNeg, .inr (.inr (.inr (.inr (fun _ => none)))))) i.toNatClampNeg).2.1 - z0 = h.2.1 - z0 + i.toNatClampNeg := by show h.2.1 + i.toNatClampNeg - z0 = _; omega
    rw [ec, ez] at this
    exact this
/-- casts to a class of ours -/
theorem rt_cast {idx ci : Nat} {Cn : String} {T : u_T} {N : Nat} (hc : vwCl[ci]? = some (Cn, T, N)) (hw : Cond.classLink y.cls idx Cn ∈ gw_t) (hd : decode cc pc = .ok (.checkcast idx, 3)) (hx : hp_cls h x ci = true) (k : Rt X y cc nL d (pc + 3) l (va_rf x :: st) h r h2) : Rt X y cc nL d pc l (va_rf x :: st) h r h2 := by
  refine ⟨k.1, k.2.1, ?_⟩
  intro p la e R s m args below meth c Q c0 z0 H locs ls C hr hR hS hl h1 h2 h3 h4
  have kk := (k.2.2 c0 z0 H locs ls C hr hR hS hl h1 h2 h3 h4)
  cases x with
  | none => exact lv_castN C.1 C.2.1 hd kk
  | some a =>
    unfold hp_cls at hx
    simp only at hx
    split at hx
    · rename_i ob hobj
      obtain ⟨cj, vs⟩ := ob
      have hcj : cj = ci := of_decide_eq_true hx
      subst hcj
      obtain ⟨-, -, hat⟩ := hR.obj hobj
      have hK := C.2.2.2.2.2.2.1
      exact va_castS C.1 C.2.1 C.2.2.2.1 (C.2.2.2.2.1 _ hw) (hK.1.1 cj _ hc).2 (va_recv hK.1 (ah_P1 (q := (a, .inr (cj, vs))) hat) (q0 := 0) hc rfl) hd kk
    · cases hx
/-- the two static rows and the mirror -/
theorem ah_oldZ {X : ah_X} {s : State} {Cn n dd : String} {v : Value} (h : va_Z Cn n dd v (ah_A X) s X.2.2.1) (old : ∀ q : Nat, q < X.2.2.1.size → s.heap[q]? = X.2.2.1[q]?) : va_Z Cn n dd v (ah_A X) s s.heap := h.kept (fun a ha _ => old a ha)
theorem rt_getE {idx : Nat} (hw : Cond.fieldLink y.cls idx "java/util/ArrayList" "DEFAULTCAPACITY_EMPTY_ELEMENTDATA" "[Ljava/lang/Object;" ∈ gw_t) (hd : decode cc pc = .ok (.getstatic idx, 3)) (k : Rt X y cc nL d (pc + 3) l (va_rf (some X.2.2.2.1) :: st) h r h2) : Rt X y cc nL d pc l st h r h2 := by
  refine ⟨k.1, k.2.1, ?_⟩
  intro p la e R s m args below meth c Q c0 z0 H locs ls C hr hR hS hl h1 h2 h3 h4
  exact va_gets C.1 C.2.1 (ah_oldZ C.2.2.2.2.2.2.1.2.2.2.2.1 C.2.2.2.2.2.2.2.2.2.2) hS C.2.2.2.1 (C.2.2.2.2.1 _ hw) (fun _ h => h) hd (k.2.2 c0 z0 H locs ls C hr hR hS hl h1 h2 h3 h4)
theorem rt_getN {idx : Nat} (hw : Cond.fieldLink y.cls idx "LetterTree" "NO_BYTES" "[B" ∈ gw_t) (hd : decode cc pc = .ok (.getstatic idx, 3)) (k : Rt X y cc nL d (pc + 3) l (va_rf (some X.2.2.2.2.1) :: st) h r h2) : Rt X y cc nL d pc l st h r h2 := by
  refine ⟨k.1, k.2.1, ?_⟩
  intro p la e R s m args below meth c Q c0 z0 H locs ls C hr hR hS hl h1 h2 h3 h4
  exact va_gets C.1 C.2.1 (ah_oldZ C.2.2.2.2.2.2.1.2.2.2.2.2.1 C.2.2.2.2.2.2.2.2.2.2) hS C.2.2.2.1 (C.2.2.2.2.1 _ hw) (fun _ h => h) hd (k.2.2 c0 z0 H locs ls C hr hR hS hl h1 h2 h3 h4)
theorem rt_getNn {idx : Nat} {host : String} (hw : Cond.fieldLinkNest y.cls idx "LetterTree" "NO_BYTES" "[B" host ∈ ah_ns) (hd : decode cc pc = .ok (.getstatic idx, 3)) (k : Rt X y cc nL d (pc + 3) l (va_rf (some X.2.2.2.2.1) :: st) h r h2) : Rt X y cc nL d pc l st h r h2 := by
  refine ⟨k.1, k.2.1, ?_⟩
  intro p la e R s m args below meth c Q c0 z0 H locs ls C hr hR hS hl h1 h2 h3 h4
  exact va_getsN C.1 C.2.1 (ah_oldZ C.2.2.2.2.2.2.1.2.2.2.2.2.1 C.2.2.2.2.2.2.2.2.2.2) hS C.2.2.2.1 (va_Nw.use (A := args) rfl (C.2.2.2.2.2.2.1.2.1 _ hw)) (fun _ h => h) hd (k.2.2 c0 z0 H locs ls C hr hR hS hl h1 h2 h3 h4)
theorem rt_ldcM {idx : Nat} (hw : Cond.classLink y.cls idx "[Ljava/lang/Object;" ∈ gw_t) (hd : decode cc pc = .ok (.ldc idx, 2)) (k : Rt X y cc nL d (pc + 2) l (va_rf (some X.2.2.2.2.2.1) :: st) h r h2) : Rt X y cc nL d pc l st h r h2 := by
  refine ⟨k.1, k.2.1, ?_⟩
  intro p la e R s m args below meth c Q c0 z0 H locs ls C hr hR hS hl h1 h2 h3 h4
  exact va_ldcM C.1 C.2.1 C.2.2.2.1 (C.2.2.2.2.1 _ hw) C.2.2.2.2.2.2.1.2.2.2.2.2.2.2.2.1 hd (k.2.2 c0 z0 H locs ls C hr hR hS hl h1 h2 h3 h4)
/-- the script -/
theorem rt_sld {b : Nat} (hb : b = X.2.2.2.2.2.2.1) (hd : decode cc pc = .ok (.iaload, 1)) (hx : ¬ (i < 0 ∨ X.2.2.2.2.2.2.2.1 ≤ i.toNatClampNeg)) (k : Rt X y cc nL d (pc + 1) l (.int (X.2.2.2.2.2.2.2.2 i.toNatClampNeg) :: st) h r h2) : Rt X y cc nL d pc l (.int i :: va_rf (some b) :: st) h r h2 := by
  subst hb
  refine ⟨k.1, k.2.1, ?_⟩
  intro p la e R s m args below meth c Q c0 z0 H locs ls C hr hR hS hl h1 h2 h3 h4
  obtain ⟨scr, t1, t2, t3, t4, t5⟩ := C.2.2.2.2.2.2.1.2.2.2.2.2.2.2.2.2.2.1
  have hlt : i.toNatClampNeg < X.2.2.2.2.2.2.2.1 := Nat.not_le.mp fun q => hx (Or.inr q)
  exact W.iald (v := .int (X.2.2.2.2.2.2.2.2 i.toNatClampNeg)) C.1 C.2.1 (by rw [hR.2.2.1 _ (Array.getElem?_eq_some_iff.mp t1).1]; exact t1) t2 t3 (by rw [t4]; exact hx) (t5 _ hlt) rfl rfl hd (k.2.2 c0 z0 H locs ls C hr hR hS hl h1 h2 h3 h4)
theorem rt_slen {b : Nat} (hb : b = X.2.2.2.2.2.2.1) (hd : decode cc pc = .ok (.arraylength, 1)) (k : Rt X y cc nL d (pc + 1) l (.int (Int32.ofNat X.2.2.2.2.2.2.2.1) :: st) h r h2) : Rt X y cc nL d pc l (va_rf (some b) :: st) h r h2 := by
  subst hb
  refine ⟨k.1, k.2.1, ?_⟩
  intro p la e R s m args below meth c Q c0 z0 H locs ls C hr hR hS hl h1 h2 h3 h4
  obtain ⟨scr, t1, t2, t3, t4, t5⟩ := C.2.2.2.2.2.2.1.2.2.2.2.2.2.2.2.2.2.1
  exact W.alen (n := Int32.ofNat X.2.2.2.2.2.2.2.1) C.1 C.2.1 (by rw [hR.2.2.1 _ (Array.getElem?_eq_some_iff.mp t1).1]; exact t1) t2 (by rw [t4] <;> rfl) rfl rfl hd (k.2.2 c0 z0 H locs ls C hr hR hS hl h1 h2 h3 h4)
end RTA
