/-! ===== reading and writing the abstract heap ===== -/
def hp_fs (h : ah_H) (r : Option Nat) (ci : Nat) : Option (List Value) := match r with
  | none => none
  | some a => match h.2.2 a with
    | some (.inr o) => if o.1 = ci then some o.2 else none
    | _ => none
theorem hp_fs_spec {h : ah_H} {r : Option Nat} {ci : Nat} {fs : List Value} (e : hp_fs h r ci = some fs) : ∃ a, r = some a ∧ h.2.2 a = some (.inr (ci, fs)) := by
  unfold hp_fs at e
  cases r with
  | none => cases e
  | some a =>
    refine ⟨a, rfl, ?_⟩
    simp only at e
    split at e
    · rename_i o ho
      split at e
      · rename_i hc
        cases e
        obtain ⟨o1, o2⟩ := o
        cases hc
        exact ho
      · cases e
    · cases e
theorem hp_fs_of {h : ah_H} {a ci : Nat} {fs : List Value} (e : h.2.2 a = some (.inr (ci, fs))) : hp_fs h (some a) ci = some fs := by
  simp [hp_fs, e]
def hp_gi (h : ah_H) (r : Option Nat) (ci k : Nat) : Option Int32 := match hp_fs h r ci with
  | some fs => match fs[k]? with
    | some (.int x) => some x
    | _ => none
  | none => none
def hp_gl (h : ah_H) (r : Option Nat) (ci k : Nat) : Option Int64 := match hp_fs h r ci with
  | some fs => match fs[k]? with
    | some (.long x) => some x
    | _ => none
  | none => none
def hp_gr (h : ah_H) (r : Option Nat) (ci k : Nat) : Option (Option Nat) := match hp_fs h r ci with
  | some fs => match fs[k]? with
    | some (.ref a) => some (some a)
    | some .null => some none
    | _ => none
  | none => none
theorem hp_gi_spec {h : ah_H} {r : Option Nat} {ci k : Nat} {x : Int32} (e : hp_gi h r ci k = some x) : ∃ a fs, r = some a ∧ h.2.2 a = some (.inr (ci, fs)) ∧ fs[k]? = some (.int x) := by
  unfold hp_gi at e
  split at e
  · rename_i fs hfs
    obtain ⟨a, h1, h2⟩ := hp_fs_spec hfs
    split at e
    · rename_i z hz
      cases e
      exact ⟨a, fs, h1, h2, hz⟩
    · cases e
  · cases e
theorem hp_gl_spec {h : ah_H} {r : Option Nat} {ci k : Nat} {x : Int64} (e : hp_gl h r ci k = some x) : ∃ a fs, r = some a ∧ h.2.2 a = some (.inr (ci, fs)) ∧ fs[k]? = some (.long x) := by
  unfold hp_gl at e
  split at e
  · rename_i fs hfs
    obtain ⟨a, h1, h2⟩ := hp_fs_spec hfs
    split at e
    · rename_i z hz
      cases e
      exact ⟨a, fs, h1, h2, hz⟩
    · cases e
  · cases e
theorem hp_gr_spec {h : ah_H} {r : Option Nat} {ci k : Nat} {x : Option Nat} (e : hp_gr h r ci k = some x) : ∃ a fs, r = some a ∧ h.2.2 a = some (.inr (ci, fs)) ∧ fs[k]? = some (va_rf x) := by
  unfold hp_gr at e
  split at e
  · rename_i fs hfs
    obtain ⟨a, h1, h2⟩ := hp_fs_spec hfs
    split at e
    · rename_i z hz
      cases e
      exact ⟨a, fs, h1, h2, hz⟩
    · rename_i hz
      cases e
      exact ⟨a, fs, h1, h2, hz⟩
    · cases e
  · cases e
def hp_pv (h : ah_H) (r : Option Nat) (ci k : Nat) (v : Value) : Option ah_H := match r with
  | none => none
  | some a => match hp_fs h (some a) ci with
    | some fs => if k < fs.length then some (ah_set h a (.inr (ci, fs.set k v))) else none
    | none => none
theorem hp_pv_spec {h h1 : ah_H} {r : Option Nat} {ci k : Nat} {v : Value} (e : hp_pv h r ci k v = some h1) : ∃ a fs, r = some a ∧ h.2.2 a = some (.inr (ci, fs)) ∧ k < fs.length ∧ h1 = ah_set h a (.inr (ci, fs.set k v)) := by
  unfold hp_pv at e
  cases r with
  | none => cases e
  | some a =>
    simp only at e
    split at e
    · rename_i fs hfs
      obtain ⟨a', h1', h2⟩ := hp_fs_spec hfs
      cases h1'
      split at e
      · rename_i hk
        cases e
        exact ⟨a, fs, rfl, h2, hk, rfl⟩
      · cases e
    · cases e
/-- what the tables say of a class, and of a field as a method's class spells it -/
def cl_ok (ci : Nat) (C : String) (T : u_T) (N : Nat) : Prop := vwCl[ci]? = some (C, T, N) ∧ (∀ w ∈ u_ws C T N, w ∈ gw_t) ∧ (∀ a, a < N → ∀ b, b < N → a ≠ b → (T a).2.1 ≠ (T b).2.1) ∧ ∃ ty : Nat → FieldType, ∀ k, k < N → parseFieldDescriptor (T k).2.2.1 = some (ty k)
def fr_ok (own : String) (idx ci k : Nat) : Prop := ∃ (C : String) (T : u_T) (N : Nat) (ref : String), cl_ok ci C T N ∧ k < N ∧ Cond.fieldLink own idx ref (T k).2.1 (T k).2.2.1 ∈ gw_t ∧ (ref = (T k).1 ∨ Cond.sameField ref (T k).1 (T k).2.1 (T k).2.2.1 ∈ gw_t)
def fp_ok (own : String) (idx ci k : Nat) (ty : FieldType) (fin : Bool) : Prop := ∃ (C : String) (T : u_T) (N : Nat) (ref : String), cl_ok ci C T N ∧ k < N ∧ Cond.fieldLink own idx ref (T k).2.1 (T k).2.2.1 ∈ gw_t ∧ (ref = (T k).1 ∨ Cond.sameField ref (T k).1 (T k).2.1 (T k).2.2.1 ∈ gw_t) ∧ parseFieldDescriptor (T k).2.2.1 = some ty ∧ (T k).2.2.2 = fin ∧ (fin = true → (T k).1 = own)
theorem fp_same {args : Array Value} {s : State} (hts : ∀ w ∈ gw_t, w.before args s = true) {ref o n dd : String} (h : ref = o ∨ Cond.sameField ref o n dd ∈ gw_t) (x : ClassId × Class × Nat × Field) (hx : s.fieldFound? o n dd = some x) : s.fieldFound? ref n dd = some x := by
  rcases h with rfl | h
  · exact hx
  · exact u_same (hts _ h) x hx
theorem ah_P1 {X : ah_X} {H : Heap} {q : Nat × va_E} (h : va_at X.1 vwCl q H) : va_P X.1 vwCl [q] H := fun k z hz => by
  have hk : k < 1 := (List.getElem?_eq_some_iff.mp hz).1
  rw [show k = 0 by omega] at hz
  cases hz
  exact h
section RTH
variable {X : ah_X} {y : MethodName} {cc : ByteArray} {nL d pc : Nat} {l : List (Nat × Value)} {st : List Value} {h h1 h2 : ah_H} {r : Option Value} {x : Option Nat} {idx ci k0 : Nat} {ty : FieldType} {fin : Bool}

theorem rt_getf {a : Nat} {fs : List Value} {v : Value} (F : fr_ok y.cls idx ci k0) (ha : h.2.2 a = some (.inr (ci, fs))) (hv : fs[k0]? = some v) (hd : decode cc pc = .ok (.getfield idx, 3)) (k : Rt X y cc nL d (pc + 3) l (v :: st) h r h2) : Rt X y cc nL d pc l (.ref a :: st) h r h2 := by
  obtain ⟨Cn, T, N, ref, ⟨hc, hin, -, -⟩, hk, hlink, hsame⟩ := F
  refine ⟨k.1, k.2.1, ?_⟩
  intro p la e R s m args below meth c Q c0 z0 H locs ls C hr hR hS hl h1 h2 h3 h4
  obtain ⟨-, -, hat⟩ := hR.obj ha
  exact va_get C.1 C.2.1 (Ts := gw_t) C.2.2.2.2.1 hin C.2.2.2.1 C.2.2.2.2.2.2.1.1 (ah_P1 hat) 0 rfl hc k0 hk (C.2.2.2.2.1 _ hlink) (fp_same C.2.2.2.2.1 hsame) hv hd (k.2.2 c0 z0 H locs ls C hr hR hS hl h1 h2 h3 h4)
theorem rt_gi {z : Int32} (F : fr_ok y.cls idx ci k0) (hd : decode cc pc = .ok (.getfield idx, 3)) (hx : hp_gi h x ci k0 = some z) (k : Rt X y cc nL d (pc + 3) l (.int z :: st) h r h2) : Rt X y cc nL d pc l (va_rf x :: st) h r h2 := by
  obtain ⟨a, fs, rfl, e2, e3⟩ := hp_gi_spec hx
  exact rt_getf F e2 e3 hd k
theorem rt_gl {z : Int64} (F : fr_ok y.cls idx ci k0) (hd : decode cc pc = .ok (.getfield idx, 3)) (hx : hp_gl h x ci k0 = some z) (k : Rt X y cc nL d (pc + 3) l (.long z :: st) h r h2) : Rt X y cc nL d pc l (va_rf x :: st) h r h2 := by
  obtain ⟨a, fs, rfl, e2, e3⟩ := hp_gl_spec hx
  exact rt_getf F e2 e3 hd k
theorem rt_gr {z : Option Nat} (F : fr_ok y.cls idx ci k0) (hd : decode cc pc = .ok (.getfield idx, 3)) (hx : hp_gr h x ci k0 = some z) (k : Rt X y cc nL d (pc + 3) l (va_rf z :: st) h r h2) : Rt X y cc nL d pc l (va_rf x :: st) h r h2 := by
  obtain ⟨a, fs, rfl, e2, e3⟩ := hp_gr_spec hx
  exact rt_getf F e2 e3 hd k
theorem rt_putf {v : Value} (F : fp_ok y.cls idx ci k0 ty fin) (hfin : fin = false ∨ y.name = "<init>") (hn : narrow ty v = v) (hf : fits ty v = true) (hd : decode cc pc = .ok (.putfield idx, 3)) (hx : hp_pv h x ci k0 v = some h1) (k : Rt X y cc nL d (pc + 3) l st h1 r h2) : Rt X y cc nL d pc l (v :: va_rf x :: st) h r h2 := by
  obtain ⟨a, fs, rfl, e2, e3, rfl⟩ := hp_pv_spec hx
  obtain ⟨Cn, T, N, ref, ⟨hc, hin, hnm, ty0, hty⟩, hk, hlink, hsame, hpd, hfl, hdecl⟩ := F
  refine ⟨k.1, k.2.1, ?_⟩
  intro p la e R s m args below meth c Q c0 z0 H locs ls C hr hR hS hl h1 h2 h3 h4
  obtain ⟨ha1, ha2, hat⟩ := hR.obj e2
  obtain ⟨hx0, hb0, hml, hown, hts, hname, hK, -⟩ := id C
  have hap := va_apart (own := y.cls) hts hin ty0 hty hnm hK.1 hc
  obtain ⟨rr, g1, cell, q1, q2, q3, q4⟩ := hat
  have hrr : rr = (Cn, T, N) := Option.some.inj (g1.symm.trans hc)
  subst hrr
  obtain ⟨hSl, hfc, kC, hkC, hkind⟩ := hK.1.1 ci _ hc
  obtain ⟨cf, kf, fi, f, hi, hsl⟩ := hSl k0 hk
  have hlay := hts _ (hin _ (u_in_lay hk))
  have hst := (u_facts hfc hkC (u_lays hts hin hk) hi).1
  have fin2 : ∀ H' : Heap, H'[a]? = some (cell.setSlot f.slot v) → H'.size = H.size → (∀ q : Nat, q ≠ a → H'[q]? = H[q]?) → ah_R X (ah_set h a (.inr (ci, fs.set k0 v))) H' ∧ va_S (ah_A X) s.heap H' (locs ++ [⟨a, f.slot⟩]) := by
    intro H' e1 e2 e3'
    rw [hsl] at e1 ⊢
    exact ⟨hR.set ha1 ha2 ⟨_, hc, t_OB.to (V := updV (vp_V fs) k0 v) ⟨_, e1, q2, q3, t_set q4 hap hk v⟩ (fun j _ => vp_updV_set e3 v j)⟩ e2 e3', hS.put e2 e3' ha1⟩
  cases hb : fin with
  | false =>
    unfold u_lay at hlay
    rw [if_neg (by rw [hfl, hb]; decide)] at hlay
    have h6 := u_store hfc hkC hkind hlay hi hpd hn hf
    refine W.putK hx0 hb0 (f := f) ⟨hown, hts _ hlink, ⟨_, _, _, fp_same hts hsame _ hi⟩, hst⟩ (by rw [q2]; exact h6) q1 q3 (by rw [hsl]; exact k2_hasslot (q4 k0 hk)) rfl rfl hd fun H' e1 e2 e3' => ?_
    obtain ⟨r1, r2⟩ := fin2 H' e1 e2 e3'
    exact k.2.2 c0 z0 H' _ ls C hr r1 r2 hl h1 h2 h3 h4
  | true =>
    unfold u_lay at hlay
    rw [if_pos (by rw [hfl, hb])] at hlay
    have hin2 : y.name = "<init>" := by
      rcases hfin with q | q
      · rw [hb] at q; cases q
      · exact q
    have hcf : m.cls = cf := by
      obtain ⟨_, _, c', _, _, _, -, -, hf', -, -, -, hown2, -⟩ := Cond.laysFinal_spec hlay
      have e1 : c' = cf := by have := hi.symm.trans hf'; simp at this; exact this.1.symm
      rw [hdecl hb] at hown2
      rw [← e1]
      exact Option.some.inj (hown.symm.trans hown2)
    have h6 := u_fits hfc hkC hkind (Or.inr hlay) hi hpd hn hf
    refine W.putFinK hx0 hb0 hown (hts _ hlink) (fp_same hts hsame _ hi) hst hcf (hname.trans hin2) (by rw [q2]; exact h6) q1 q3 (by rw [hsl]; exact k2_hasslot (q4 k0 hk)) rfl rfl hd fun H' e1 e2 e3' => ?_
    obtain ⟨r1, r2⟩ := fin2 H' e1 e2 e3'
    exact k.2.2 c0 z0 H' _ ls C hr r1 r2 hl h1 h2 h3 h4
/-- new -/
def nw_ok (own : String) (idx ci N : Nat) (fs : List Value) : Prop := ∃ (C : String) (T : u_T), cl_ok ci C T N ∧ Cond.classLink own idx C ∈ gw_t ∧ Cond.instantiable C N ∈ gw_t ∧ Cond.initialized C ∈ gw_t ∧ ∀ j, j < N → (parseFieldDescriptor (T j).2.2.1).map defaultValue = some (vp_V fs j)
theorem rt_new {N : Nat} {fs : List Value} (F : nw_ok y.cls idx ci N fs) (hd : decode cc pc = .ok (.new idx, 3)) (k : Rt X y cc nL d (pc + 3) l (va_rf (some h.1) :: st) (ah_new h (.inr (ci, fs)) N) r h2) : Rt X y cc nL d pc l st h r h2 := by
  obtain ⟨Cn, T, ⟨hc, hin, hnm, ty0, hty⟩, hcl, hinst, hini, hfs⟩ := F
  have k1 : h.1 + 1 ≤ h2.1 := k.1
  have k2 : h.2.1 + N ≤ h2.2.1 := k.2.1
  refine ⟨by omega, by omega, ?_⟩
  intro p la e R s m args below meth c Q c0 z0 H locs ls C hr hR hS hl h1 h2 h3 h4
  obtain ⟨hx0, hb0, hml, hown, hts, hname, hK, -⟩ := id C
  have hKn := hK.1.1 ci _ hc
  refine W.newcK hx0 hb0 hown (hts _ hcl) (hts _ hinst) (hts _ hini) rfl hd (by omega) (by omega) hKn.2.1 hR.1 fun H1 kC hkC e1 z1 o1 => ?_
  have hat : va_at X.1 vwCl (h.1, ah_cv X (.inr (ci, fs))) H1 := ⟨_, hc, (u_born ty0 hts hin hKn hkC e1 hty).to (fun j hj => by
    have := hfs j hj
    rw [hty j hj] at this
    exact Option.some.inj this)⟩
  have hR1 : ah_R X (ah_new h (.inr (ci, fs)) N) H1 := hR.new hat z1 o1
  have hS1 : va_S (ah_A X) s.heap H1 locs := ⟨Nat.le_trans hS.1 (by rw [z1, hR.1]; omega), fun q g1 g2 => (o1 q (Nat.lt_of_lt_of_le g1 (by rw [← hR.1]; exact hS.1))).trans (hS.2.1 q g1 g2), hS.2.2⟩
  have := k.2.2 c0 z0 H1 locs ls C hr hR1 hS1 hl (Nat.le_succ_of_le h1) (Nat.le_trans h2 (Nat.le_add_right _ _)) h3 h4
  have ec : (ah_new h (.inr (ci, fs)) N).1 - c0 = h.1 - c0 + 1 := by show h.1 + 1 - c0 = _; omega
  have ez : (ah_new h (.inr (ci, fs)) N).2.1 - z0 = h.2.1 - z0 + N := by show h.2.1 + N - z0 = _; omega
  rw [ec, ez] at this
  exact this
end RTH
