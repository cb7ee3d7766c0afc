/-! ===== the words that every method of the claim may use ===== -/
def gw_t : List Cond := lw_tbl.filter goodWord
theorem gw_in {w : Cond} (h : w ∈ lw_tbl) (g : goodWord w = true) : w ∈ gw_t := List.mem_filter.mpr ⟨h, g⟩
theorem gw_tbl {w : Cond} (h : w ∈ gw_t) : w ∈ lw_tbl := (List.mem_filter.mp h).1
theorem gw_good : GoodIn gw_t gw_t := fun w h => ⟨h, good_of_word (List.mem_filter.mp h).2⟩
theorem gw_goodc {c : Cond} (hc : c ∈ gw_t) : GoodIn gw_t (c :: gw_t) := fun w h => by
  rcases List.mem_cons.mp h with rfl | h
  · exact gw_good _ hc
  · exact gw_good _ h
/-! ===== abstract heaps: the next address, the slots made so far, what lies at an address ===== -/
abbrev ah_C : Type := (Nat × vp_A) ⊕ (Nat × List Value)
abbrev ah_H : Type := Nat × Nat × (Nat → Option ah_C)
/-- what the start gives: the empty list row, NO_BYTES, the mirror of Object[], the script's address, length and ints -/
abbrev ah_E : Type := Nat × Nat × Nat × Nat × Nat × (Nat → Int32)
/-- what a launch gives: class numbers and slots, array classes, the heap at the start, the start -/
abbrev ah_X : Type := va_G × (Nat → ClassId) × Heap × ah_E
def ah_cv (X : ah_X) (c : ah_C) : va_E := match c with
  | .inl q => .inl (X.2.1 q.1, q.2)
  | .inr o => .inr o
def ah_A (X : ah_X) : Nat → Prop := fun q => X.2.2.1.size ≤ q
def ah_ty (k : Nat) : FieldType := match k with
  | 0 => .byte
  | 1 => .boolean
  | 2 => .int
  | 3 => .long
  | 4 => .object "java/lang/Object"
  | _ => .object "LetterTree$Head"
def ah_tys (X : ah_X) : List (ClassId × FieldType) := (List.range 6).map (fun k => (X.2.1 k, ah_ty k))
theorem ah_tys_at (X : ah_X) {k : Nat} (h : k < 6) : (ah_tys X)[k]? = some (X.2.1 k, ah_ty k) := by
  simp [ah_tys, h]
abbrev ah_e4 : ah_C := .inl (4, 0, .inr (.inr (.inr (.inr (fun _ => none)))))
abbrev ah_e0 : ah_C := .inl (0, 0, .inl (fun _ => 0))
/-- the heap H is the abstract heap h -/
def ah_R (X : ah_X) (h : ah_H) (H : Heap) : Prop :=
  H.size = h.1 ∧ (∀ (a : Nat) (c : ah_C), h.2.2 a = some c → (X.2.2.1.size ≤ a ∧ a < h.1 ∧ va_at X.1 vwCl (a, ah_cv X c) H) ∨ (a = X.2.2.2.1 ∧ c = ah_e4) ∨ (a = X.2.2.2.2.1 ∧ c = ah_e0)) ∧
  (∀ q : Nat, q < X.2.2.1.size → H[q]? = X.2.2.1[q]?) ∧ X.2.2.1.size ≤ h.1 ∧ X.2.2.2.1 < X.2.2.1.size ∧ X.2.2.2.2.1 < X.2.2.1.size
def ah_set (h : ah_H) (a : Nat) (c : ah_C) : ah_H := (h.1, h.2.1, va_up h.2.2 a (some c))
def ah_new (h : ah_H) (c : ah_C) (n : Nat) : ah_H := (h.1 + 1, h.2.1 + n, va_up h.2.2 h.1 (some c))
theorem ah_R.set {X : ah_X} {h : ah_H} {H H1 : Heap} {a : Nat} {c : ah_C} (r : ah_R X h H) (ha : X.2.2.1.size ≤ a) (hl : a < h.1) (he : va_at X.1 vwCl (a, ah_cv X c) H1) (hz : H1.size = H.size) (oq : ∀ q : Nat, q ≠ a → H1[q]? = H[q]?) : ah_R X (ah_set h a c) H1 := by
  obtain ⟨r1, r2, r3, r4, r5, r6⟩ := r
  refine ⟨hz.trans r1, fun b d hd => ?_, fun q hq => ?_, r4, r5, r6⟩
  · by_cases hb : b = a
    · subst hb
      have e : d = c := by
        have : (va_up h.2.2 b (some c)) b = some d := hd
        rw [va_up_self] at this
        exact (Option.some.inj this).symm
      subst e
      exact Or.inl ⟨ha, hl, he⟩
    · have hd' : h.2.2 b = some d := by
        have : (va_up h.2.2 a (some c)) b = some d := hd
        rwa [va_up_ne _ _ hb] at this
      rcases r2 b d hd' with ⟨x1, x2, x3⟩ | x | x
      · exact Or.inl ⟨x1, x2, x3.kept (oq b hb)⟩
      · exact Or.inr (Or.inl x)
      · exact Or.inr (Or.inr x)
  · rw [oq q (by omega)]
    exact r3 q hq
theorem ah_R.new {X : ah_X} {h : ah_H} {H H1 : Heap} {c : ah_C} {n : Nat} (r : ah_R X h H) (he : va_at X.1 vwCl (h.1, ah_cv X c) H1) (hz : H1.size = h.1 + 1) (oq : ∀ q : Nat, q < h.1 → H1[q]? = H[q]?) : ah_R X (ah_new h c n) H1 := by
  obtain ⟨r1, r2, r3, r4, r5, r6⟩ := r
  refine ⟨hz, fun b d hd => ?_, fun q hq => ?_, Nat.le_succ_of_le r4, r5, r6⟩
  · by_cases hb : b = h.1
    · subst hb
      have e : d = c := by
        have : (va_up h.2.2 h.1 (some c)) h.1 = some d := hd
        rw [va_up_self] at this
        exact (Option.some.inj this).symm
      subst e
      exact Or.inl ⟨r4, Nat.lt_succ_self _, he⟩
    · have hd' : h.2.2 b = some d := by
        have : (va_up h.2.2 h.1 (some c)) b = some d := hd
        rwa [va_up_ne _ _ hb] at this
      rcases r2 b d hd' with ⟨x1, x2, x3⟩ | x | x
      · exact Or.inl ⟨x1, Nat.lt_succ_of_lt x2, x3.kept (oq b x2)⟩
      · exact Or.inr (Or.inl x)
      · exact Or.inr (Or.inr x)
  · rw [oq q (by omega)]
    exact r3 q hq
/-- an object of the abstract heap lies in the heap -/
theorem ah_R.obj {X : ah_X} {h : ah_H} {H : Heap} {a : Nat} {o : Nat × List Value} (r : ah_R X h H) (ha : h.2.2 a = some (.inr o)) : X.2.2.1.size ≤ a ∧ a < h.1 ∧ va_at X.1 vwCl (a, .inr o) H := by
  rcases r.2.1 a _ ha with x | ⟨-, x⟩ | ⟨-, x⟩
  · exact x
  · cases x
  · cases x
/-- so does an array that has places -/
theorem ah_R.arr {X : ah_X} {h : ah_H} {H : Heap} {a k n : Nat} {f : (Nat → Int32) ⊕ (Nat → Int64) ⊕ (Nat → UInt32) ⊕ (Nat → UInt64) ⊕ (Nat → Option Nat)} (r : ah_R X h H) (ha : h.2.2 a = some (.inl (k, n, f))) (hn : 0 < n) : X.2.2.1.size ≤ a ∧ a < h.1 ∧ H[a]? = some (vp_cell (X.2.1 k) (n, f)) := by
  rcases r.2.1 a _ ha with x | ⟨-, x⟩ | ⟨-, x⟩
  · exact x
  · cases x; omega
  · cases x; omega
/-! ===== the state that every method meets ===== -/
def ah_ns : List Cond := lw_tbl.filter (fun w => match w with | .methodLinkNest _ _ _ _ => true | .fieldLinkNest _ _ _ _ _ _ => true | .castable _ _ => true | _ => false)
def od_y : MethodName := ⟨"Odd", "clone", "()Ljava/lang/Object;"⟩
def od_code : ByteArray := .mk #[0x04, 0xbc, 0x08, 0xb0]
def od_ret : Option FieldType := some (.object "java/lang/Object")
def od_ws : List Cond := [.code od_y od_code 1 od_ret, .initialized "Odd", .instanceMethod od_y, .selects "Odd" ⟨"[B", "clone", "()Ljava/lang/Object;"⟩ od_y]
/-- what is known of the type Odd: its clone makes a row of one byte; NO_BYTES lies in it -/
def od_F (X : ah_X) (U : State) : Prop := (∀ w ∈ od_ws, ∀ a : Array Value, w.before a U = true) ∧ ∃ cell : Cell, X.2.2.1[X.2.2.2.2.1]? = some cell ∧ cell.vm = .none ∧ U.vm.findClass "Odd" = some cell.cls
theorem od_ws_good : ∀ w ∈ od_ws, (w.onTables && w.keeps) = true := by decide +kernel
theorem od_F.warm {X : ah_X} {s U : State} (hW : s.WarmedH U.vm) (h : od_F X s) : od_F X U := by
  obtain ⟨h1, cell, h2, h3, h4⟩ := h
  exact ⟨fun w hw a => word_at hW (Or.inl (od_ws_good w hw)) (h1 w hw #[]), cell, h2, h3, by rw [hW.alike.findClass]; exact h4⟩
def ah_K (X : ah_X) (U : State) : Prop :=
  va_K X.1 vwCl (ah_tys X) U ∧ (∀ w ∈ ah_ns, va_Nw w U) ∧ va_AO "java/lang/Object" U ∧ va_AO "LetterTree$Head" U ∧
  va_Z "java/util/ArrayList" "DEFAULTCAPACITY_EMPTY_ELEMENTDATA" "[Ljava/lang/Object;" (.ref X.2.2.2.1) (ah_A X) U X.2.2.1 ∧ va_Z "LetterTree" "NO_BYTES" "[B" (.ref X.2.2.2.2.1) (ah_A X) U X.2.2.1 ∧
  va_T (.object "java/lang/Object") X.2.2.2.1 0 (fun _ => .null) (ah_A X) U X.2.2.1 ∧ va_T .byte X.2.2.2.2.1 0 (fun _ => .int 0) (ah_A X) U X.2.2.1 ∧ va_Mi "[Ljava/lang/Object;" X.2.2.2.2.2.1 U ∧ va_Dc U ∧ va_X X.2.2.2.2.2.2.1 X.2.2.2.2.2.2.2.1 X.2.2.2.2.2.2.2.2 U X.2.2.1 ∧ od_F X U
theorem ah_ns_warm {w : Cond} (hw : w ∈ ah_ns) {s U : State} (hW : s.WarmedH U.vm) (h : va_Nw w s) : va_Nw w U := by
  have h1 := (List.mem_filter.mp hw).2
  cases w <;> first | (simp at h1; done) | exact va_Nw.warmM hW h | exact va_Nw.warmF hW h | exact va_Nw.warmC hW h
theorem ah_K.warm {X : ah_X} {s U : State} (hW : s.WarmedH U.vm) (h : ah_K X s) : ah_K X U := by
  obtain ⟨h1, h2, h3, h4, h5, h6, h7, h8, h9, h10, h11, h12⟩ := h
  have ha := hW.alike
  exact ⟨va_K.moved ha h1, fun w hw => ah_ns_warm hw hW (h2 w hw), va_AO.moved ha h3, va_AO.moved ha h4, va_Z.moved ha h5, va_Z.moved ha h6, va_T.moved ha h7, va_T.moved ha h8, va_Mi.moved ha h9, va_Dc.moved ha h10, va_X.moved ha h11, h12.warm hW⟩
