/-! ===== running the functions over a heap that is written down ===== -/
theorem rb_bind {α β : Type} (o : Option α) (f : α → Option β) : o.bind f = (match o with | none => none | some a => f a) := by cases o <;> rfl
theorem rb_ob2 {α β : Type} (o : Option (α × ah_H)) (f : α → ah_H → Option β) : ob2 o f = (match o with | none => none | some q => f q.1 q.2) := rfl
theorem rb_zb (r : Int32) (h : ah_H) : zb (some (r, h)) = if r = 0 ∨ r = 1 then some (r, h) else none := rfl
theorem rs_1 (h : ah_H) (a : Nat) (c : ah_C) : (ah_set h a c).1 = h.1 := rfl
theorem rs_2 (h : ah_H) (a : Nat) (c : ah_C) : (ah_set h a c).2.1 = h.2.1 := rfl
theorem rs_at (h : ah_H) (a b : Nat) (c : ah_C) : (ah_set h a c).2.2 b = if b = a then some c else h.2.2 b := rfl
theorem rn_1 (h : ah_H) (c : ah_C) (n : Nat) : (ah_new h c n).1 = h.1 + 1 := rfl
theorem rn_2 (h : ah_H) (c : ah_C) (n : Nat) : (ah_new h c n).2.1 = h.2.1 + n := rfl
theorem rn_at (h : ah_H) (b : Nat) (c : ah_C) (n : Nat) : (ah_new h c n).2.2 b = if b = h.1 then some c else h.2.2 b := rfl
theorem rs_ne {h : ah_H} {a b : Nat} {c : ah_C} (hne : b ≠ a) : (ah_set h a c).2.2 b = h.2.2 b := by rw [rs_at, if_neg hne]
theorem rn_ne {h : ah_H} {b : Nat} {c : ah_C} {n : Nat} (hne : b < h.1) : (ah_new h c n).2.2 b = h.2.2 b := by rw [rn_at, if_neg (by omega)]
def rv_i (v : Option Value) : Option Int32 := match v with
  | some (.int x) => some x
  | _ => none
def rv_j (v : Option Value) : Option Int64 := match v with
  | some (.long x) => some x
  | _ => none
def rv_r (v : Option Value) : Option (Option Nat) := match v with
  | some (.ref a) => some (some a)
  | some .null => some none
  | _ => none
theorem rv_i_i (x : Int32) : rv_i (some (.int x)) = some x := rfl
theorem rv_j_j (x : Int64) : rv_j (some (.long x)) = some x := rfl
theorem rv_r_r (a : Nat) : rv_r (some (.ref a)) = some (some a) := rfl
theorem rv_r_n : rv_r (some .null) = some none := rfl
def rd_f (c : Option ah_C) (ci : Nat) : Option (List Value) := match c with
  | some (.inr o) => if o.1 = ci then some o.2 else none
  | _ => none
theorem rd_f_o (ci : Nat) (fs : List Value) : rd_f (some (.inr (ci, fs))) ci = some fs := by simp [rd_f]
theorem rd_f_of (h : ah_H) (a ci : Nat) : hp_fs h (some a) ci = rd_f (h.2.2 a) ci := rfl
def rd_i (c : Option ah_C) (ci k : Nat) : Option Int32 := match rd_f c ci with
  | some fs => rv_i fs[k]?
  | none => none
def rd_j (c : Option ah_C) (ci k : Nat) : Option Int64 := match rd_f c ci with
  | some fs => rv_j fs[k]?
  | none => none
def rd_r (c : Option ah_C) (ci k : Nat) : Option (Option Nat) := match rd_f c ci with
  | some fs => rv_r fs[k]?
  | none => none
theorem rd_i_of (h : ah_H) (a ci k : Nat) : hp_gi h (some a) ci k = rd_i (h.2.2 a) ci k := by
  unfold hp_gi rd_i
  rw [rd_f_of]
  rfl
theorem rd_j_of (h : ah_H) (a ci k : Nat) : hp_gl h (some a) ci k = rd_j (h.2.2 a) ci k := by
  unfold hp_gl rd_j
  rw [rd_f_of]
  rfl
theorem rd_r_of (h : ah_H) (a ci k : Nat) : hp_gr h (some a) ci k = rd_r (h.2.2 a) ci k := by
  unfold hp_gr rd_r
  rw [rd_f_of]
  rfl
theorem rd_i_o (ci k : Nat) (fs : List Value) : rd_i (some (.inr (ci, fs))) ci k = rv_i fs[k]? := by simp only [rd_i, rd_f_o]
theorem rd_j_o (ci k : Nat) (fs : List Value) : rd_j (some (.inr (ci, fs))) ci k = rv_j fs[k]? := by simp only [rd_j, rd_f_o]
theorem rd_r_o (ci k : Nat) (fs : List Value) : rd_r (some (.inr (ci, fs))) ci k = rv_r fs[k]? := by simp only [rd_r, rd_f_o]
def rd_p (h : ah_H) (a : Nat) (c : Option ah_C) (ci k : Nat) (v : Value) : Option ah_H := match rd_f c ci with
  | some fs => if k < fs.length then some (ah_set h a (.inr (ci, fs.set k v))) else none
  | none => none
theorem rd_p_of (h : ah_H) (a ci k : Nat) (v : Value) : hp_pv h (some a) ci k v = rd_p h a (h.2.2 a) ci k v := by
  unfold hp_pv rd_p
  dsimp only
  rw [rd_f_of]
  rfl
theorem rd_p_o (h : ah_H) (a ci k : Nat) (v : Value) (fs : List Value) : rd_p h a (some (.inr (ci, fs))) ci k v = if k < fs.length then some (ah_set h a (.inr (ci, fs.set k v))) else none := by simp only [rd_p, rd_f_o]
def rd_c (c : Option ah_C) (ci : Nat) : Bool := match c with
  | some (.inr o) => decide (o.1 = ci)
  | _ => false
theorem rd_c_of (h : ah_H) (a ci : Nat) : hp_rcv h (some a) ci = rd_c (h.2.2 a) ci := rfl
theorem rd_c_o (ci : Nat) (fs : List Value) : rd_c (some (.inr (ci, fs))) ci = true := by simp [rd_c]
theorem rd_k_of (h : ah_H) (a ci : Nat) : hp_cls h (some a) ci = rd_c (h.2.2 a) ci := rfl
theorem rd_k_n (h : ah_H) (ci : Nat) : hp_cls h none ci = true := rfl
def rd_b (c : Option ah_C) : Bool := match c with
  | some (.inr o) => decide (1 ≤ o.1 ∧ o.1 ≤ 11)
  | _ => false
theorem rd_b_of (h : ah_H) (a : Nat) : hp_obj h (some a) = rd_b (h.2.2 a) := rfl
theorem rd_b_o (ci : Nat) (fs : List Value) : rd_b (some (.inr (ci, fs))) = decide (1 ≤ ci ∧ ci ≤ 11) := rfl
theorem rd_b_n (h : ah_H) : hp_obj h none = true := rfl
def rd_a (c : Option ah_C) : Option (Nat × vp_A) := match c with
  | some (.inl q) => some q
  | _ => none
theorem rd_a_of (h : ah_H) (a : Nat) : hp_ar h (some a) = rd_a (h.2.2 a) := rfl
theorem rd_a_o (q : Nat × vp_A) : rd_a (some (.inl q)) = some q := rfl
theorem upd_at (f : Nat → Int32) (k : Nat) (x : Int32) (j : Nat) : upd f k x j = if j = k then x else f j := rfl
theorem updL_at (f : Nat → Int64) (k : Nat) (x : Int64) (j : Nat) : vp_updL f k x j = if j = k then x else f j := rfl
theorem up_at (f : Nat → Option Nat) (k : Nat) (x : Option Nat) (j : Nat) : va_up f k x j = if j = k then x else f j := rfl
theorem nar_0 : vp_nar .boolean 0 = 0 := by decide
theorem nar_1 : vp_nar .boolean 1 = 1 := by decide
theorem i8_0 : (0 : Int32).toInt8.toInt32 = 0 := by decide
theorem i8_1 : (1 : Int32).toInt8.toInt32 = 1 := by decide
theorem ah_set_id {h : ah_H} {a : Nat} {c : ah_C} (e : h.2.2 a = some c) : ah_set h a c = h := by
  unfold ah_set
  have : va_up h.2.2 a (some c) = h.2.2 := by
    funext b
    by_cases hb : b = a
    · rw [hb, va_up_self, e]
    · rw [va_up_ne _ _ hb]
  rw [this]
theorem up_zero (k : Nat) : upd (fun _ => (0 : Int32)) k 0 = fun _ => 0 := by
  funext j
  simp [upd]
theorem ik_le {a b : Nat} (ha : a < 2 ^ 31) (hb : b < 2 ^ 31) : (Int32.ofNat a ≤ Int32.ofNat b) = (a ≤ b) := propext (Int32.ofNat_le_ofNat ha hb)
theorem ik_t {a : Nat} (ha : a < 2 ^ 31) : (Int32.ofNat a).toNatClampNeg = a := Int32.toNatClampNeg_ofNat_of_lt ha
theorem ik_n {a : Nat} (ha : a < 2 ^ 31) : ¬ Int32.ofNat a < 0 := fun h => by
  have := (Int32.ofNat_lt_iff_lt ha (by decide : (0 : Nat) < 2 ^ 31)).mp h
  omega
theorem ik_s (a : Nat) : Int32.ofNat a + 1 = Int32.ofNat (a + 1) := (Int32.ofNat_add a 1).symm
/-- Arrays.fill of a row of zeros with zero -/
theorem lc_stz (a k : Nat) (h : ah_H) (hk : k < 1000) (h2 : h.2.2 a = some (.inl (0, 1000, .inl (fun _ => 0)))) : hp_stb h (some a) (Int32.ofNat k) 0 = some h := by
  have e : ¬ (Int32.ofNat k < 0 ∨ 1000 ≤ (Int32.ofNat k).toNatClampNeg) := by
    rw [ik_t (by omega)]
    rintro (h | h)
    · exact ik_n (by omega) h
    · omega
  unfold hp_stb
  rw [hp_ar_of h2]
  simp only [if_neg e, i8_0, up_zero]
  rw [ah_set_id h2]
theorem lc_fill_go (E : ah_E) (a : Nat) (h : ah_H) (h2 : h.2.2 a = some (.inl (0, 1000, .inl (fun _ => 0)))) : ∀ (j n k : Nat), j + k = 1000 → j < n → bJ7_fill_031fb_5 E n (some a) 0 (Int32.ofNat k) 1000 h = some h := by
  intro j
  induction j with
  | zero =>
    intro n k hk hn
    obtain ⟨n, rfl⟩ : ∃ n', n = n' + 1 := ⟨n - 1, by omega⟩
    have : k = 1000 := by omega
    subst this
    simp only [bJ7_fill_031fb_5]
    exact if_pos (by decide)
  | succ j ih =>
    intro n k hk hn
    obtain ⟨n, rfl⟩ : ∃ n', n = n' + 1 := ⟨n - 1, by omega⟩
    have e : ¬ ((1000 : Int32) ≤ Int32.ofNat k) := fun h => by
      have := (Int32.ofNat_le_ofNat (by decide : (1000 : Nat) < 2 ^ 31) (by omega)).mp h
      omega
    simp only [bJ7_fill_031fb_5, if_neg e, lc_stz a k h (by omega) h2, Option.bind_some]
    rw [ik_s]
    exact ih n (k + 1) (by omega) (by omega)
theorem lc_fill (E : ah_E) (a : Nat) (h : ah_H) (h2 : h.2.2 a = some (.inl (0, 1000, .inl (fun _ => 0)))) : bJ7_fill_031fb_5 E 1000000 (some a) 0 0 1000 h = some h := lc_fill_go E a h h2 1000 1000000 0 rfl (by decide)
