/-! ===== rows in the form that the program's text takes ===== -/
theorem ob1 {α β : Type} {o : Option α} {f : α → Option β} {b : β} (h : o.bind f = some b) : ∃ a, o = some a ∧ f a = some b := by
  cases o with
  | none => cases h
  | some a => exact ⟨a, rfl, h⟩
def ob2 {α β : Type} (o : Option (α × ah_H)) (f : α → ah_H → Option β) : Option β := match o with
  | none => none
  | some q => f q.1 q.2
theorem ob2_some {α β : Type} (a : α) (h : ah_H) (f : α → ah_H → Option β) : ob2 (some (a, h)) f = f a h := rfl
theorem ob2_of {α β : Type} {o : Option (α × ah_H)} {f : α → ah_H → Option β} {b : β} (h : ob2 o f = some b) : ∃ a hh, o = some (a, hh) ∧ f a hh = some b := by
  cases o with
  | none => cases h
  | some q => exact ⟨q.1, q.2, rfl, h⟩
/-- boolean answers -/
def zb (o : Option (Int32 × ah_H)) : Option (Int32 × ah_H) := match o with
  | none => none
  | some q => if q.1 = 0 ∨ q.1 = 1 then some q else none
theorem zb_of {o : Option (Int32 × ah_H)} {r : Int32} {h : ah_H} (e : zb o = some (r, h)) : o = some (r, h) ∧ (r = 0 ∨ r = 1) := by
  unfold zb at e
  split at e
  · cases e
  · rename_i q
    split at e
    · rename_i c
      cases e
      exact ⟨rfl, c⟩
    · cases e
theorem zb_some {r : Int32} {h : ah_H} (c : r = 0 ∨ r = 1) : zb (some (r, h)) = some (r, h) := by
  simp [zb, c]
def hp_new (h : ah_H) (ci : Nat) (fs : List Value) (N : Nat) : Option ah_H := some (ah_new h (.inr (ci, fs)) N)
/-- how often a loop may turn, how deep a recursion may go, in the functions -/
def zf : Nat := 1000000
def zd : Nat := 45
theorem rt_sub {l l2 : List (Nat × Value)} (is : List Nat) (hs : is.map (fun i => l[i]?) = l2.map some) : ∀ q ∈ l2, q ∈ l := by
  intro q hq
  obtain ⟨k, hk⟩ := List.getElem?_of_mem hq
  have h1 : (is.map (fun i => l[i]?))[k]? = some (some q) := by rw [hs, List.getElem?_map, hk]; rfl
  rw [List.getElem?_map] at h1
  cases hi : is[k]? with
  | none => rw [hi] at h1; cases h1
  | some i => rw [hi] at h1; exact List.mem_of_getElem? (Option.some.inj h1)
theorem pf_i (x : Int32) : narrow .int (.int x) = .int x ∧ fits .int (.int x) = true := ⟨rfl, rfl⟩
theorem pf_l (x : Int64) : narrow .long (.long x) = .long x ∧ fits .long (.long x) = true := ⟨rfl, rfl⟩
theorem pf_o (C : String) (x : Option Nat) : narrow (.object C) (va_rf x) = va_rf x ∧ fits (.object C) (va_rf x) = true := by cases x <;> exact ⟨rfl, rfl⟩
theorem pf_a (t : FieldType) (x : Option Nat) : narrow (.array t) (va_rf x) = va_rf x ∧ fits (.array t) (va_rf x) = true := by cases x <;> exact ⟨rfl, rfl⟩
theorem rt_atR {cc : ByteArray} {pc : Nat} (x : Option Nat) (h : decode cc pc = .ok (.areturn, 1)) : rt_at cc pc (some (va_rf x)) := by cases x <;> exact h
theorem ok_i (x : Int32) : rt_ok (some .int) (some (.int x)) := ⟨_, rfl, rfl⟩
theorem ok_z {x : Int32} (h : x = 0 ∨ x = 1) : rt_ok (some .boolean) (some (.int x)) := ⟨_, rfl, by rcases h with rfl | rfl <;> rfl⟩
theorem ok_o (C : String) (x : Option Nat) : rt_ok (some (.object C)) (some (va_rf x)) := by cases x <;> exact ⟨_, rfl, Or.inl ⟨_, rfl⟩⟩
theorem ok_a (t : FieldType) (x : Option Nat) : rt_ok (some (.array t)) (some (va_rf x)) := by cases x <;> exact ⟨_, rfl, Or.inr ⟨_, rfl⟩⟩
theorem Rn.of2 {X : ah_X} {y : MethodName} {cc : ByteArray} {nL n d : Nat} {ret : Option FieldType} {av : List Value} {l : List (Nat × Value)} {h h2 : ah_H} {r : Option Value} (F : me_ok y cc nL ret n) (hlen : (lg_sl av).length ≤ nL) (hok : rt_ok ret r) (el : lv_args 0 av = l) (k : Rt X y cc nL d 0 l [] h r h2) : Rn X y cc nL ret d av h r h2 := by
  subst el
  exact Rn.of F hlen hok k
/-- words by their places -/
theorem gw_r {ws : List Cond} (ps : List Nat) (hp : ws = ps.filterMap (fun i => lw_tbl[i]?)) (g : ws.all goodWord = true) : ∀ w ∈ ws, w ∈ gw_t := by
  intro w hw
  have h1 := List.all_eq_true.mp g w hw
  rw [hp] at hw
  obtain ⟨i, -, hi⟩ := List.mem_filterMap.mp hw
  exact gw_in (List.mem_of_getElem? hi) h1
section RTB
variable {X : ah_X} {y : MethodName} {cc : ByteArray} {nL d pc : Nat} {l : List (Nat × Value)} {st : List Value} {h hh h2 : ah_H} {r : Option Value}
theorem rt_newB {idx ci N : Nat} {fs : List Value} (F : nw_ok y.cls idx ci N fs) (hd : decode cc pc = .ok (.new idx, 3)) (hx : hp_new h ci fs N = some hh) (k : Rt X y cc nL d (pc + 3) l (va_rf (some h.1) :: st) hh r h2) : Rt X y cc nL d pc l st h r h2 := by
  cases hx
  exact rt_new F hd k
theorem rt_if_eq_p {x : Int32} {off : Int} {tgt : Nat} (ht : (pc : Int) + off = (tgt : Int)) (hd : decode cc pc = .ok (.ifCond .eq off, 3)) (c : x = 0) (k : Rt X y cc nL d (tgt) l st h r h2) : Rt X y cc nL d pc l (.int x :: st) h r h2 :=
  rt_if_eq ht hd ⟨k.1, k.2.1⟩ (fun _ => k) (fun q => absurd c q)
theorem rt_if_eq_n {x : Int32} {off : Int} {tgt : Nat} (ht : (pc : Int) + off = (tgt : Int)) (hd : decode cc pc = .ok (.ifCond .eq off, 3)) (c : ¬ x = 0) (k : Rt X y cc nL d (pc + 3) l st h r h2) : Rt X y cc nL d pc l (.int x :: st) h r h2 :=
  rt_if_eq ht hd ⟨k.1, k.2.1⟩ (fun q => absurd q c) (fun _ => k)
theorem rt_icmp_eq_p {x z : Int32} {off : Int} {tgt : Nat} (ht : (pc : Int) + off = (tgt : Int)) (hd : decode cc pc = .ok (.if_icmp .eq off, 3)) (c : x = z) (k : Rt X y cc nL d (tgt) l st h r h2) : Rt X y cc nL d pc l (.int z :: .int x :: st) h r h2 :=
  rt_icmp_eq ht hd ⟨k.1, k.2.1⟩ (fun _ => k) (fun q => absurd c q)
theorem rt_icmp_eq_n {x z : Int32} {off : Int} {tgt : Nat} (ht : (pc : Int) + off = (tgt : Int)) (hd : decode cc pc = .ok (.if_icmp .eq off, 3)) (c : ¬ x = z) (k : Rt X y cc nL d (pc + 3) l st h r h2) : Rt X y cc nL d pc l (.int z :: .int x :: st) h r h2 :=
  rt_icmp_eq ht hd ⟨k.1, k.2.1⟩ (fun q => absurd q c) (fun _ => k)
theorem rt_if_ne_p {x : Int32} {off : Int} {tgt : Nat} (ht : (pc : Int) + off = (tgt : Int)) (hd : decode cc pc = .ok (.ifCond .ne off, 3)) (c : x = 0) (k : Rt X y cc nL d (pc + 3) l st h r h2) : Rt X y cc nL d pc l (.int x :: st) h r h2 :=
  rt_if_ne ht hd ⟨k.1, k.2.1⟩ (fun q => absurd c q) (fun _ => k)
theorem rt_if_ne_n {x : Int32} {off : Int} {tgt : Nat} (ht : (pc : Int) + off = (tgt : Int)) (hd : decode cc pc = .ok (.ifCond .ne off, 3)) (c : ¬ x = 0) (k : Rt X y cc nL d (tgt) l st h r h2) : Rt X y cc nL d pc l (.int x :: st) h r h2 :=
  rt_if_ne ht hd ⟨k.1, k.2.1⟩ (fun _ => k) (fun q => absurd q c)
theorem rt_icmp_ne_p {x z : Int32} {off : Int} {tgt : Nat} (ht : (pc : Int) + off = (tgt : Int)) (hd : decode cc pc = .ok (.if_icmp .ne off, 3)) (c : x = z) (k : Rt X y cc nL d (pc + 3) l st h r h2) : Rt X y cc nL d pc l (.int z :: .int x :: st) h r h2 :=
  rt_icmp_ne ht hd ⟨k.1, k.2.1⟩ (fun q => absurd c q) (fun _ => k)
theorem rt_icmp_ne_n {x z : Int32} {off : Int} {tgt : Nat} (ht : (pc : Int) + off = (tgt : Int)) (hd : decode cc pc = .ok (.if_icmp .ne off, 3)) (c : ¬ x = z) (k : Rt X y cc nL d (tgt) l st h r h2) : Rt X y cc nL d pc l (.int z :: .int x :: st) h r h2 :=
  rt_icmp_ne ht hd ⟨k.1, k.2.1⟩ (fun _ => k) (fun q => absurd q c)
theorem rt_if_lt_p {x : Int32} {off : Int} {tgt : Nat} (ht : (pc : Int) + off = (tgt : Int)) (hd : decode cc pc = .ok (.ifCond .lt off, 3)) (c : x < 0) (k : Rt X y cc nL d (tgt) l st h r h2) : Rt X y cc nL d pc l (.int x :: st) h r h2 :=
  rt_if_lt ht hd ⟨k.1, k.2.1⟩ (fun _ => k) (fun q => absurd c q)
theorem rt_if_lt_n {x : Int32} {off : Int} {tgt : Nat} (ht : (pc : Int) + off = (tgt : Int)) (hd : decode cc pc = .ok (.ifCond .lt off, 3)) (c : ¬ x < 0) (k : Rt X y cc nL d (pc + 3) l st h r h2) : Rt X y cc nL d pc l (.int x :: st) h r h2 :=
  rt_if_lt ht hd ⟨k.1, k.2.1⟩ (fun q => absurd q c) (fun _ => k)
theorem rt_icmp_lt_p {x z : Int32} {off : Int} {tgt : Nat} (ht : (pc : Int) + off = (tgt : Int)) (hd : decode cc pc = .ok (.if_icmp .lt off, 3)) (c : x < z) (k : Rt X y cc nL d (tgt) l st h r h2) : Rt X y cc nL d pc l (.int z :: .int x :: st) h r h2 :=
  rt_icmp_lt ht hd ⟨k.1, k.2.1⟩ (fun _ => k) (fun q => absurd c q)
theorem rt_icmp_lt_n {x z : Int32} {off : Int} {tgt : Nat} (ht : (pc : Int) + off = (tgt : Int)) (hd : decode cc pc = .ok (.if_icmp .lt off, 3)) (c : ¬ x < z) (k : Rt X y cc nL d (pc + 3) l st h r h2) : Rt X y cc nL d pc l (.int z :: .int x :: st) h r h2 :=
  rt_icmp_lt ht hd ⟨k.1, k.2.1⟩ (fun q => absurd q c) (fun _ => k)
theorem rt_if_ge_p {x : Int32} {off : Int} {tgt : Nat} (ht : (pc : Int) + off = (tgt : Int)) (hd : decode cc pc = .ok (.ifCond .ge off, 3)) (c : 0 ≤ x) (k : Rt X y cc nL d (tgt) l st h r h2) : Rt X y cc nL d pc l (.int x :: st) h r h2 :=
  rt_if_ge ht hd ⟨k.1, k.2.1⟩ (fun _ => k) (fun q => absurd c q)
theorem rt_if_ge_n {x : Int32} {off : Int} {tgt : Nat} (ht : (pc : Int) + off = (tgt : Int)) (hd : decode cc pc = .ok (.ifCond .ge off, 3)) (c : ¬ 0 ≤ x) (k : Rt X y cc nL d (pc + 3) l st h r h2) : Rt X y cc nL d pc l (.int x :: st) h r h2 :=
  rt_if_ge ht hd ⟨k.1, k.2.1⟩ (fun q => absurd q c) (fun _ => k)
theorem rt_icmp_ge_p {x z : Int32} {off : Int} {tgt : Nat} (ht : (pc : Int) + off = (tgt : Int)) (hd : decode cc pc = .ok (.if_icmp .ge off, 3)) (c : z ≤ x) (k : Rt X y cc nL d (tgt) l st h r h2) : Rt X y cc nL d pc l (.int z :: .int x :: st) h r h2 :=
  rt_icmp_ge ht hd ⟨k.1, k.2.1⟩ (fun _ => k) (fun q => absurd c q)
theorem rt_icmp_ge_n {x z : Int32} {off : Int} {tgt : Nat} (ht : (pc : Int) + off = (tgt : Int)) (hd : decode cc pc = .ok (.if_icmp .ge off, 3)) (c : ¬ z ≤ x) (k : Rt X y cc nL d (pc + 3) l st h r h2) : Rt X y cc nL d pc l (.int z :: .int x :: st) h r h2 :=
  rt_icmp_ge ht hd ⟨k.1, k.2.1⟩ (fun q => absurd q c) (fun _ => k)
theorem rt_if_gt_p {x : Int32} {off : Int} {tgt : Nat} (ht : (pc : Int) + off = (tgt : Int)) (hd : decode cc pc = .ok (.ifCond .gt off, 3)) (c : 0 < x) (k : Rt X y cc nL d (tgt) l st h r h2) : Rt X y cc nL d pc l (.int x :: st) h r h2 :=
  rt_if_gt ht hd ⟨k.1, k.2.1⟩ (fun _ => k) (fun q => absurd c q)
theorem rt_if_gt_n {x : Int32} {off : Int} {tgt : Nat} (ht : (pc : Int) + off = (tgt : Int)) (hd : decode cc pc = .ok (.ifCond .gt off, 3)) (c : ¬ 0 < x) (k : Rt X y cc nL d (pc + 3) l st h r h2) : Rt X y cc nL d pc l (.int x :: st) h r h2 :=
  rt_if_gt ht hd ⟨k.1, k.2.1⟩ (fun q => absurd q c) (fun _ => k)
theorem rt_icmp_gt_p {x z : Int32} {off : Int} {tgt : Nat} (ht : (pc : Int) + off = (tgt : Int)) (hd : decode cc pc = .ok (.if_icmp .gt off, 3)) (c : z < x) (k : Rt X y cc nL d (tgt) l st h r h2) : Rt X y cc nL d pc l (.int z :: .int x :: st) h r h2 :=
  rt_icmp_gt ht hd ⟨k.1, k.2.1⟩ (fun _ => k) (fun q => absurd c q)
theorem rt_icmp_gt_n {x z : Int32} {off : Int} {tgt : Nat} (ht : (pc : Int) + off = (tgt : Int)) (hd : decode cc pc = .ok (.if_icmp .gt off, 3)) (c : ¬ z < x) (k : Rt X y cc nL d (pc + 3) l st h r h2) : Rt X y cc nL d pc l (.int z :: .int x :: st) h r h2 :=
  rt_icmp_gt ht hd ⟨k.1, k.2.1⟩ (fun q => absurd q c) (fun _ => k)
theorem rt_if_le_p {x : Int32} {off : Int} {tgt : Nat} (ht : (pc : Int) + off = (tgt : Int)) (hd : decode cc pc = .ok (.ifCond .le off, 3)) (c : x ≤ 0) (k : Rt X y cc nL d (tgt) l st h r h2) : Rt X y cc nL d pc l (.int x :: st) h r h2 :=
  rt_if_le ht hd ⟨k.1, k.2.1⟩ (fun _ => k) (fun q => absurd c q)
theorem rt_if_le_n {x : Int32} {off : Int} {tgt : Nat} (ht : (pc : Int) + off = (tgt : Int)) (hd : decode cc pc = .ok (.ifCond .le off, 3)) (c : ¬ x ≤ 0) (k : Rt X y cc nL d (pc + 3) l st h r h2) : Rt X y cc nL d pc l (.int x :: st) h r h2 :=
  rt_if_le ht hd ⟨k.1, k.2.1⟩ (fun q => absurd q c) (fun _ => k)
theorem rt_icmp_le_p {x z : Int32} {off : Int} {tgt : Nat} (ht : (pc : Int) + off = (tgt : Int)) (hd : decode cc pc = .ok (.if_icmp .le off, 3)) (c : x ≤ z) (k : Rt X y cc nL d (tgt) l st h r h2) : Rt X y cc nL d pc l (.int z :: .int x :: st) h r h2 :=
  rt_icmp_le ht hd ⟨k.1, k.2.1⟩ (fun _ => k) (fun q => absurd c q)
theorem rt_icmp_le_n {x z : Int32} {off : Int} {tgt : Nat} (ht : (pc : Int) + off = (tgt : Int)) (hd : decode cc pc = .ok (.if_icmp .le off, 3)) (c : ¬ x ≤ z) (k : Rt X y cc nL d (pc + 3) l st h r h2) : Rt X y cc nL d pc l (.int z :: .int x :: st) h r h2 :=
  rt_icmp_le ht hd ⟨k.1, k.2.1⟩ (fun q => absurd q c) (fun _ => k)
theorem rt_acmp_eq_p {x z : Option Nat} {off : Int} {tgt : Nat} (ht : (pc : Int) + off = (tgt : Int)) (hd : decode cc pc = .ok (.if_acmp .eq off, 3)) (c : x = z) (k : Rt X y cc nL d (tgt) l st h r h2) : Rt X y cc nL d pc l (va_rf z :: va_rf x :: st) h r h2 :=
  rt_acmp_eq ht hd ⟨k.1, k.2.1⟩ (fun _ => k) (fun q => absurd c q)
theorem rt_acmp_eq_n {x z : Option Nat} {off : Int} {tgt : Nat} (ht : (pc : Int) + off = (tgt : Int)) (hd : decode cc pc = .ok (.if_acmp .eq off, 3)) (c : ¬ x = z) (k : Rt X y cc nL d (pc + 3) l st h r h2) : Rt X y cc nL d pc l (va_rf z :: va_rf x :: st) h r h2 :=
  rt_acmp_eq ht hd ⟨k.1, k.2.1⟩ (fun q => absurd q c) (fun _ => k)
theorem rt_acmp_ne_p {x z : Option Nat} {off : Int} {tgt : Nat} (ht : (pc : Int) + off = (tgt : Int)) (hd : decode cc pc = .ok (.if_acmp .ne off, 3)) (c : x = z) (k : Rt X y cc nL d (pc + 3) l st h r h2) : Rt X y cc nL d pc l (va_rf z :: va_rf x :: st) h r h2 :=
  rt_acmp_ne ht hd ⟨k.1, k.2.1⟩ (fun q => absurd c q) (fun _ => k)
theorem rt_acmp_ne_n {x z : Option Nat} {off : Int} {tgt : Nat} (ht : (pc : Int) + off = (tgt : Int)) (hd : decode cc pc = .ok (.if_acmp .ne off, 3)) (c : ¬ x = z) (k : Rt X y cc nL d (tgt) l st h r h2) : Rt X y cc nL d pc l (va_rf z :: va_rf x :: st) h r h2 :=
  rt_acmp_ne ht hd ⟨k.1, k.2.1⟩ (fun _ => k) (fun q => absurd q c)
theorem rt_ifnull_p {x : Option Nat} {off : Int} {tgt : Nat} (ht : (pc : Int) + off = (tgt : Int)) (hd : decode cc pc = .ok (.ifnull off, 3)) (c : x = none) (k : Rt X y cc nL d (tgt) l st h r h2) : Rt X y cc nL d pc l (va_rf x :: st) h r h2 :=
  rt_ifnull ht hd ⟨k.1, k.2.1⟩ (fun _ => k) (fun q => absurd c q)
theorem rt_ifnull_n {x : Option Nat} {off : Int} {tgt : Nat} (ht : (pc : Int) + off = (tgt : Int)) (hd : decode cc pc = .ok (.ifnull off, 3)) (c : ¬ x = none) (k : Rt X y cc nL d (pc + 3) l st h r h2) : Rt X y cc nL d pc l (va_rf x :: st) h r h2 :=
  rt_ifnull ht hd ⟨k.1, k.2.1⟩ (fun q => absurd q c) (fun _ => k)
theorem rt_ifnonnull_p {x : Option Nat} {off : Int} {tgt : Nat} (ht : (pc : Int) + off = (tgt : Int)) (hd : decode cc pc = .ok (.ifnonnull off, 3)) (c : x = none) (k : Rt X y cc nL d (pc + 3) l st h r h2) : Rt X y cc nL d pc l (va_rf x :: st) h r h2 :=
  rt_ifnonnull ht hd ⟨k.1, k.2.1⟩ (fun q => absurd c q) (fun _ => k)
theorem rt_ifnonnull_n {x : Option Nat} {off : Int} {tgt : Nat} (ht : (pc : Int) + off = (tgt : Int)) (hd : decode cc pc = .ok (.ifnonnull off, 3)) (c : ¬ x = none) (k : Rt X y cc nL d (tgt) l st h r h2) : Rt X y cc nL d pc l (va_rf x :: st) h r h2 :=
  rt_ifnonnull ht hd ⟨k.1, k.2.1⟩ (fun _ => k) (fun q => absurd q c)
theorem lq_eq (x z : Int64) : (lg_cmp x z = 0) ↔ x = z := by
  unfold lg_cmp
  split
  · rename_i q
    refine ⟨fun e => absurd e (by decide), fun e => ?_⟩
    subst e
    exact absurd q (by simp [Int64.lt_irrefl])
  · split
    · rename_i q; exact ⟨fun _ => q, fun _ => rfl⟩
    · rename_i q; exact ⟨fun e => absurd e (by decide), fun e => absurd e q⟩
theorem lq_lt (x z : Int64) : (lg_cmp x z < 0) ↔ x < z := by
  rw [← Int32.not_le, lg_cmp_ge, Int64.not_le]
theorem lq_gt (x z : Int64) : (0 < lg_cmp x z) ↔ z < x := by
  rw [← Int32.not_le, lg_cmp_le, Int64.not_le]
theorem rt_lif_eq_p {x z : Int64} {off : Int} {tgt : Nat} (ht : ((pc + 1 : Nat) : Int) + off = (tgt : Int)) (hd0 : decode cc pc = .ok (.lcmp, 1)) (hd : decode cc (pc + 1) = .ok (.ifCond .eq off, 3)) (c : x = z) (k : Rt X y cc nL d (tgt) l st h r h2) : Rt X y cc nL d pc l (.long z :: .long x :: st) h r h2 :=
  rt_lcmp hd0 (rt_if_eq_p ht hd ((lq_eq x z).mpr c) k)
theorem rt_lif_eq_n {x z : Int64} {off : Int} {tgt : Nat} (ht : ((pc + 1 : Nat) : Int) + off = (tgt : Int)) (hd0 : decode cc pc = .ok (.lcmp, 1)) (hd : decode cc (pc + 1) = .ok (.ifCond .eq off, 3)) (c : ¬ x = z) (k : Rt X y cc nL d (pc + 1 + 3) l st h r h2) : Rt X y cc nL d pc l (.long z :: .long x :: st) h r h2 :=
  rt_lcmp hd0 (rt_if_eq_n ht hd (fun q => c ((lq_eq x z).mp q)) k)
theorem rt_lif_ne_p {x z : Int64} {off : Int} {tgt : Nat} (ht : ((pc + 1 : Nat) : Int) + off = (tgt : Int)) (hd0 : decode cc pc = .ok (.lcmp, 1)) (hd : decode cc (pc + 1) = .ok (.ifCond .ne off, 3)) (c : x = z) (k : Rt X y cc nL d (pc + 1 + 3) l st h r h2) : Rt X y cc nL d pc l (.long z :: .long x :: st) h r h2 :=
  rt_lcmp hd0 (rt_if_ne_p ht hd ((lq_eq x z).mpr c) k)
theorem rt_lif_ne_n {x z : Int64} {off : Int} {tgt : Nat} (ht : ((pc + 1 : Nat) : Int) + off = (tgt : Int)) (hd0 : decode cc pc = .ok (.lcmp, 1)) (hd : decode cc (pc + 1) = .ok (.ifCond .ne off, 3)) (c : ¬ x = z) (k : Rt X y cc nL d (tgt) l st h r h2) : Rt X y cc nL d pc l (.long z :: .long x :: st) h r h2 :=
  rt_lcmp hd0 (rt_if_ne_n ht hd (fun q => c ((lq_eq x z).mp q)) k)
theorem rt_lif_lt_p {x z : Int64} {off : Int} {tgt : Nat} (ht : ((pc + 1 : Nat) : Int) + off = (tgt : Int)) (hd0 : decode cc pc = .ok (.lcmp, 1)) (hd : decode cc (pc + 1) = .ok (.ifCond .lt off, 3)) (c : x < z) (k : Rt X y cc nL d (tgt) l st h r h2) : Rt X y cc nL d pc l (.long z :: .long x :: st) h r h2 :=
  rt_lcmp hd0 (rt_if_lt_p ht hd ((lq_lt x z).mpr c) k)
theorem rt_lif_lt_n {x z : Int64} {off : Int} {tgt : Nat} (ht : ((pc + 1 : Nat) : Int) + off = (tgt : Int)) (hd0 : decode cc pc = .ok (.lcmp, 1)) (hd : decode cc (pc + 1) = .ok (.ifCond .lt off, 3)) (c : ¬ x < z) (k : Rt X y cc nL d (pc + 1 + 3) l st h r h2) : Rt X y cc nL d pc l (.long z :: .long x :: st) h r h2 :=
  rt_lcmp hd0 (rt_if_lt_n ht hd (fun q => c ((lq_lt x z).mp q)) k)
theorem rt_lif_ge_p {x z : Int64} {off : Int} {tgt : Nat} (ht : ((pc + 1 : Nat) : Int) + off = (tgt : Int)) (hd0 : decode cc pc = .ok (.lcmp, 1)) (hd : decode cc (pc + 1) = .ok (.ifCond .ge off, 3)) (c : z ≤ x) (k : Rt X y cc nL d (tgt) l st h r h2) : Rt X y cc nL d pc l (.long z :: .long x :: st) h r h2 :=
  rt_lcmp hd0 (rt_if_ge_p ht hd ((lg_cmp_ge x z).mpr c) k)
theorem rt_lif_ge_n {x z : Int64} {off : Int} {tgt : Nat} (ht : ((pc + 1 : Nat) : Int) + off = (tgt : Int)) (hd0 : decode cc pc = .ok (.lcmp, 1)) (hd : decode cc (pc + 1) = .ok (.ifCond .ge off, 3)) (c : ¬ z ≤ x) (k : Rt X y cc nL d (pc + 1 + 3) l st h r h2) : Rt X y cc nL d pc l (.long z :: .long x :: st) h r h2 :=
  rt_lcmp hd0 (rt_if_ge_n ht hd (fun q => c ((lg_cmp_ge x z).mp q)) k)
theorem rt_lif_gt_p {x z : Int64} {off : Int} {tgt : Nat} (ht : ((pc + 1 : Nat) : Int) + off = (tgt : Int)) (hd0 : decode cc pc = .ok (.lcmp, 1)) (hd : decode cc (pc + 1) = .ok (.ifCond .gt off, 3)) (c : z < x) (k : Rt X y cc nL d (tgt) l st h r h2) : Rt X y cc nL d pc l (.long z :: .long x :: st) h r h2 :=
  rt_lcmp hd0 (rt_if_gt_p ht hd ((lq_gt x z).mpr c) k)
theorem rt_lif_gt_n {x z : Int64} {off : Int} {tgt : Nat} (ht : ((pc + 1 : Nat) : Int) + off = (tgt : Int)) (hd0 : decode cc pc = .ok (.lcmp, 1)) (hd : decode cc (pc + 1) = .ok (.ifCond .gt off, 3)) (c : ¬ z < x) (k : Rt X y cc nL d (pc + 1 + 3) l st h r h2) : Rt X y cc nL d pc l (.long z :: .long x :: st) h r h2 :=
  rt_lcmp hd0 (rt_if_gt_n ht hd (fun q => c ((lq_gt x z).mp q)) k)
theorem rt_lif_le_p {x z : Int64} {off : Int} {tgt : Nat} (ht : ((pc + 1 : Nat) : Int) + off = (tgt : Int)) (hd0 : decode cc pc = .ok (.lcmp, 1)) (hd : decode cc (pc + 1) = .ok (.ifCond .le off, 3)) (c : x ≤ z) (k : Rt X y cc nL d (tgt) l st h r h2) : Rt X y cc nL d pc l (.long z :: .long x :: st) h r h2 :=
  rt_lcmp hd0 (rt_if_le_p ht hd ((lg_cmp_le x z).mpr c) k)
theorem rt_lif_le_n {x z : Int64} {off : Int} {tgt : Nat} (ht : ((pc + 1 : Nat) : Int) + off = (tgt : Int)) (hd0 : decode cc pc = .ok (.lcmp, 1)) (hd : decode cc (pc + 1) = .ok (.ifCond .le off, 3)) (c : ¬ x ≤ z) (k : Rt X y cc nL d (pc + 1 + 3) l st h r h2) : Rt X y cc nL d pc l (.long z :: .long x :: st) h r h2 :=
  rt_lcmp hd0 (rt_if_le_n ht hd (fun q => c ((lg_cmp_le x z).mp q)) k)
end RTB
