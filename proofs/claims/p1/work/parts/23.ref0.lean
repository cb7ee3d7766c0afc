noncomputable def bX10_begins_65 (E : ah_E) (a2 : Int32) (h : ah_H) : Option (Int32 × ah_H) :=
  some (a2, h)
set_option maxRecDepth 20000 in
set_option maxHeartbeats 4000000 in
theorem rX10_begins_65 {X : ah_X} {d : Nat} {a2 : Int32} {h : ah_H} {r : Int32} {h2 : ah_H} (hf : bX10_begins_65 X.2.2.2 a2 h = some (r, h2)) : Rt X yX10_begins cX10_begins 4 d 65 [(2, .int a2)] [] h (some (.int r)) h2 := by
  unfold bX10_begins_65 at hf
  refine rt_iload_n (pc := 65) (k0 := 2) (x := a2) 0 rfl dX10_begins_65 ?_
  cases hf
  exact rt_ret (pc := 66) dX10_begins_66 rfl
noncomputable def bX10_begins_58 (E : ah_E) (k21 : Option Nat → Int32 → Int32 → Int32 → ah_H → Option (Int32 × ah_H)) (a0 : Option Nat) (a1 : Int32) (a3 : Int32) (s0 : Int32) (h : ah_H) : Option (Int32 × ah_H) :=
  k21 a0 a1 s0 (a3 + 1) h
set_option maxRecDepth 20000 in
set_option maxHeartbeats 4000000 in
theorem rX10_begins_58 {X : ah_X} {d : Nat} {k21 : Option Nat → Int32 → Int32 → Int32 → ah_H → Option (Int32 × ah_H)} (hk21 : ∀ (x0 : Option Nat) (x1 : Int32) (x2 : Int32) (x3 : Int32) (h : ah_H) (r : Int32) (h2 : ah_H), k21 x0 x1 x2 x3 h = some (r, h2) → Rt X yX10_begins cX10_begins 4 d 21 [(0, va_rf x0), (1, .int x1), (2, .int x2), (3, .int x3)] [] h (some (.int r)) h2) {a0 : Option Nat} {a1 : Int32} {a3 : Int32} {s0 : Int32} {h : ah_H} {r : Int32} {h2 : ah_H} (hf : bX10_begins_58 X.2.2.2 k21 a0 a1 a3 s0 h = some (r, h2)) : Rt X yX10_begins cX10_begins 4 d 58 [(0, va_rf a0), (1, .int a1), (3, .int a3)] [.int s0] h (some (.int r)) h2 := by
  unfold bX10_begins_58 at hf
  refine rt_istore_n (pc := 58) (k0 := 2) (x := s0) (l2 := [(2, .int s0), (0, va_rf a0), (1, .int a1), (3, .int a3)]) (by decide) (by first | rfl | (simp [rt_cat, cat_i, cat_l]; done) | (simp [rt_cat, cat_i, cat_l]; decide)) dX10_begins_58 ?_
  refine rt_iinc (pc := 59) (i := 3) (n := 1) (x := a3) (v := (a3 + 1)) (l2 := [(3, .int (a3 + 1)), (2, .int s0), (0, va_rf a0), (1, .int a1)]) 3 rfl rfl (by decide) (by first | rfl | (simp [rt_cat, cat_i, cat_l]; done) | (simp [rt_cat, cat_i, cat_l]; decide)) dX10_begins_59 ?_
  refine rt_goto (pc := 62) (tgt := 21) (by decide) dX10_begins_62 ?_
  exact rt_locals (rt_sub [2, 3, 1, 0] rfl) (hk21 _ _ _ _ _ _ _ hf)
noncomputable def bX10_begins_21 (E : ah_E) : Nat → Option Nat → Int32 → Int32 → Int32 → ah_H → Option (Int32 × ah_H)
  | 0 => fun _ _ _ _ _ => none
  | n + 1 => fun a0 a1 a2 a3 h =>
  (hp_gi h a0 11 17).bind fun v1 =>
  if v1 ≤ a3 then
    bX10_begins_65 E a2 h
  else
  if a2 = 0 then
    bX10_begins_65 E a2 h
  else
  (hp_gr h a0 11 16).bind fun v5 =>
  (hp_ldb h v5 a3).bind fun v7 =>
  (hp_gr h a0 11 12).bind fun v9 =>
  (hp_ldb h v9 (((40 : Int32) * a1) + a3)).bind fun v11 =>
  if v7 = v11 then
    bX10_begins_58 E (bX10_begins_21 E n) a0 a1 a3 (1 : Int32) h
  else
  bX10_begins_58 E (bX10_begins_21 E n) a0 a1 a3 (0 : Int32) h
set_option maxRecDepth 20000 in
set_option maxHeartbeats 4000000 in
theorem rX10_begins_21 {X : ah_X} {d : Nat} (n : Nat) : ∀ (a0 : Option Nat) (a1 : Int32) (a2 : Int32) (a3 : Int32) (h : ah_H) (r : Int32) (h2 : ah_H), bX10_begins_21 X.2.2.2 n a0 a1 a2 a3 h = some (r, h2) → Rt X yX10_begins cX10_begins 4 d 21 [(0, va_rf a0), (1, .int a1), (2, .int a2), (3, .int a3)] [] h (some (.int r)) h2 := by
  induction n with
  | zero => intro a0 a1 a2 a3 h r h2 hf; cases hf
  | succ n ih =>
  intro a0 a1 a2 a3 h r h2 hf
  unfold bX10_begins_21 at hf
  refine rt_iload_n (pc := 21) (k0 := 3) (x := a3) 3 rfl dX10_begins_21 ?_
  refine rt_aload_n (pc := 22) (k0 := 0) (x := a0) 0 rfl dX10_begins_22 ?_
  obtain ⟨v1, e2, hf⟩ := ob1 hf
  refine rt_gi (pc := 23) fd_X10_34 dX10_begins_23 e2 ?_
  by_cases c3 : v1 ≤ a3
  · rw [if_pos c3] at hf
    refine rt_icmp_ge_p (pc := 26) (x := a3) (z := v1) (tgt := 65) (by decide) dX10_begins_26 c3 ?_
    exact rt_locals (rt_sub [2] rfl) (rX10_begins_65 hf)
  rw [if_neg c3] at hf
  refine rt_icmp_ge_n (pc := 26) (x := a3) (z := v1) (tgt := 65) (by decide) dX10_begins_26 c3 ?_
  refine rt_iload_n (pc := 29) (k0 := 2) (x := a2) 2 rfl dX10_begins_29 ?_
  by_cases c4 : a2 = 0
  · rw [if_pos c4] at hf
    refine rt_if_eq_p (pc := 30) (x := a2) (tgt := 65) (by decide) dX10_begins_30 c4 ?_
    exact rt_locals (rt_sub [2] rfl) (rX10_begins_65 hf)
  rw [if_neg c4] at hf
  refine rt_if_eq_n (pc := 30) (x := a2) (tgt := 65) (by decide) dX10_begins_30 c4 ?_
  refine rt_aload_n (pc := 33) (k0 := 0) (x := a0) 0 rfl dX10_begins_33 ?_
  obtain ⟨v5, e6, hf⟩ := ob1 hf
  refine rt_gr (pc := 34) fd_X10_40 dX10_begins_34 e6 ?_
  refine rt_iload_n (pc := 37) (k0 := 3) (x := a3) 3 rfl dX10_begins_37 ?_
  obtain ⟨v7, e8, hf⟩ := ob1 hf
  refine rt_bald (pc := 38) dX10_begins_38 e8 ?_
  refine rt_aload_n (pc := 39) (k0 := 0) (x := a0) 0 rfl dX10_begins_39 ?_
  obtain ⟨v9, e10, hf⟩ := ob1 hf
  refine rt_gr (pc := 40) fd_X10_43 dX10_begins_40 e10 ?_
  refine rt_bipush (pc := 43) (n := 40) (v := (40 : Int32)) (by decide) dX10_begins_43 ?_
  refine rt_iload_n (pc := 45) (k0 := 1) (x := a1) 1 rfl dX10_begins_45 ?_
  refine rt_imul (pc := 46) (x := (40 : Int32)) (z := a1) dX10_begins_46 ?_
  refine rt_iload_n (pc := 47) (k0 := 3) (x := a3) 3 rfl dX10_begins_47 ?_
  refine rt_iadd (pc := 48) (x := ((40 : Int32) * a1)) (z := a3) dX10_begins_48 ?_
  obtain ⟨v11, e12, hf⟩ := ob1 hf
  refine rt_bald (pc := 49) dX10_begins_49 e12 ?_
  by_cases c13 : v7 = v11
  · rw [if_pos c13] at hf
    refine rt_icmp_ne_p (pc := 50) (x := v7) (z := v11) (tgt := 57) (by decide) dX10_begins_50 c13 ?_
    refine rt_iconst (pc := 53) (n := 1) (v := (1 : Int32)) (by decide) dX10_begins_53 ?_
    refine rt_goto (pc := 54) (tgt := 58) (by decide) dX10_begins_54 ?_
    exact rt_locals (rt_sub [0, 1, 3] rfl) (rX10_begins_58 ih hf)
  rw [if_neg c13] at hf
  refine rt_icmp_ne_n (pc := 50) (x := v7) (z := v11) (tgt := 57) (by decide) dX10_begins_50 c13 ?_
  refine rt_iconst (pc := 57) (n := 0) (v := (0 : Int32)) (by decide) dX10_begins_57 ?_
  exact rt_locals (rt_sub [0, 1, 3] rfl) (rX10_begins_58 ih hf)
noncomputable def bX10_begins_18 (E : ah_E) (a0 : Option Nat) (a1 : Int32) (s0 : Int32) (h : ah_H) : Option (Int32 × ah_H) :=
  bX10_begins_21 E zf a0 a1 s0 (0 : Int32) h
set_option maxRecDepth 20000 in
set_option maxHeartbeats 4000000 in
theorem rX10_begins_18 {X : ah_X} {d : Nat} {a0 : Option Nat} {a1 : Int32} {s0 : Int32} {h : ah_H} {r : Int32} {h2 : ah_H} (hf : bX10_begins_18 X.2.2.2 a0 a1 s0 h = some (r, h2)) : Rt X yX10_begins cX10_begins 4 d 18 [(0, va_rf a0), (1, .int a1)] [.int s0] h (some (.int r)) h2 := by
  unfold bX10_begins_18 at hf
  refine rt_istore_n (pc := 18) (k0 := 2) (x := s0) (l2 := [(2, .int s0), (0, va_rf a0), (1, .int a1)]) (by decide) (by first | rfl | (simp [rt_cat, cat_i, cat_l]; done) | (simp [rt_cat, cat_i, cat_l]; decide)) dX10_begins_18 ?_
  refine rt_iconst (pc := 19) (n := 0) (v := (0 : Int32)) (by decide) dX10_begins_19 ?_
  refine rt_istore_n (pc := 20) (k0 := 3) (x := (0 : Int32)) (l2 := [(3, .int (0 : Int32)), (2, .int s0), (0, va_rf a0), (1, .int a1)]) (by decide) (by first | rfl | (simp [rt_cat, cat_i, cat_l]; done) | (simp [rt_cat, cat_i, cat_l]; decide)) dX10_begins_20 ?_
  exact rt_locals (rt_sub [2, 3, 1, 0] rfl) (rX10_begins_21 zf _ _ _ _ _ _ _ hf)
noncomputable def bX10_begins_0 (E : ah_E) (a0 : Option Nat) (a1 : Int32) (h : ah_H) : Option (Int32 × ah_H) :=
  (hp_gi h a0 11 17).bind fun v1 =>
  (hp_gr h a0 11 10).bind fun v3 =>
  (hp_ldi h v3 a1).bind fun v5 =>
  if v1 = v5 then
    bX10_begins_18 E a0 a1 (1 : Int32) h
  else
  bX10_begins_18 E a0 a1 (0 : Int32) h
set_option maxRecDepth 20000 in
set_option maxHeartbeats 4000000 in
theorem rX10_begins_0 {X : ah_X} {d : Nat} {a0 : Option Nat} {a1 : Int32} {h : ah_H} {r : Int32} {h2 : ah_H} (hf : bX10_begins_0 X.2.2.2 a0 a1 h = some (r, h2)) : Rt X yX10_begins cX10_begins 4 d 0 [(0, va_rf a0), (1, .int a1)] [] h (some (.int r)) h2 := by
  unfold bX10_begins_0 at hf
  refine rt_aload_n (pc := 0) (k0 := 0) (x := a0) 0 rfl dX10_begins_0 ?_
  obtain ⟨v1, e2, hf⟩ := ob1 hf
  refine rt_gi (pc := 1) fd_X10_34 dX10_begins_1 e2 ?_
  refine rt_aload_n (pc := 4) (k0 := 0) (x := a0) 0 rfl dX10_begins_4 ?_
  obtain ⟨v3, e4, hf⟩ := ob1 hf
  refine rt_gr (pc := 5) fd_X10_37 dX10_begins_5 e4 ?_
  refine rt_iload_n (pc := 8) (k0 := 1) (x := a1) 1 rfl dX10_begins_8 ?_
  obtain ⟨v5, e6, hf⟩ := ob1 hf
  refine rt_iald (pc := 9) dX10_begins_9 e6 ?_
  by_cases c7 : v1 = v5
  · rw [if_pos c7] at hf
    refine rt_icmp_ne_p (pc := 10) (x := v1) (z := v5) (tgt := 17) (by decide) dX10_begins_10 c7 ?_
    refine rt_iconst (pc := 13) (n := 1) (v := (1 : Int32)) (by decide) dX10_begins_13 ?_
    refine rt_goto (pc := 14) (tgt := 18) (by decide) dX10_begins_14 ?_
    exact rX10_begins_18 hf
  rw [if_neg c7] at hf
  refine rt_icmp_ne_n (pc := 10) (x := v1) (z := v5) (tgt := 17) (by decide) dX10_begins_10 c7 ?_
  refine rt_iconst (pc := 17) (n := 0) (v := (0 : Int32)) (by decide) dX10_begins_17 ?_
  exact rX10_begins_18 hf
noncomputable def fX10_begins (E : ah_E) (a0 : Option Nat) (a1 : Int32) (h : ah_H) : Option (Int32 × ah_H) := if hp_rcv h a0 11 = false then none else zb (bX10_begins_0 E a0 a1 h)
set_option maxRecDepth 20000 in
set_option maxHeartbeats 4000000 in
theorem sX10_begins {X : ah_X} (d : Nat) (hd : 0 ≤ d) {a0 : Option Nat} {a1 : Int32} {h : ah_H} {r : Int32} {h2 : ah_H} (hf : fX10_begins X.2.2.2 a0 a1 h = some (r, h2)) : hp_rcv h a0 11 = true ∧ Rn X yX10_begins cX10_begins 4 (some .boolean) d [va_rf a0, .int a1] h (some (.int r)) h2 := by
  unfold fX10_begins at hf
  by_cases c0 : hp_rcv h a0 11 = false
  · rw [if_pos c0] at hf; cases hf
  rw [if_neg c0] at hf
  refine ⟨(Bool.not_eq_false _).mp c0, ?_⟩
  obtain ⟨hf, hz⟩ := zb_of hf
  exact Rn.of2 me_X10_begins (by simp [lg_sl, rt_cat, cat_i, cat_l]) (ok_z hz) (l := [(0, va_rf a0), (1, .int a1)]) (by simp [lv_args, rt_cat, cat_i, cat_l]) (rX10_begins_0 hf)
noncomputable def bX10_copy_3 (E : ah_E) : Nat → Option Nat → Int32 → Int32 → Int32 → Int32 → Int32 → ah_H → Option ah_H
  | 0 => fun _ _ _ _ _ _ _ => none
  | n + 1 => fun a0 a1 a2 a3 a4 a5 h =>
  if a4 ≤ a5 then
    some h
  else
  (hp_gr h a0 11 16).bind fun v2 =>
  (hp_gr h a0 11 12).bind fun v4 =>
  (hp_ldb h v4 ((((40 : Int32) * a1) + a2) + a5)).bind fun v6 =>
  (hp_stb h v2 (a3 + a5) v6).bind fun w8 =>
  bX10_copy_3 E n a0 a1 a2 a3 a4 (a5 + 1) w8
set_option maxRecDepth 20000 in
set_option maxHeartbeats 4000000 in
theorem rX10_copy_3 {X : ah_X} {d : Nat} (n : Nat) : ∀ (a0 : Option Nat) (a1 : Int32) (a2 : Int32) (a3 : Int32) (a4 : Int32) (a5 : Int32) (h : ah_H) (h2 : ah_H), bX10_copy_3 X.2.2.2 n a0 a1 a2 a3 a4 a5 h = some h2 → Rt X yX10_copy cX10_copy 6 d 3 [(0, va_rf a0), (1, .int a1), (2, .int a2), (3, .int a3), (4, .int a4), (5, .int a5)] [] h none h2 := by
  induction n with
  | zero => intro a0 a1 a2 a3 a4 a5 h h2 hf; cases hf
  | succ n ih =>
  intro a0 a1 a2 a3 a4 a5 h h2 hf
  unfold bX10_copy_3 at hf
  refine rt_iload (pc := 3) (i := 5) (x := a5) 5 rfl dX10_copy_3 ?_
  refine rt_iload (pc := 5) (i := 4) (x := a4) 4 rfl dX10_copy_5 ?_
  by_cases c1 : a4 ≤ a5
  · rw [if_pos c1] at hf
    refine rt_icmp_ge_p (pc := 7) (x := a5) (z := a4) (tgt := 39) (by decide) dX10_copy_7 c1 ?_
    cases hf
    exact rt_ret (pc := 39) dX10_copy_39 rfl
  rw [if_neg c1] at hf
  refine rt_icmp_ge_n (pc := 7) (x := a5) (z := a4) (tgt := 39) (by decide) dX10_copy_7 c1 ?_
  refine rt_aload_n (pc := 10) (k0 := 0) (x := a0) 0 rfl dX10_copy_10 ?_
  obtain ⟨v2, e3, hf⟩ := ob1 hf
  refine rt_gr (pc := 11) fd_X10_40 dX10_copy_11 e3 ?_
  refine rt_iload_n (pc := 14) (k0 := 3) (x := a3) 3 rfl dX10_copy_14 ?_
  refine rt_iload (pc := 15) (i := 5) (x := a5) 5 rfl dX10_copy_15 ?_
  refine rt_iadd (pc := 17) (x := a3) (z := a5) dX10_copy_17 ?_
  refine rt_aload_n (pc := 18) (k0 := 0) (x := a0) 0 rfl dX10_copy_18 ?_
  obtain ⟨v4, e5, hf⟩ := ob1 hf
  refine rt_gr (pc := 19) fd_X10_43 dX10_copy_19 e5 ?_
  refine rt_bipush (pc := 22) (n := 40) (v := (40 : Int32)) (by decide) dX10_copy_22 ?_
  refine rt_iload_n (pc := 24) (k0 := 1) (x := a1) 1 rfl dX10_copy_24 ?_
  refine rt_imul (pc := 25) (x := (40 : Int32)) (z := a1) dX10_copy_25 ?_
  refine rt_iload_n (pc := 26) (k0 := 2) (x := a2) 2 rfl dX10_copy_26 ?_
  refine rt_iadd (pc := 27) (x := ((40 : Int32) * a1)) (z := a2) dX10_copy_27 ?_
  refine rt_iload (pc := 28) (i := 5) (x := a5) 5 rfl dX10_copy_28 ?_
  refine rt_iadd (pc := 30) (x := (((40 : Int32) * a1) + a2)) (z := a5) dX10_copy_30 ?_
  obtain ⟨v6, e7, hf⟩ := ob1 hf
  refine rt_bald (pc := 31) dX10_copy_31 e7 ?_
  obtain ⟨w8, e9, hf⟩ := ob1 hf
  refine rt_bast (pc := 32) dX10_copy_32 e9 ?_
  refine rt_iinc (pc := 33) (i := 5) (n := 1) (x := a5) (v := (a5 + 1)) (l2 := [(5, .int (a5 + 1)), (0, va_rf a0), (1, .int a1), (2, .int a2), (3, .int a3), (4, .int a4)]) 5 rfl rfl (by decide) (by first | rfl | (simp [rt_cat, cat_i, cat_l]; done) | (simp [rt_cat, cat_i, cat_l]; decide)) dX10_copy_33 ?_
  refine rt_goto (pc := 36) (tgt := 3) (by decide) dX10_copy_36 ?_
  exact rt_locals (rt_sub [1, 2, 3, 4, 5, 0] rfl) (ih _ _ _ _ _ _ _ _ hf)
noncomputable def bX10_copy_0 (E : ah_E) (a0 : Option Nat) (a1 : Int32) (a2 : Int32) (a3 : Int32) (a4 : Int32) (h : ah_H) : Option ah_H :=
  bX10_copy_3 E zf a0 a1 a2 a3 a4 (0 : Int32) h
set_option maxRecDepth 20000 in
set_option maxHeartbeats 4000000 in
theorem rX10_copy_0 {X : ah_X} {d : Nat} {a0 : Option Nat} {a1 : Int32} {a2 : Int32} {a3 : Int32} {a4 : Int32} {h : ah_H} {h2 : ah_H} (hf : bX10_copy_0 X.2.2.2 a0 a1 a2 a3 a4 h = some h2) : Rt X yX10_copy cX10_copy 6 d 0 [(0, va_rf a0), (1, .int a1), (2, .int a2), (3, .int a3), (4, .int a4)] [] h none h2 := by
  unfold bX10_copy_0 at hf
  refine rt_iconst (pc := 0) (n := 0) (v := (0 : Int32)) (by decide) dX10_copy_0 ?_
  refine rt_istore (pc := 1) (i := 5) (x := (0 : Int32)) (l2 := [(5, .int (0 : Int32)), (0, va_rf a0), (1, .int a1), (2, .int a2), (3, .int a3), (4, .int a4)]) (by decide) (by first | rfl | (simp [rt_cat, cat_i, cat_l]; done) | (simp [rt_cat, cat_i, cat_l]; decide)) dX10_copy_1 ?_
  exact rt_locals (rt_sub [1, 2, 3, 4, 5, 0] rfl) (rX10_copy_3 zf _ _ _ _ _ _ _ _ hf)
noncomputable def fX10_copy (E : ah_E) (a0 : Option Nat) (a1 : Int32) (a2 : Int32) (a3 : Int32) (a4 : Int32) (h : ah_H) : Option ah_H := if hp_rcv h a0 11 = false then none else bX10_copy_0 E a0 a1 a2 a3 a4 h
set_option maxRecDepth 20000 in
set_option maxHeartbeats 4000000 in
theorem sX10_copy {X : ah_X} (d : Nat) (hd : 0 ≤ d) {a0 : Option Nat} {a1 : Int32} {a2 : Int32} {a3 : Int32} {a4 : Int32} {h : ah_H} {h2 : ah_H} (hf : fX10_copy X.2.2.2 a0 a1 a2 a3 a4 h = some h2) : hp_rcv h a0 11 = true ∧ Rn X yX10_copy cX10_copy 6 none d [va_rf a0, .int a1, .int a2, .int a3, .int a4] h none h2 := by
  unfold fX10_copy at hf
  by_cases c0 : hp_rcv h a0 11 = false
  · rw [if_pos c0] at hf; cases hf
  rw [if_neg c0] at hf
  refine ⟨(Bool.not_eq_false _).mp c0, ?_⟩
  exact Rn.of2 me_X10_copy (by simp [lg_sl, rt_cat, cat_i, cat_l]) rfl (l := [(0, va_rf a0), (1, .int a1), (2, .int a2), (3, .int a3), (4, .int a4)]) (by simp [lv_args, rt_cat, cat_i, cat_l]) (rX10_copy_0 hf)
noncomputable def bX10_acts_99 (E : ah_E) (a0 : Option Nat) (a1 : Int32) (a2 : Int32) (s0 : Option Nat) (s1 : Int32) (h : ah_H) : Option (Int32 × ah_H) :=
  (hp_pv h s0 11 17 (.int s1)).bind fun w1 =>
  (hp_gi w1 a0 11 17).bind fun v3 =>
  (fX10_copy E a0 a1 (0 : Int32) a2 (v3 - a2) w1).bind fun w6 =>
  some ((1 : Int32), w6)
set_option maxRecDepth 20000 in
set_option maxHeartbeats 4000000 in
theorem rX10_acts_99 {X : ah_X} {d : Nat} (hd : 0 ≤ d) {a0 : Option Nat} {a1 : Int32} {a2 : Int32} {s0 : Option Nat} {s1 : Int32} {h : ah_H} {r : Int32} {h2 : ah_H} (hf : bX10_acts_99 X.2.2.2 a0 a1 a2 s0 s1 h = some (r, h2)) : Rt X yX10_acts cX10_acts 4 (d + 1) 99 [(0, va_rf a0), (1, .int a1), (2, .int a2)] [.int s1, va_rf s0] h (some (.int r)) h2 := by
  unfold bX10_acts_99 at hf
  obtain ⟨w1, e2, hf⟩ := ob1 hf
  refine rt_putf (pc := 99) (x := s0) fw_X10_34 (Or.inl rfl) (pf_i _).1 (pf_i _).2 dX10_acts_99 e2 ?_
  refine rt_aload_n (pc := 102) (k0 := 0) (x := a0) 0 rfl dX10_acts_102 ?_
  refine rt_iload_n (pc := 103) (k0 := 1) (x := a1) 1 rfl dX10_acts_103 ?_
  refine rt_iconst (pc := 104) (n := 0) (v := (0 : Int32)) (by decide) dX10_acts_104 ?_
  refine rt_iload_n (pc := 105) (k0 := 2) (x := a2) 2 rfl dX10_acts_105 ?_
  refine rt_aload_n (pc := 106) (k0 := 0) (x := a0) 0 rfl dX10_acts_106 ?_
  obtain ⟨v3, e4, hf⟩ := ob1 hf
  refine rt_gi (pc := 107) fd_X10_34 dX10_acts_107 e4 ?_
  refine rt_iload_n (pc := 110) (k0 := 2) (x := a2) 2 rfl dX10_acts_110 ?_
  refine rt_isub (pc := 111) (x := v3) (z := a2) dX10_acts_111 ?_
  obtain ⟨w6, e5, hf⟩ := ob1 hf
  have g7 := sX10_copy d (by omega) e5
  refine rt_callV (pc := 112) (As := [.int a1, .int (0 : Int32), .int a2, .int (v3 - a2)]) (st := []) me_X10_copy mi_X10_copy wl_X10_52 dX10_acts_112 rfl (by decide) rfl g7.1 g7.2 ?_
  refine rt_iconst (pc := 115) (n := 1) (v := (1 : Int32)) (by decide) dX10_acts_115 ?_
  cases hf
  exact rt_ret (pc := 116) dX10_acts_116 rfl
noncomputable def bX10_acts_71 (E : ah_E) (a0 : Option Nat) (a1 : Int32) (s0 : Int32) (h : ah_H) : Option (Int32 × ah_H) :=
  (hp_gr h a0 11 11).bind fun v1 =>
  (hp_ldi h v1 a1).bind fun v3 =>
  if (s0 + v3) ≤ (20 : Int32) then
    (hp_gr h a0 11 11).bind fun v6 =>
    (hp_ldi h v6 a1).bind fun v8 =>
    bX10_acts_99 E a0 a1 s0 a0 (s0 + v8) h
  else
  bX10_acts_99 E a0 a1 s0 a0 (20 : Int32) h
set_option maxRecDepth 20000 in
set_option maxHeartbeats 4000000 in
theorem rX10_acts_71 {X : ah_X} {d : Nat} (hd : 0 ≤ d) {a0 : Option Nat} {a1 : Int32} {s0 : Int32} {h : ah_H} {r : Int32} {h2 : ah_H} (hf : bX10_acts_71 X.2.2.2 a0 a1 s0 h = some (r, h2)) : Rt X yX10_acts cX10_acts 4 (d + 1) 71 [(0, va_rf a0), (1, .int a1)] [.int s0] h (some (.int r)) h2 := by
  unfold bX10_acts_71 at hf
  refine rt_istore_n (pc := 71) (k0 := 2) (x := s0) (l2 := [(2, .int s0), (0, va_rf a0), (1, .int a1)]) (by decide) (by first | rfl | (simp [rt_cat, cat_i, cat_l]; done) | (simp [rt_cat, cat_i, cat_l]; decide)) dX10_acts_71 ?_
  refine rt_aload_n (pc := 72) (k0 := 0) (x := a0) 1 rfl dX10_acts_72 ?_
  refine rt_iload_n (pc := 73) (k0 := 2) (x := s0) 0 rfl dX10_acts_73 ?_
  refine rt_aload_n (pc := 74) (k0 := 0) (x := a0) 1 rfl dX10_acts_74 ?_
  obtain ⟨v1, e2, hf⟩ := ob1 hf
  refine rt_gr (pc := 75) fd_X10_49 dX10_acts_75 e2 ?_
  refine rt_iload_n (pc := 78) (k0 := 1) (x := a1) 2 rfl dX10_acts_78 ?_
  obtain ⟨v3, e4, hf⟩ := ob1 hf
  refine rt_iald (pc := 79) dX10_acts_79 e4 ?_
  refine rt_iadd (pc := 80) (x := s0) (z := v3) dX10_acts_80 ?_
  refine rt_bipush (pc := 81) (n := 20) (v := (20 : Int32)) (by decide) dX10_acts_81 ?_
  by_cases c5 : (s0 + v3) ≤ (20 : Int32)
  · rw [if_pos c5] at hf
    refine rt_icmp_le_p (pc := 83) (x := (s0 + v3)) (z := (20 : Int32)) (tgt := 91) (by decide) dX10_acts_83 c5 ?_
    refine rt_iload_n (pc := 91) (k0 := 2) (x := s0) 0 rfl dX10_acts_91 ?_
    refine rt_aload_n (pc := 92) (k0 := 0) (x := a0) 1 rfl dX10_acts_92 ?_
    obtain ⟨v6, e7, hf⟩ := ob1 hf
    refine rt_gr (pc := 93) fd_X10_49 dX10_acts_93 e7 ?_
    refine rt_iload_n (pc := 96) (k0 := 1) (x := a1) 2 rfl dX10_acts_96 ?_
    obtain ⟨v8, e9, hf⟩ := ob1 hf
    refine rt_iald (pc := 97) dX10_acts_97 e9 ?_
    refine rt_iadd (pc := 98) (x := s0) (z := v8) dX10_acts_98 ?_
    exact rt_locals (rt_sub [1, 2, 0] rfl) (rX10_acts_99 hd hf)
  rw [if_neg c5] at hf
  refine rt_icmp_le_n (pc := 83) (x := (s0 + v3)) (z := (20 : Int32)) (tgt := 91) (by decide) dX10_acts_83 c5 ?_
  refine rt_bipush (pc := 86) (n := 20) (v := (20 : Int32)) (by decide) dX10_acts_86 ?_
  refine rt_goto (pc := 88) (tgt := 99) (by decide) dX10_acts_88 ?_
  exact rt_locals (rt_sub [1, 2, 0] rfl) (rX10_acts_99 hd hf)
noncomputable def bX10_acts_175 (E : ah_E) (a0 : Option Nat) (s0 : Int32) (h : ah_H) : Option (Int32 × ah_H) :=
  (hp_pv h a0 11 17 (.int (-1 : Int32))).bind fun w1 =>
  some (s0, w1)
set_option maxRecDepth 20000 in
set_option maxHeartbeats 4000000 in
theorem rX10_acts_175 {X : ah_X} {d : Nat} (hd : 0 ≤ d) {a0 : Option Nat} {s0 : Int32} {h : ah_H} {r : Int32} {h2 : ah_H} (hf : bX10_acts_175 X.2.2.2 a0 s0 h = some (r, h2)) : Rt X yX10_acts cX10_acts 4 (d + 1) 175 [(0, va_rf a0)] [.int s0] h (some (.int r)) h2 := by
  unfold bX10_acts_175 at hf
  refine rt_istore_n (pc := 175) (k0 := 3) (x := s0) (l2 := [(3, .int s0), (0, va_rf a0)]) (by decide) (by first | rfl | (simp [rt_cat, cat_i, cat_l]; done) | (simp [rt_cat, cat_i, cat_l]; decide)) dX10_acts_175 ?_
  refine rt_aload_n (pc := 176) (k0 := 0) (x := a0) 1 rfl dX10_acts_176 ?_
  refine rt_iconst (pc := 177) (n := -1) (v := (-1 : Int32)) (by decide) dX10_acts_177 ?_
  obtain ⟨w1, e2, hf⟩ := ob1 hf
  refine rt_putf (pc := 178) (x := a0) fw_X10_34 (Or.inl rfl) (pf_i _).1 (pf_i _).2 dX10_acts_178 e2 ?_
  refine rt_iload_n (pc := 181) (k0 := 3) (x := s0) 0 rfl dX10_acts_181 ?_
  cases hf
  exact rt_ret (pc := 182) dX10_acts_182 rfl
noncomputable def bX10_acts_0 (E : ah_E) (a0 : Option Nat) (a1 : Int32) (h : ah_H) : Option (Int32 × ah_H) :=
  (hp_gr h a0 11 8).bind fun v1 =>
  (hp_ldi h v1 a1).bind fun v3 =>
  if v3 = 1 then
    (hp_gr h a0 11 11).bind fun v6 =>
    (hp_ldi h v6 a1).bind fun v8 =>
    (hp_pv h a0 11 17 (.int v8)).bind fun w10 =>
    (hp_gi w10 a0 11 17).bind fun v12 =>
    (fX10_copy E a0 a1 (0 : Int32) (0 : Int32) v12 w10).bind fun w15 =>
    some ((1 : Int32), w15)
  else
  if v3 = 2 then
    (hp_gi h a0 11 17).bind fun v18 =>
    if v18 = (-1 : Int32) then
      bX10_acts_71 E a0 a1 (0 : Int32) h
    else
    (hp_gi h a0 11 17).bind fun v21 =>
    bX10_acts_71 E a0 a1 v21 h
  else
  if v3 = 3 then
    ob2 (fX10_begins E a0 a1 h) fun v26 w25 =>
    if v26 = 0 then
      some ((0 : Int32), w25)
    else
    (hp_gr w25 a0 11 11).bind fun v29 =>
    (hp_ldi w25 v29 a1).bind fun v31 =>
    (hp_gr w25 a0 11 10).bind fun v33 =>
    (hp_ldi w25 v33 a1).bind fun v35 =>
    (hp_pv w25 a0 11 17 (.int (v31 - v35))).bind fun w37 =>
    (hp_gr w37 a0 11 10).bind fun v39 =>
    (hp_ldi w37 v39 a1).bind fun v41 =>
    (hp_gi w37 a0 11 17).bind fun v43 =>
    (fX10_copy E a0 a1 v41 (0 : Int32) v43 w37).bind fun w46 =>
    some ((1 : Int32), w46)
  else
  (hp_gi h a0 11 17).bind fun v48 =>
  if v48 = (-1 : Int32) then
    bX10_acts_175 E a0 (0 : Int32) h
  else
  bX10_acts_175 E a0 (1 : Int32) h
set_option maxRecDepth 20000 in
set_option maxHeartbeats 4000000 in
theorem rX10_acts_0 {X : ah_X} {d : Nat} (hd : 0 ≤ d) {a0 : Option Nat} {a1 : Int32} {h : ah_H} {r : Int32} {h2 : ah_H} (hf : bX10_acts_0 X.2.2.2 a0 a1 h = some (r, h2)) : Rt X yX10_acts cX10_acts 4 (d + 1) 0 [(0, va_rf a0), (1, .int a1)] [] h (some (.int r)) h2 := by
  unfold bX10_acts_0 at hf
  refine rt_aload_n (pc := 0) (k0 := 0) (x := a0) 0 rfl dX10_acts_0 ?_
  obtain ⟨v1, e2, hf⟩ := ob1 hf
  refine rt_gr (pc := 1) fd_X10_46 dX10_acts_1 e2 ?_
  refine rt_iload_n (pc := 4) (k0 := 1) (x := a1) 1 rfl dX10_acts_4 ?_
  obtain ⟨v3, e4, hf⟩ := ob1 hf
  refine rt_iald (pc := 5) dX10_acts_5 e4 ?_
  by_cases c5 : v3 = 1
  · rw [if_pos c5] at hf
    refine rt_tableIn (pc := 6) (x := v3) (off := 26) (tgt := 32) dX10_acts_6 (by rw [c5]; decide) (by rw [c5]; decide) (by rw [c5]; rfl) (by decide) ?_
    refine rt_aload_n (pc := 32) (k0 := 0) (x := a0) 0 rfl dX10_acts_32 ?_
    refine rt_aload_n (pc := 33) (k0 := 0) (x := a0) 0 rfl dX10_acts_33 ?_
    obtain ⟨v6, e7, hf⟩ := ob1 hf
    refine rt_gr (pc := 34) fd_X10_49 dX10_acts_34 e7 ?_
    refine rt_iload_n (pc := 37) (k0 := 1) (x := a1) 1 rfl dX10_acts_37 ?_
    obtain ⟨v8, e9, hf⟩ := ob1 hf
    refine rt_iald (pc := 38) dX10_acts_38 e9 ?_
    obtain ⟨w10, e11, hf⟩ := ob1 hf
    refine rt_putf (pc := 39) (x := a0) fw_X10_34 (Or.inl rfl) (pf_i _).1 (pf_i _).2 dX10_acts_39 e11 ?_
    refine rt_aload_n (pc := 42) (k0 := 0) (x := a0) 0 rfl dX10_acts_42 ?_
    refine rt_iload_n (pc := 43) (k0 := 1) (x := a1) 1 rfl dX10_acts_43 ?_
    refine rt_iconst (pc := 44) (n := 0) (v := (0 : Int32)) (by decide) dX10_acts_44 ?_
    refine rt_iconst (pc := 45) (n := 0) (v := (0 : Int32)) (by decide) dX10_acts_45 ?_
    refine rt_aload_n (pc := 46) (k0 := 0) (x := a0) 0 rfl dX10_acts_46 ?_
    obtain ⟨v12, e13, hf⟩ := ob1 hf
    refine rt_gi (pc := 47) fd_X10_34 dX10_acts_47 e13 ?_
    obtain ⟨w15, e14, hf⟩ := ob1 hf
    have g16 := sX10_copy d (by omega) e14
    refine rt_callV (pc := 50) (As := [.int a1, .int (0 : Int32), .int (0 : Int32), .int v12]) (st := []) me_X10_copy mi_X10_copy wl_X10_52 dX10_acts_50 rfl (by decide) rfl g16.1 g16.2 ?_
    refine rt_iconst (pc := 53) (n := 1) (v := (1 : Int32)) (by decide) dX10_acts_53 ?_
    cases hf
    exact rt_ret (pc := 54) dX10_acts_54 rfl
  rw [if_neg c5] at hf
  by_cases c17 : v3 = 2
  · rw [if_pos c17] at hf
    refine rt_tableIn (pc := 6) (x := v3) (off := 49) (tgt := 55) dX10_acts_6 (by rw [c17]; decide) (by rw [c17]; decide) (by rw [c17]; rfl) (by decide) ?_
    refine rt_aload_n (pc := 55) (k0 := 0) (x := a0) 0 rfl dX10_acts_55 ?_
    obtain ⟨v18, e19, hf⟩ := ob1 hf
    refine rt_gi (pc := 56) fd_X10_34 dX10_acts_56 e19 ?_
    refine rt_iconst (pc := 59) (n := -1) (v := (-1 : Int32)) (by decide) dX10_acts_59 ?_
    by_cases c20 : v18 = (-1 : Int32)
    · rw [if_pos c20] at hf
      refine rt_icmp_ne_p (pc := 60) (x := v18) (z := (-1 : Int32)) (tgt := 67) (by decide) dX10_acts_60 c20 ?_
      refine rt_iconst (pc := 63) (n := 0) (v := (0 : Int32)) (by decide) dX10_acts_63 ?_
      refine rt_goto (pc := 64) (tgt := 71) (by decide) dX10_acts_64 ?_
      exact rX10_acts_71 hd hf
    rw [if_neg c20] at hf
    refine rt_icmp_ne_n (pc := 60) (x := v18) (z := (-1 : Int32)) (tgt := 67) (by decide) dX10_acts_60 c20 ?_
    refine rt_aload_n (pc := 67) (k0 := 0) (x := a0) 0 rfl dX10_acts_67 ?_
    obtain ⟨v21, e22, hf⟩ := ob1 hf
    refine rt_gi (pc := 68) fd_X10_34 dX10_acts_68 e22 ?_
    exact rX10_acts_71 hd hf
  rw [if_neg c17] at hf
  by_cases c23 : v3 = 3
  · rw [if_pos c23] at hf
    refine rt_tableIn (pc := 6) (x := v3) (off := 111) (tgt := 117) dX10_acts_6 (by rw [c23]; decide) (by rw [c23]; decide) (by rw [c23]; rfl) (by decide) ?_
    refine rt_aload_n (pc := 117) (k0 := 0) (x := a0) 0 rfl dX10_acts_117 ?_
    refine rt_iload_n (pc := 118) (k0 := 1) (x := a1) 1 rfl dX10_acts_118 ?_
    obtain ⟨v26, w25, e24, hf⟩ := ob2_of hf
    have g27 := sX10_begins d (by omega) e24
    refine rt_callV (pc := 119) (As := [.int a1]) (st := []) me_X10_begins mi_X10_begins wl_X10_56 dX10_acts_119 rfl (by decide) rfl g27.1 g27.2 ?_
    by_cases c28 : v26 = 0
    · rw [if_pos c28] at hf
      refine rt_if_ne_p (pc := 122) (x := v26) (tgt := 127) (by decide) dX10_acts_122 c28 ?_
      refine rt_iconst (pc := 125) (n := 0) (v := (0 : Int32)) (by decide) dX10_acts_125 ?_
      cases hf
      exact rt_ret (pc := 126) dX10_acts_126 rfl
    rw [if_neg c28] at hf
    refine rt_if_ne_n (pc := 122) (x := v26) (tgt := 127) (by decide) dX10_acts_122 c28 ?_
    refine rt_aload_n (pc := 127) (k0 := 0) (x := a0) 0 rfl dX10_acts_127 ?_
    refine rt_aload_n (pc := 128) (k0 := 0) (x := a0) 0 rfl dX10_acts_128 ?_
    obtain ⟨v29, e30, hf⟩ := ob1 hf
    refine rt_gr (pc := 129) fd_X10_49 dX10_acts_129 e30 ?_
    refine rt_iload_n (pc := 132) (k0 := 1) (x := a1) 1 rfl dX10_acts_132 ?_
    obtain ⟨v31, e32, hf⟩ := ob1 hf
    refine rt_iald (pc := 133) dX10_acts_133 e32 ?_
    refine rt_aload_n (pc := 134) (k0 := 0) (x := a0) 0 rfl dX10_acts_134 ?_
    obtain ⟨v33, e34, hf⟩ := ob1 hf
    refine rt_gr (pc := 135) fd_X10_37 dX10_acts_135 e34 ?_
    refine rt_iload_n (pc := 138) (k0 := 1) (x := a1) 1 rfl dX10_acts_138 ?_
    obtain ⟨v35, e36, hf⟩ := ob1 hf
    refine rt_iald (pc := 139) dX10_acts_139 e36 ?_
    refine rt_isub (pc := 140) (x := v31) (z := v35) dX10_acts_140 ?_
    obtain ⟨w37, e38, hf⟩ := ob1 hf
    refine rt_putf (pc := 141) (x := a0) fw_X10_34 (Or.inl rfl) (pf_i _).1 (pf_i _).2 dX10_acts_141 e38 ?_
    refine rt_aload_n (pc := 144) (k0 := 0) (x := a0) 0 rfl dX10_acts_144 ?_
    refine rt_iload_n (pc := 145) (k0 := 1) (x := a1) 1 rfl dX10_acts_145 ?_
    refine rt_aload_n (pc := 146) (k0 := 0) (x := a0) 0 rfl dX10_acts_146 ?_
    obtain ⟨v39, e40, hf⟩ := ob1 hf
    refine rt_gr (pc := 147) fd_X10_37 dX10_acts_147 e40 ?_
    refine rt_iload_n (pc := 150) (k0 := 1) (x := a1) 1 rfl dX10_acts_150 ?_
    obtain ⟨v41, e42, hf⟩ := ob1 hf
    refine rt_iald (pc := 151) dX10_acts_151 e42 ?_
    refine rt_iconst (pc := 152) (n := 0) (v := (0 : Int32)) (by decide) dX10_acts_152 ?_
    refine rt_aload_n (pc := 153) (k0 := 0) (x := a0) 0 rfl dX10_acts_153 ?_
    obtain ⟨v43, e44, hf⟩ := ob1 hf
    refine rt_gi (pc := 154) fd_X10_34 dX10_acts_154 e44 ?_
    obtain ⟨w46, e45, hf⟩ := ob1 hf
    have g47 := sX10_copy d (by omega) e45
    refine rt_callV (pc := 157) (As := [.int a1, .int v41, .int (0 : Int32), .int v43]) (st := []) me_X10_copy mi_X10_copy wl_X10_52 dX10_acts_157 rfl (by decide) rfl g47.1 g47.2 ?_
    refine rt_iconst (pc := 160) (n := 1) (v := (1 : Int32)) (by decide) dX10_acts_160 ?_
    cases hf
    exact rt_ret (pc := 161) dX10_acts_161 rfl
  rw [if_neg c23] at hf
  refine rt_tableOut (pc := 6) (x := v3) (tgt := 162) (by decide) dX10_acts_6 (by have q0 := lv_neT (a := 1) c5 (by decide); have q1 := lv_neT (a := 2) c17 (by decide); have q2 := lv_neT (a := 3) c23 (by decide); omega) ?_
  refine rt_aload_n (pc := 162) (k0 := 0) (x := a0) 0 rfl dX10_acts_162 ?_
  obtain ⟨v48, e49, hf⟩ := ob1 hf
  refine rt_gi (pc := 163) fd_X10_34 dX10_acts_163 e49 ?_
  refine rt_iconst (pc := 166) (n := -1) (v := (-1 : Int32)) (by decide) dX10_acts_166 ?_
  by_cases c50 : v48 = (-1 : Int32)
  · rw [if_pos c50] at hf
    refine rt_icmp_eq_p (pc := 167) (x := v48) (z := (-1 : Int32)) (tgt := 174) (by decide) dX10_acts_167 c50 ?_
    refine rt_iconst (pc := 174) (n := 0) (v := (0 : Int32)) (by decide) dX10_acts_174 ?_
    exact rt_locals (rt_sub [0] rfl) (rX10_acts_175 hd hf)
  rw [if_neg c50] at hf
  refine rt_icmp_eq_n (pc := 167) (x := v48) (z := (-1 : Int32)) (tgt := 174) (by decide) dX10_acts_167 c50 ?_
  refine rt_iconst (pc := 170) (n := 1) (v := (1 : Int32)) (by decide) dX10_acts_170 ?_
  refine rt_goto (pc := 171) (tgt := 175) (by decide) dX10_acts_171 ?_
  exact rt_locals (rt_sub [0] rfl) (rX10_acts_175 hd hf)
noncomputable def fX10_acts (E : ah_E) (a0 : Option Nat) (a1 : Int32) (h : ah_H) : Option (Int32 × ah_H) := if hp_rcv h a0 11 = false then none else zb (bX10_acts_0 E a0 a1 h)
set_option maxRecDepth 20000 in
set_option maxHeartbeats 4000000 in
theorem sX10_acts {X : ah_X} (d : Nat) (hd : 1 ≤ d) {a0 : Option Nat} {a1 : Int32} {h : ah_H} {r : Int32} {h2 : ah_H} (hf : fX10_acts X.2.2.2 a0 a1 h = some (r, h2)) : hp_rcv h a0 11 = true ∧ Rn X yX10_acts cX10_acts 4 (some .boolean) d [va_rf a0, .int a1] h (some (.int r)) h2 := by
  unfold fX10_acts at hf
  by_cases c0 : hp_rcv h a0 11 = false
  · rw [if_pos c0] at hf; cases hf
  rw [if_neg c0] at hf
  refine ⟨(Bool.not_eq_false _).mp c0, ?_⟩
  obtain ⟨hf, hz⟩ := zb_of hf
  obtain ⟨d, rfl⟩ : ∃ k, d = k + 1 := ⟨d - 1, by omega⟩
  exact Rn.of2 me_X10_acts (by simp [lg_sl, rt_cat, cat_i, cat_l]) (ok_z hz) (l := [(0, va_rf a0), (1, .int a1)]) (by simp [lv_args, rt_cat, cat_i, cat_l]) (rX10_acts_0 (by omega) hf)
noncomputable def bX10_isAt_24 (E : ah_E) (s0 : Int32) (h : ah_H) : Option (Int32 × ah_H) :=
  some (s0, h)
set_option maxRecDepth 20000 in
set_option maxHeartbeats 4000000 in
theorem rX10_isAt_24 {X : ah_X} {d : Nat} {s0 : Int32} {h : ah_H} {r : Int32} {h2 : ah_H} (hf : bX10_isAt_24 X.2.2.2 s0 h = some (r, h2)) : Rt X yX10_isAt cX10_isAt 4 d 24 [] [.int s0] h (some (.int r)) h2 := by
  unfold bX10_isAt_24 at hf
  cases hf
  exact rt_ret (pc := 24) dX10_isAt_24 rfl
noncomputable def bX10_isAt_23 (E : ah_E) (h : ah_H) : Option (Int32 × ah_H) :=
  bX10_isAt_24 E (0 : Int32) h
set_option maxRecDepth 20000 in
set_option maxHeartbeats 4000000 in
theorem rX10_isAt_23 {X : ah_X} {d : Nat}  {h : ah_H} {r : Int32} {h2 : ah_H} (hf : bX10_isAt_23 X.2.2.2  h = some (r, h2)) : Rt X yX10_isAt cX10_isAt 4 d 23 [] [] h (some (.int r)) h2 := by
  unfold bX10_isAt_23 at hf
  refine rt_iconst (pc := 23) (n := 0) (v := (0 : Int32)) (by decide) dX10_isAt_23 ?_
  exact rX10_isAt_24 hf
noncomputable def bX10_isAt_0 (E : ah_E) (a0 : Option Nat) (a1 : Int32) (a2 : Int64) (h : ah_H) : Option (Int32 × ah_H) :=
  (hp_gi h a0 11 6).bind fun v1 =>
  if v1 ≤ a1 then
    bX10_isAt_23 E  h
  else
  (hp_gr h a0 11 3).bind fun v4 =>
  (hp_ldl h v4 a1).bind fun v6 =>
  if v6 = a2 then
    bX10_isAt_24 E (1 : Int32) h
  else
  bX10_isAt_23 E  h
set_option maxRecDepth 20000 in
set_option maxHeartbeats 4000000 in
theorem rX10_isAt_0 {X : ah_X} {d : Nat} {a0 : Option Nat} {a1 : Int32} {a2 : Int64} {h : ah_H} {r : Int32} {h2 : ah_H} (hf : bX10_isAt_0 X.2.2.2 a0 a1 a2 h = some (r, h2)) : Rt X yX10_isAt cX10_isAt 4 d 0 [(0, va_rf a0), (1, .int a1), (2, .long a2)] [] h (some (.int r)) h2 := by
  unfold bX10_isAt_0 at hf
  refine rt_iload_n (pc := 0) (k0 := 1) (x := a1) 1 rfl dX10_isAt_0 ?_
  refine rt_aload_n (pc := 1) (k0 := 0) (x := a0) 0 rfl dX10_isAt_1 ?_
  obtain ⟨v1, e2, hf⟩ := ob1 hf
  refine rt_gi (pc := 2) fd_X10_16 dX10_isAt_2 e2 ?_
  by_cases c3 : v1 ≤ a1
  · rw [if_pos c3] at hf
    refine rt_icmp_ge_p (pc := 5) (x := a1) (z := v1) (tgt := 23) (by decide) dX10_isAt_5 c3 ?_
    exact rt_locals (rt_sub [] rfl) (rX10_isAt_23 hf)
  rw [if_neg c3] at hf
  refine rt_icmp_ge_n (pc := 5) (x := a1) (z := v1) (tgt := 23) (by decide) dX10_isAt_5 c3 ?_
  refine rt_aload_n (pc := 8) (k0 := 0) (x := a0) 0 rfl dX10_isAt_8 ?_
  obtain ⟨v4, e5, hf⟩ := ob1 hf
  refine rt_gr (pc := 9) fd_X10_19 dX10_isAt_9 e5 ?_
  refine rt_iload_n (pc := 12) (k0 := 1) (x := a1) 1 rfl dX10_isAt_12 ?_
  obtain ⟨v6, e7, hf⟩ := ob1 hf
  refine rt_lald (pc := 13) dX10_isAt_13 e7 ?_
  refine rt_lload_n (pc := 14) (k0 := 2) (x := a2) 2 rfl dX10_isAt_14 ?_
  by_cases c8 : v6 = a2
  · rw [if_pos c8] at hf
    refine rt_lif_ne_p (pc := 15) (x := v6) (z := a2) (tgt := 23) (by decide) dX10_isAt_15 dX10_isAt_16 c8 ?_
    refine rt_iconst (pc := 19) (n := 1) (v := (1 : Int32)) (by decide) dX10_isAt_19 ?_
    refine rt_goto (pc := 20) (tgt := 24) (by decide) dX10_isAt_20 ?_
    exact rt_locals (rt_sub [] rfl) (rX10_isAt_24 hf)
  rw [if_neg c8] at hf
  refine rt_lif_ne_n (pc := 15) (x := v6) (z := a2) (tgt := 23) (by decide) dX10_isAt_15 dX10_isAt_16 c8 ?_
  exact rt_locals (rt_sub [] rfl) (rX10_isAt_23 hf)
noncomputable def fX10_isAt (E : ah_E) (a0 : Option Nat) (a1 : Int32) (a2 : Int64) (h : ah_H) : Option (Int32 × ah_H) := if hp_rcv h a0 11 = false then none else zb (bX10_isAt_0 E a0 a1 a2 h)
set_option maxRecDepth 20000 in
set_option maxHeartbeats 4000000 in
theorem sX10_isAt {X : ah_X} (d : Nat) (hd : 0 ≤ d) {a0 : Option Nat} {a1 : Int32} {a2 : Int64} {h : ah_H} {r : Int32} {h2 : ah_H} (hf : fX10_isAt X.2.2.2 a0 a1 a2 h = some (r, h2)) : hp_rcv h a0 11 = true ∧ Rn X yX10_isAt cX10_isAt 4 (some .boolean) d [va_rf a0, .int a1, .long a2] h (some (.int r)) h2 := by
  unfold fX10_isAt at hf
  by_cases c0 : hp_rcv h a0 11 = false
  · rw [if_pos c0] at hf; cases hf
  rw [if_neg c0] at hf
  refine ⟨(Bool.not_eq_false _).mp c0, ?_⟩
  obtain ⟨hf, hz⟩ := zb_of hf
  exact Rn.of2 me_X10_isAt (by simp [lg_sl, rt_cat, cat_i, cat_l]) (ok_z hz) (l := [(0, va_rf a0), (1, .int a1), (2, .long a2)]) (by simp [lv_args, rt_cat, cat_i, cat_l]) (rX10_isAt_0 hf)
noncomputable def bX10_move_26 (E : ah_E) : Nat → Option Nat → Int32 → Int32 → Int32 → ah_H → Option ah_H
  | 0 => fun _ _ _ _ _ => none
  | n + 1 => fun a0 a1 a2 a3 h =>
  if (20 : Int32) ≤ a3 then
    some h
  else
  (hp_gr h a0 11 5).bind fun v2 =>
  (hp_gr h a0 11 5).bind fun v4 =>
  (hp_ldb h v4 (((20 : Int32) * a1) + a3)).bind fun v6 =>
  (hp_stb h v2 (((20 : Int32) * a2) + a3) v6).bind fun w8 =>
  bX10_move_26 E n a0 a1 a2 (a3 + 1) w8
set_option maxRecDepth 20000 in
set_option maxHeartbeats 4000000 in
theorem rX10_move_26 {X : ah_X} {d : Nat} (n : Nat) : ∀ (a0 : Option Nat) (a1 : Int32) (a2 : Int32) (a3 : Int32) (h : ah_H) (h2 : ah_H), bX10_move_26 X.2.2.2 n a0 a1 a2 a3 h = some h2 → Rt X yX10_move cX10_move 4 d 26 [(0, va_rf a0), (1, .int a1), (2, .int a2), (3, .int a3)] [] h none h2 := by
  induction n with
  | zero => intro a0 a1 a2 a3 h h2 hf; cases hf
  | succ n ih =>
  intro a0 a1 a2 a3 h h2 hf
  unfold bX10_move_26 at hf
  refine rt_iload_n (pc := 26) (k0 := 3) (x := a3) 3 rfl dX10_move_26 ?_
  refine rt_bipush (pc := 27) (n := 20) (v := (20 : Int32)) (by decide) dX10_move_27 ?_
  by_cases c1 : (20 : Int32) ≤ a3
  · rw [if_pos c1] at hf
    refine rt_icmp_ge_p (pc := 29) (x := a3) (z := (20 : Int32)) (tgt := 60) (by decide) dX10_move_29 c1 ?_
    cases hf
    exact rt_ret (pc := 60) dX10_move_60 rfl
  rw [if_neg c1] at hf
  refine rt_icmp_ge_n (pc := 29) (x := a3) (z := (20 : Int32)) (tgt := 60) (by decide) dX10_move_29 c1 ?_
  refine rt_aload_n (pc := 32) (k0 := 0) (x := a0) 0 rfl dX10_move_32 ?_
  obtain ⟨v2, e3, hf⟩ := ob1 hf
  refine rt_gr (pc := 33) fd_X10_31 dX10_move_33 e3 ?_
  refine rt_bipush (pc := 36) (n := 20) (v := (20 : Int32)) (by decide) dX10_move_36 ?_
  refine rt_iload_n (pc := 38) (k0 := 2) (x := a2) 2 rfl dX10_move_38 ?_
  refine rt_imul (pc := 39) (x := (20 : Int32)) (z := a2) dX10_move_39 ?_
  refine rt_iload_n (pc := 40) (k0 := 3) (x := a3) 3 rfl dX10_move_40 ?_
  refine rt_iadd (pc := 41) (x := ((20 : Int32) * a2)) (z := a3) dX10_move_41 ?_
  refine rt_aload_n (pc := 42) (k0 := 0) (x := a0) 0 rfl dX10_move_42 ?_
  obtain ⟨v4, e5, hf⟩ := ob1 hf
  refine rt_gr (pc := 43) fd_X10_31 dX10_move_43 e5 ?_
  refine rt_bipush (pc := 46) (n := 20) (v := (20 : Int32)) (by decide) dX10_move_46 ?_
  refine rt_iload_n (pc := 48) (k0 := 1) (x := a1) 1 rfl dX10_move_48 ?_
  refine rt_imul (pc := 49) (x := (20 : Int32)) (z := a1) dX10_move_49 ?_
  refine rt_iload_n (pc := 50) (k0 := 3) (x := a3) 3 rfl dX10_move_50 ?_
  refine rt_iadd (pc := 51) (x := ((20 : Int32) * a1)) (z := a3) dX10_move_51 ?_
  obtain ⟨v6, e7, hf⟩ := ob1 hf
  refine rt_bald (pc := 52) dX10_move_52 e7 ?_
  obtain ⟨w8, e9, hf⟩ := ob1 hf
  refine rt_bast (pc := 53) dX10_move_53 e9 ?_
  refine rt_iinc (pc := 54) (i := 3) (n := 1) (x := a3) (v := (a3 + 1)) (l2 := [(3, .int (a3 + 1)), (0, va_rf a0), (1, .int a1), (2, .int a2)]) 3 rfl rfl (by decide) (by first | rfl | (simp [rt_cat, cat_i, cat_l]; done) | (simp [rt_cat, cat_i, cat_l]; decide)) dX10_move_54 ?_
  refine rt_goto (pc := 57) (tgt := 26) (by decide) dX10_move_57 ?_
  exact rt_locals (rt_sub [1, 2, 3, 0] rfl) (ih _ _ _ _ _ _ hf)
noncomputable def bX10_move_0 (E : ah_E) (a0 : Option Nat) (a1 : Int32) (a2 : Int32) (h : ah_H) : Option ah_H :=
  (hp_gr h a0 11 3).bind fun v1 =>
  (hp_gr h a0 11 3).bind fun v3 =>
  (hp_ldl h v3 a1).bind fun v5 =>
  (hp_stl h v1 a2 v5).bind fun w7 =>
  (hp_gr w7 a0 11 4).bind fun v9 =>
  (hp_gr w7 a0 11 4).bind fun v11 =>
  (hp_ldi w7 v11 a1).bind fun v13 =>
  (hp_sti w7 v9 a2 v13).bind fun w15 =>
  bX10_move_26 E zf a0 a1 a2 (0 : Int32) w15
set_option maxRecDepth 20000 in
set_option maxHeartbeats 4000000 in
theorem rX10_move_0 {X : ah_X} {d : Nat} {a0 : Option Nat} {a1 : Int32} {a2 : Int32} {h : ah_H} {h2 : ah_H} (hf : bX10_move_0 X.2.2.2 a0 a1 a2 h = some h2) : Rt X yX10_move cX10_move 4 d 0 [(0, va_rf a0), (1, .int a1), (2, .int a2)] [] h none h2 := by
  unfold bX10_move_0 at hf
  refine rt_aload_n (pc := 0) (k0 := 0) (x := a0) 0 rfl dX10_move_0 ?_
  obtain ⟨v1, e2, hf⟩ := ob1 hf
  refine rt_gr (pc := 1) fd_X10_19 dX10_move_1 e2 ?_
  refine rt_iload_n (pc := 4) (k0 := 2) (x := a2) 2 rfl dX10_move_4 ?_
  refine rt_aload_n (pc := 5) (k0 := 0) (x := a0) 0 rfl dX10_move_5 ?_
  obtain ⟨v3, e4, hf⟩ := ob1 hf
  refine rt_gr (pc := 6) fd_X10_19 dX10_move_6 e4 ?_
  refine rt_iload_n (pc := 9) (k0 := 1) (x := a1) 1 rfl dX10_move_9 ?_
  obtain ⟨v5, e6, hf⟩ := ob1 hf
  refine rt_lald (pc := 10) dX10_move_10 e6 ?_
  obtain ⟨w7, e8, hf⟩ := ob1 hf
  refine rt_last (pc := 11) dX10_move_11 e8 ?_
  refine rt_aload_n (pc := 12) (k0 := 0) (x := a0) 0 rfl dX10_move_12 ?_
  obtain ⟨v9, e10, hf⟩ := ob1 hf
  refine rt_gr (pc := 13) fd_X10_27 dX10_move_13 e10 ?_
  refine rt_iload_n (pc := 16) (k0 := 2) (x := a2) 2 rfl dX10_move_16 ?_
  refine rt_aload_n (pc := 17) (k0 := 0) (x := a0) 0 rfl dX10_move_17 ?_
  obtain ⟨v11, e12, hf⟩ := ob1 hf
  refine rt_gr (pc := 18) fd_X10_27 dX10_move_18 e12 ?_
  refine rt_iload_n (pc := 21) (k0 := 1) (x := a1) 1 rfl dX10_move_21 ?_
  obtain ⟨v13, e14, hf⟩ := ob1 hf
  refine rt_iald (pc := 22) dX10_move_22 e14 ?_
  obtain ⟨w15, e16, hf⟩ := ob1 hf
  refine rt_iast (pc := 23) dX10_move_23 e16 ?_
  refine rt_iconst (pc := 24) (n := 0) (v := (0 : Int32)) (by decide) dX10_move_24 ?_
  refine rt_istore_n (pc := 25) (k0 := 3) (x := (0 : Int32)) (l2 := [(3, .int (0 : Int32)), (0, va_rf a0), (1, .int a1), (2, .int a2)]) (by decide) (by first | rfl | (simp [rt_cat, cat_i, cat_l]; done) | (simp [rt_cat, cat_i, cat_l]; decide)) dX10_move_25 ?_
  exact rt_locals (rt_sub [1, 2, 3, 0] rfl) (rX10_move_26 zf _ _ _ _ _ _ hf)
noncomputable def fX10_move (E : ah_E) (a0 : Option Nat) (a1 : Int32) (a2 : Int32) (h : ah_H) : Option ah_H := if hp_rcv h a0 11 = false then none else bX10_move_0 E a0 a1 a2 h
set_option maxRecDepth 20000 in
set_option maxHeartbeats 4000000 in
theorem sX10_move {X : ah_X} (d : Nat) (hd : 0 ≤ d) {a0 : Option Nat} {a1 : Int32} {a2 : Int32} {h : ah_H} {h2 : ah_H} (hf : fX10_move X.2.2.2 a0 a1 a2 h = some h2) : hp_rcv h a0 11 = true ∧ Rn X yX10_move cX10_move 4 none d [va_rf a0, .int a1, .int a2] h none h2 := by
  unfold fX10_move at hf
  by_cases c0 : hp_rcv h a0 11 = false
  · rw [if_pos c0] at hf; cases hf
  rw [if_neg c0] at hf
  refine ⟨(Bool.not_eq_false _).mp c0, ?_⟩
  exact Rn.of2 me_X10_move (by simp [lg_sl, rt_cat, cat_i, cat_l]) rfl (l := [(0, va_rf a0), (1, .int a1), (2, .int a2)]) (by simp [lv_args, rt_cat, cat_i, cat_l]) (rX10_move_0 hf)
noncomputable def bX10_open_6 (E : ah_E) : Nat → Option Nat → Int32 → Int64 → Int32 → ah_H → Option ah_H
  | 0 => fun _ _ _ _ _ => none
  | n + 1 => fun a0 a1 a2 a4 h =>
  if a4 ≤ a1 then
    (hp_gr h a0 11 3).bind fun v2 =>
    (hp_stl h v2 a1 a2).bind fun w4 =>
    (hp_gr w4 a0 11 4).bind fun v6 =>
    (hp_sti w4 v6 a1 (0 : Int32)).bind fun w8 =>
    (hp_gi w8 a0 11 6).bind fun v10 =>
    (hp_pv w8 a0 11 6 (.int (v10 + (1 : Int32)))).bind fun w12 =>
    some w12
  else
  (fX10_move E a0 (a4 - (1 : Int32)) a4 h).bind fun w15 =>
  bX10_open_6 E n a0 a1 a2 (a4 + (-1)) w15
set_option maxRecDepth 20000 in
set_option maxHeartbeats 4000000 in
theorem rX10_open_6 {X : ah_X} {d : Nat} (hd : 0 ≤ d) (n : Nat) : ∀ (a0 : Option Nat) (a1 : Int32) (a2 : Int64) (a4 : Int32) (h : ah_H) (h2 : ah_H), bX10_open_6 X.2.2.2 n a0 a1 a2 a4 h = some h2 → Rt X yX10_open cX10_open 5 (d + 1) 6 [(0, va_rf a0), (1, .int a1), (2, .long a2), (4, .int a4)] [] h none h2 := by
  induction n with
  | zero => intro a0 a1 a2 a4 h h2 hf; cases hf
  | succ n ih =>
  intro a0 a1 a2 a4 h h2 hf
  unfold bX10_open_6 at hf
  refine rt_iload (pc := 6) (i := 4) (x := a4) 3 rfl dX10_open_6 ?_
  refine rt_iload_n (pc := 8) (k0 := 1) (x := a1) 1 rfl dX10_open_8 ?_
  by_cases c1 : a4 ≤ a1
  · rw [if_pos c1] at hf
    refine rt_icmp_le_p (pc := 9) (x := a4) (z := a1) (tgt := 28) (by decide) dX10_open_9 c1 ?_
    refine rt_aload_n (pc := 28) (k0 := 0) (x := a0) 0 rfl dX10_open_28 ?_
    obtain ⟨v2, e3, hf⟩ := ob1 hf
    refine rt_gr (pc := 29) fd_X10_19 dX10_open_29 e3 ?_
    refine rt_iload_n (pc := 32) (k0 := 1) (x := a1) 1 rfl dX10_open_32 ?_
    refine rt_lload_n (pc := 33) (k0 := 2) (x := a2) 2 rfl dX10_open_33 ?_
    obtain ⟨w4, e5, hf⟩ := ob1 hf
    refine rt_last (pc := 34) dX10_open_34 e5 ?_
    refine rt_aload_n (pc := 35) (k0 := 0) (x := a0) 0 rfl dX10_open_35 ?_
    obtain ⟨v6, e7, hf⟩ := ob1 hf
    refine rt_gr (pc := 36) fd_X10_27 dX10_open_36 e7 ?_
    refine rt_iload_n (pc := 39) (k0 := 1) (x := a1) 1 rfl dX10_open_39 ?_
    refine rt_iconst (pc := 40) (n := 0) (v := (0 : Int32)) (by decide) dX10_open_40 ?_
    obtain ⟨w8, e9, hf⟩ := ob1 hf
    refine rt_iast (pc := 41) dX10_open_41 e9 ?_
    refine rt_aload_n (pc := 42) (k0 := 0) (x := a0) 0 rfl dX10_open_42 ?_
    refine rt_dup (pc := 43) (rt_cat _) dX10_open_43 ?_
    obtain ⟨v10, e11, hf⟩ := ob1 hf
    refine rt_gi (pc := 44) fd_X10_16 dX10_open_44 e11 ?_
    refine rt_iconst (pc := 47) (n := 1) (v := (1 : Int32)) (by decide) dX10_open_47 ?_
    refine rt_iadd (pc := 48) (x := v10) (z := (1 : Int32)) dX10_open_48 ?_
    obtain ⟨w12, e13, hf⟩ := ob1 hf
    refine rt_putf (pc := 49) (x := a0) fw_X10_16 (Or.inl rfl) (pf_i _).1 (pf_i _).2 dX10_open_49 e13 ?_
    cases hf
    exact rt_ret (pc := 52) dX10_open_52 rfl
  rw [if_neg c1] at hf
  refine rt_icmp_le_n (pc := 9) (x := a4) (z := a1) (tgt := 28) (by decide) dX10_open_9 c1 ?_
  refine rt_aload_n (pc := 12) (k0 := 0) (x := a0) 0 rfl dX10_open_12 ?_
  refine rt_iload (pc := 13) (i := 4) (x := a4) 3 rfl dX10_open_13 ?_
  refine rt_iconst (pc := 15) (n := 1) (v := (1 : Int32)) (by decide) dX10_open_15 ?_
  refine rt_isub (pc := 16) (x := a4) (z := (1 : Int32)) dX10_open_16 ?_
  refine rt_iload (pc := 17) (i := 4) (x := a4) 3 rfl dX10_open_17 ?_
  obtain ⟨w15, e14, hf⟩ := ob1 hf
  have g16 := sX10_move d (by omega) e14
  refine rt_callV (pc := 19) (As := [.int (a4 - (1 : Int32)), .int a4]) (st := []) me_X10_move mi_X10_move wl_X10_23 dX10_open_19 rfl (by decide) rfl g16.1 g16.2 ?_
  refine rt_iinc (pc := 22) (i := 4) (n := -1) (x := a4) (v := (a4 + (-1))) (l2 := [(4, .int (a4 + (-1))), (0, va_rf a0), (1, .int a1), (2, .long a2)]) 3 rfl rfl (by decide) (by first | rfl | (simp [rt_cat, cat_i, cat_l]; done) | (simp [rt_cat, cat_i, cat_l]; decide)) dX10_open_22 ?_
  refine rt_goto (pc := 25) (tgt := 6) (by decide) dX10_open_25 ?_
  exact rt_locals (rt_sub [1, 2, 3, 0] rfl) (ih _ _ _ _ _ _ hf)
noncomputable def bX10_open_0 (E : ah_E) (a0 : Option Nat) (a1 : Int32) (a2 : Int64) (h : ah_H) : Option ah_H :=
  (hp_gi h a0 11 6).bind fun v1 =>
  bX10_open_6 E zf a0 a1 a2 v1 h
set_option maxRecDepth 20000 in
set_option maxHeartbeats 4000000 in
theorem rX10_open_0 {X : ah_X} {d : Nat} (hd : 0 ≤ d) {a0 : Option Nat} {a1 : Int32} {a2 : Int64} {h : ah_H} {h2 : ah_H} (hf : bX10_open_0 X.2.2.2 a0 a1 a2 h = some h2) : Rt X yX10_open cX10_open 5 (d + 1) 0 [(0, va_rf a0), (1, .int a1), (2, .long a2)] [] h none h2 := by
  unfold bX10_open_0 at hf
  refine rt_aload_n (pc := 0) (k0 := 0) (x := a0) 0 rfl dX10_open_0 ?_
  obtain ⟨v1, e2, hf⟩ := ob1 hf
  refine rt_gi (pc := 1) fd_X10_16 dX10_open_1 e2 ?_
  refine rt_istore (pc := 4) (i := 4) (x := v1) (l2 := [(4, .int v1), (0, va_rf a0), (1, .int a1), (2, .long a2)]) (by decide) (by first | rfl | (simp [rt_cat, cat_i, cat_l]; done) | (simp [rt_cat, cat_i, cat_l]; decide)) dX10_open_4 ?_
  exact rt_locals (rt_sub [1, 2, 3, 0] rfl) (rX10_open_6 hd zf _ _ _ _ _ _ hf)
noncomputable def fX10_open (E : ah_E) (a0 : Option Nat) (a1 : Int32) (a2 : Int64) (h : ah_H) : Option ah_H := if hp_rcv h a0 11 = false then none else bX10_open_0 E a0 a1 a2 h
set_option maxRecDepth 20000 in
set_option maxHeartbeats 4000000 in
theorem sX10_open {X : ah_X} (d : Nat) (hd : 1 ≤ d) {a0 : Option Nat} {a1 : Int32} {a2 : Int64} {h : ah_H} {h2 : ah_H} (hf : fX10_open X.2.2.2 a0 a1 a2 h = some h2) : hp_rcv h a0 11 = true ∧ Rn X yX10_open cX10_open 5 none d [va_rf a0, .int a1, .long a2] h none h2 := by
  unfold fX10_open at hf
  by_cases c0 : hp_rcv h a0 11 = false
  · rw [if_pos c0] at hf; cases hf
  rw [if_neg c0] at hf
  refine ⟨(Bool.not_eq_false _).mp c0, ?_⟩
  obtain ⟨d, rfl⟩ : ∃ k, d = k + 1 := ⟨d - 1, by omega⟩
  exact Rn.of2 me_X10_open (by simp [lg_sl, rt_cat, cat_i, cat_l]) rfl (l := [(0, va_rf a0), (1, .int a1), (2, .long a2)]) (by simp [lv_args, rt_cat, cat_i, cat_l]) (rX10_open_0 (by omega) hf)
noncomputable def bX10_place_46 (E : ah_E) (k8 : Option Nat → Int64 → Int32 → Int32 → ah_H → Option (Int32 × ah_H)) (a0 : Option Nat) (a1 : Int64) (a3 : Int32) (a4 : Int32) (h : ah_H) : Option (Int32 × ah_H) :=
  k8 a0 a1 a3 a4 h
set_option maxRecDepth 20000 in
set_option maxHeartbeats 4000000 in
theorem rX10_place_46 {X : ah_X} {d : Nat} {k8 : Option Nat → Int64 → Int32 → Int32 → ah_H → Option (Int32 × ah_H)} (hk8 : ∀ (x0 : Option Nat) (x1 : Int64) (x2 : Int32) (x3 : Int32) (h : ah_H) (r : Int32) (h2 : ah_H), k8 x0 x1 x2 x3 h = some (r, h2) → Rt X yX10_place cX10_place 6 d 8 [(0, va_rf x0), (1, .long x1), (3, .int x2), (4, .int x3)] [] h (some (.int r)) h2) {a0 : Option Nat} {a1 : Int64} {a3 : Int32} {a4 : Int32} {h : ah_H} {r : Int32} {h2 : ah_H} (hf : bX10_place_46 X.2.2.2 k8 a0 a1 a3 a4 h = some (r, h2)) : Rt X yX10_place cX10_place 6 d 46 [(0, va_rf a0), (1, .long a1), (3, .int a3), (4, .int a4)] [] h (some (.int r)) h2 := by
  unfold bX10_place_46 at hf
  refine rt_goto (pc := 46) (tgt := 8) (by decide) dX10_place_46 ?_
  exact hk8 _ _ _ _ _ _ _ hf
noncomputable def bX10_place_8 (E : ah_E) : Nat → Option Nat → Int64 → Int32 → Int32 → ah_H → Option (Int32 × ah_H)
  | 0 => fun _ _ _ _ _ => none
  | n + 1 => fun a0 a1 a3 a4 h =>
  if a4 ≤ a3 then
    some (a3, h)
  else
  (hp_gr h a0 11 3).bind fun v3 =>
  (hp_ldl h v3 ((a3 + a4) / (2 : Int32))).bind fun v5 =>
  if a1 ≤ v5 then
    bX10_place_46 E (bX10_place_8 E n) a0 a1 a3 ((a3 + a4) / (2 : Int32)) h
  else
  bX10_place_46 E (bX10_place_8 E n) a0 a1 (((a3 + a4) / (2 : Int32)) + (1 : Int32)) a4 h
set_option maxRecDepth 20000 in
set_option maxHeartbeats 4000000 in
theorem rX10_place_8 {X : ah_X} {d : Nat} (n : Nat) : ∀ (a0 : Option Nat) (a1 : Int64) (a3 : Int32) (a4 : Int32) (h : ah_H) (r : Int32) (h2 : ah_H), bX10_place_8 X.2.2.2 n a0 a1 a3 a4 h = some (r, h2) → Rt X yX10_place cX10_place 6 d 8 [(0, va_rf a0), (1, .long a1), (3, .int a3), (4, .int a4)] [] h (some (.int r)) h2 := by
  induction n with
  | zero => intro a0 a1 a3 a4 h r h2 hf; cases hf
  | succ n ih =>
  intro a0 a1 a3 a4 h r h2 hf
  unfold bX10_place_8 at hf
  refine rt_iload_n (pc := 8) (k0 := 3) (x := a3) 2 rfl dX10_place_8 ?_
  refine rt_iload (pc := 9) (i := 4) (x := a4) 3 rfl dX10_place_9 ?_
  by_cases c1 : a4 ≤ a3
  · rw [if_pos c1] at hf
    refine rt_icmp_ge_p (pc := 11) (x := a3) (z := a4) (tgt := 49) (by decide) dX10_place_11 c1 ?_
    refine rt_iload_n (pc := 49) (k0 := 3) (x := a3) 2 rfl dX10_place_49 ?_
    cases hf
    exact rt_ret (pc := 50) dX10_place_50 rfl
  rw [if_neg c1] at hf
  refine rt_icmp_ge_n (pc := 11) (x := a3) (z := a4) (tgt := 49) (by decide) dX10_place_11 c1 ?_
  refine rt_iload_n (pc := 14) (k0 := 3) (x := a3) 2 rfl dX10_place_14 ?_
  refine rt_iload (pc := 15) (i := 4) (x := a4) 3 rfl dX10_place_15 ?_
  refine rt_iadd (pc := 17) (x := a3) (z := a4) dX10_place_17 ?_
  refine rt_iconst (pc := 18) (n := 2) (v := (2 : Int32)) (by decide) dX10_place_18 ?_
  refine rt_idiv (pc := 19) (x := (a3 + a4)) (z := (2 : Int32)) (by decide) dX10_place_19 ?_
  refine rt_istore (pc := 20) (i := 5) (x := ((a3 + a4) / (2 : Int32))) (l2 := [(5, .int ((a3 + a4) / (2 : Int32))), (0, va_rf a0), (1, .long a1), (3, .int a3), (4, .int a4)]) (by decide) (by first | rfl | (simp [rt_cat, cat_i, cat_l]; done) | (simp [rt_cat, cat_i, cat_l]; decide)) dX10_place_20 ?_
  refine rt_aload_n (pc := 22) (k0 := 0) (x := a0) 1 rfl dX10_place_22 ?_
  obtain ⟨v3, e4, hf⟩ := ob1 hf
  refine rt_gr (pc := 23) fd_X10_19 dX10_place_23 e4 ?_
  refine rt_iload (pc := 26) (i := 5) (x := ((a3 + a4) / (2 : Int32))) 0 rfl dX10_place_26 ?_
  obtain ⟨v5, e6, hf⟩ := ob1 hf
  refine rt_lald (pc := 28) dX10_place_28 e6 ?_
  refine rt_lload_n (pc := 29) (k0 := 1) (x := a1) 2 rfl dX10_place_29 ?_
  by_cases c7 : a1 ≤ v5
  · rw [if_pos c7] at hf
    refine rt_lif_ge_p (pc := 30) (x := v5) (z := a1) (tgt := 42) (by decide) dX10_place_30 dX10_place_31 c7 ?_
    refine rt_iload (pc := 42) (i := 5) (x := ((a3 + a4) / (2 : Int32))) 0 rfl dX10_place_42 ?_
    refine rt_istore (pc := 44) (i := 4) (x := ((a3 + a4) / (2 : Int32))) (l2 := [(4, .int ((a3 + a4) / (2 : Int32))), (5, .int ((a3 + a4) / (2 : Int32))), (0, va_rf a0), (1, .long a1), (3, .int a3)]) (by decide) (by first | rfl | (simp [rt_cat, cat_i, cat_l]; done) | (simp [rt_cat, cat_i, cat_l]; decide)) dX10_place_44 ?_
    exact rt_locals (rt_sub [2, 3, 4, 0] rfl) (rX10_place_46 ih hf)
  rw [if_neg c7] at hf
  refine rt_lif_ge_n (pc := 30) (x := v5) (z := a1) (tgt := 42) (by decide) dX10_place_30 dX10_place_31 c7 ?_
  refine rt_iload (pc := 34) (i := 5) (x := ((a3 + a4) / (2 : Int32))) 0 rfl dX10_place_34 ?_
  refine rt_iconst (pc := 36) (n := 1) (v := (1 : Int32)) (by decide) dX10_place_36 ?_
  refine rt_iadd (pc := 37) (x := ((a3 + a4) / (2 : Int32))) (z := (1 : Int32)) dX10_place_37 ?_
  refine rt_istore_n (pc := 38) (k0 := 3) (x := (((a3 + a4) / (2 : Int32)) + (1 : Int32))) (l2 := [(3, .int (((a3 + a4) / (2 : Int32)) + (1 : Int32))), (5, .int ((a3 + a4) / (2 : Int32))), (0, va_rf a0), (1, .long a1), (4, .int a4)]) (by decide) (by first | rfl | (simp [rt_cat, cat_i, cat_l]; done) | (simp [rt_cat, cat_i, cat_l]; decide)) dX10_place_38 ?_
  refine rt_goto (pc := 39) (tgt := 46) (by decide) dX10_place_39 ?_
  exact rt_locals (rt_sub [2, 3, 0, 4] rfl) (rX10_place_46 ih hf)
noncomputable def bX10_place_0 (E : ah_E) (a0 : Option Nat) (a1 : Int64) (h : ah_H) : Option (Int32 × ah_H) :=
  (hp_gi h a0 11 6).bind fun v1 =>
  bX10_place_8 E zf a0 a1 (0 : Int32) v1 h
set_option maxRecDepth 20000 in
set_option maxHeartbeats 4000000 in
theorem rX10_place_0 {X : ah_X} {d : Nat} {a0 : Option Nat} {a1 : Int64} {h : ah_H} {r : Int32} {h2 : ah_H} (hf : bX10_place_0 X.2.2.2 a0 a1 h = some (r, h2)) : Rt X yX10_place cX10_place 6 d 0 [(0, va_rf a0), (1, .long a1)] [] h (some (.int r)) h2 := by
  unfold bX10_place_0 at hf
  refine rt_iconst (pc := 0) (n := 0) (v := (0 : Int32)) (by decide) dX10_place_0 ?_
  refine rt_istore_n (pc := 1) (k0 := 3) (x := (0 : Int32)) (l2 := [(3, .int (0 : Int32)), (0, va_rf a0), (1, .long a1)]) (by decide) (by first | rfl | (simp [rt_cat, cat_i, cat_l]; done) | (simp [rt_cat, cat_i, cat_l]; decide)) dX10_place_1 ?_
  refine rt_aload_n (pc := 2) (k0 := 0) (x := a0) 1 rfl dX10_place_2 ?_
  obtain ⟨v1, e2, hf⟩ := ob1 hf
  refine rt_gi (pc := 3) fd_X10_16 dX10_place_3 e2 ?_
  refine rt_istore (pc := 6) (i := 4) (x := v1) (l2 := [(4, .int v1), (3, .int (0 : Int32)), (0, va_rf a0), (1, .long a1)]) (by decide) (by first | rfl | (simp [rt_cat, cat_i, cat_l]; done) | (simp [rt_cat, cat_i, cat_l]; decide)) dX10_place_6 ?_
  exact rt_locals (rt_sub [2, 3, 1, 0] rfl) (rX10_place_8 zf _ _ _ _ _ _ _ hf)
noncomputable def fX10_place (E : ah_E) (a0 : Option Nat) (a1 : Int64) (h : ah_H) : Option (Int32 × ah_H) := if hp_rcv h a0 11 = false then none else bX10_place_0 E a0 a1 h
set_option maxRecDepth 20000 in
set_option maxHeartbeats 4000000 in
theorem sX10_place {X : ah_X} (d : Nat) (hd : 0 ≤ d) {a0 : Option Nat} {a1 : Int64} {h : ah_H} {r : Int32} {h2 : ah_H} (hf : fX10_place X.2.2.2 a0 a1 h = some (r, h2)) : hp_rcv h a0 11 = true ∧ Rn X yX10_place cX10_place 6 (some .int) d [va_rf a0, .long a1] h (some (.int r)) h2 := by
  unfold fX10_place at hf
  by_cases c0 : hp_rcv h a0 11 = false
  · rw [if_pos c0] at hf; cases hf
  rw [if_neg c0] at hf
  refine ⟨(Bool.not_eq_false _).mp c0, ?_⟩
  exact Rn.of2 me_X10_place (by simp [lg_sl, rt_cat, cat_i, cat_l]) (ok_i _) (l := [(0, va_rf a0), (1, .long a1)]) (by simp [lv_args, rt_cat, cat_i, cat_l]) (rX10_place_0 hf)
noncomputable def bX10_shut_2 (E : ah_E) : Nat → Option Nat → Int32 → Int32 → Int32 → ah_H → Option ah_H
  | 0 => fun _ _ _ _ _ => none
  | n + 1 => fun a0 a1 a2 a3 h =>
  (hp_gi h a0 11 6).bind fun v1 =>
  if v1 ≤ a3 then
    (hp_gi h a0 11 6).bind fun v4 =>
    (hp_pv h a0 11 6 (.int (v4 - (a2 - a1)))).bind fun w6 =>
    some w6
  else
  (fX10_move E a0 a3 ((a1 + a3) - a2) h).bind fun w9 =>
  bX10_shut_2 E n a0 a1 a2 (a3 + 1) w9
set_option maxRecDepth 20000 in
set_option maxHeartbeats 4000000 in
theorem rX10_shut_2 {X : ah_X} {d : Nat} (hd : 0 ≤ d) (n : Nat) : ∀ (a0 : Option Nat) (a1 : Int32) (a2 : Int32) (a3 : Int32) (h : ah_H) (h2 : ah_H), bX10_shut_2 X.2.2.2 n a0 a1 a2 a3 h = some h2 → Rt X yX10_shut cX10_shut 4 (d + 1) 2 [(0, va_rf a0), (1, .int a1), (2, .int a2), (3, .int a3)] [] h none h2 := by
  induction n with
  | zero => intro a0 a1 a2 a3 h h2 hf; cases hf
  | succ n ih =>
  intro a0 a1 a2 a3 h h2 hf
  unfold bX10_shut_2 at hf
  refine rt_iload_n (pc := 2) (k0 := 3) (x := a3) 3 rfl dX10_shut_2 ?_
  refine rt_aload_n (pc := 3) (k0 := 0) (x := a0) 0 rfl dX10_shut_3 ?_
  obtain ⟨v1, e2, hf⟩ := ob1 hf
  refine rt_gi (pc := 4) fd_X10_16 dX10_shut_4 e2 ?_
  by_cases c3 : v1 ≤ a3
  · rw [if_pos c3] at hf
    refine rt_icmp_ge_p (pc := 7) (x := a3) (z := v1) (tgt := 26) (by decide) dX10_shut_7 c3 ?_
    refine rt_aload_n (pc := 26) (k0 := 0) (x := a0) 0 rfl dX10_shut_26 ?_
    refine rt_dup (pc := 27) (rt_cat _) dX10_shut_27 ?_
    obtain ⟨v4, e5, hf⟩ := ob1 hf
    refine rt_gi (pc := 28) fd_X10_16 dX10_shut_28 e5 ?_
    refine rt_iload_n (pc := 31) (k0 := 2) (x := a2) 2 rfl dX10_shut_31 ?_
    refine rt_iload_n (pc := 32) (k0 := 1) (x := a1) 1 rfl dX10_shut_32 ?_
    refine rt_isub (pc := 33) (x := a2) (z := a1) dX10_shut_33 ?_
    refine rt_isub (pc := 34) (x := v4) (z := (a2 - a1)) dX10_shut_34 ?_
    obtain ⟨w6, e7, hf⟩ := ob1 hf
    refine rt_putf (pc := 35) (x := a0) fw_X10_16 (Or.inl rfl) (pf_i _).1 (pf_i _).2 dX10_shut_35 e7 ?_
    cases hf
    exact rt_ret (pc := 38) dX10_shut_38 rfl
  rw [if_neg c3] at hf
  refine rt_icmp_ge_n (pc := 7) (x := a3) (z := v1) (tgt := 26) (by decide) dX10_shut_7 c3 ?_
  refine rt_aload_n (pc := 10) (k0 := 0) (x := a0) 0 rfl dX10_shut_10 ?_
  refine rt_iload_n (pc := 11) (k0 := 3) (x := a3) 3 rfl dX10_shut_11 ?_
  refine rt_iload_n (pc := 12) (k0 := 1) (x := a1) 1 rfl dX10_shut_12 ?_
  refine rt_iload_n (pc := 13) (k0 := 3) (x := a3) 3 rfl dX10_shut_13 ?_
  refine rt_iadd (pc := 14) (x := a1) (z := a3) dX10_shut_14 ?_
  refine rt_iload_n (pc := 15) (k0 := 2) (x := a2) 2 rfl dX10_shut_15 ?_
  refine rt_isub (pc := 16) (x := (a1 + a3)) (z := a2) dX10_shut_16 ?_
  obtain ⟨w9, e8, hf⟩ := ob1 hf
  have g10 := sX10_move d (by omega) e8
  refine rt_callV (pc := 17) (As := [.int a3, .int ((a1 + a3) - a2)]) (st := []) me_X10_move mi_X10_move wl_X10_23 dX10_shut_17 rfl (by decide) rfl g10.1 g10.2 ?_
  refine rt_iinc (pc := 20) (i := 3) (n := 1) (x := a3) (v := (a3 + 1)) (l2 := [(3, .int (a3 + 1)), (0, va_rf a0), (1, .int a1), (2, .int a2)]) 3 rfl rfl (by decide) (by first | rfl | (simp [rt_cat, cat_i, cat_l]; done) | (simp [rt_cat, cat_i, cat_l]; decide)) dX10_shut_20 ?_
  refine rt_goto (pc := 23) (tgt := 2) (by decide) dX10_shut_23 ?_
  exact rt_locals (rt_sub [1, 2, 3, 0] rfl) (ih _ _ _ _ _ _ hf)
noncomputable def bX10_shut_0 (E : ah_E) (a0 : Option Nat) (a1 : Int32) (a2 : Int32) (h : ah_H) : Option ah_H :=
  bX10_shut_2 E zf a0 a1 a2 a2 h
set_option maxRecDepth 20000 in
set_option maxHeartbeats 4000000 in
theorem rX10_shut_0 {X : ah_X} {d : Nat} (hd : 0 ≤ d) {a0 : Option Nat} {a1 : Int32} {a2 : Int32} {h : ah_H} {h2 : ah_H} (hf : bX10_shut_0 X.2.2.2 a0 a1 a2 h = some h2) : Rt X yX10_shut cX10_shut 4 (d + 1) 0 [(0, va_rf a0), (1, .int a1), (2, .int a2)] [] h none h2 := by
  unfold bX10_shut_0 at hf
  refine rt_iload_n (pc := 0) (k0 := 2) (x := a2) 2 rfl dX10_shut_0 ?_
  refine rt_istore_n (pc := 1) (k0 := 3) (x := a2) (l2 := [(3, .int a2), (0, va_rf a0), (1, .int a1), (2, .int a2)]) (by decide) (by first | rfl | (simp [rt_cat, cat_i, cat_l]; done) | (simp [rt_cat, cat_i, cat_l]; decide)) dX10_shut_1 ?_
  exact rt_locals (rt_sub [1, 2, 3, 0] rfl) (rX10_shut_2 hd zf _ _ _ _ _ _ hf)
noncomputable def fX10_shut (E : ah_E) (a0 : Option Nat) (a1 : Int32) (a2 : Int32) (h : ah_H) : Option ah_H := if hp_rcv h a0 11 = false then none else bX10_shut_0 E a0 a1 a2 h
set_option maxRecDepth 20000 in
set_option maxHeartbeats 4000000 in
theorem sX10_shut {X : ah_X} (d : Nat) (hd : 1 ≤ d) {a0 : Option Nat} {a1 : Int32} {a2 : Int32} {h : ah_H} {h2 : ah_H} (hf : fX10_shut X.2.2.2 a0 a1 a2 h = some h2) : hp_rcv h a0 11 = true ∧ Rn X yX10_shut cX10_shut 4 none d [va_rf a0, .int a1, .int a2] h none h2 := by
  unfold fX10_shut at hf
  by_cases c0 : hp_rcv h a0 11 = false
  · rw [if_pos c0] at hf; cases hf
  rw [if_neg c0] at hf
  refine ⟨(Bool.not_eq_false _).mp c0, ?_⟩
  obtain ⟨d, rfl⟩ : ∃ k, d = k + 1 := ⟨d - 1, by omega⟩
  exact Rn.of2 me_X10_shut (by simp [lg_sl, rt_cat, cat_i, cat_l]) rfl (l := [(0, va_rf a0), (1, .int a1), (2, .int a2)]) (by simp [lv_args, rt_cat, cat_i, cat_l]) (rX10_shut_0 (by omega) hf)
noncomputable def bX10_actsOnMap_107 (E : ah_E) (a4 : Int32) (h : ah_H) : Option (Int32 × ah_H) :=
  some (a4, h)
set_option maxRecDepth 20000 in
set_option maxHeartbeats 4000000 in
theorem rX10_actsOnMap_107 {X : ah_X} {d : Nat} (hd : 1 ≤ d) {a4 : Int32} {h : ah_H} {r : Int32} {h2 : ah_H} (hf : bX10_actsOnMap_107 X.2.2.2 a4 h = some (r, h2)) : Rt X yX10_actsOnMap cX10_actsOnMap 6 (d + 1) 107 [(4, .int a4)] [] h (some (.int r)) h2 := by
  unfold bX10_actsOnMap_107 at hf
  refine rt_iload (pc := 107) (i := 4) (x := a4) 0 rfl dX10_actsOnMap_107 ?_
  cases hf
  exact rt_ret (pc := 109) dX10_actsOnMap_109 rfl
noncomputable def bX10_actsOnMap_138 (E : ah_E) : Nat → Option Nat → Int32 → Int32 → Int32 → ah_H → Option (Int32 × ah_H)
  | 0 => fun _ _ _ _ _ => none
  | n + 1 => fun a0 a2 a4 a5 h =>
  if (20 : Int32) ≤ a5 then
    some (a4, h)
  else
  (hp_gr h a0 11 5).bind fun v2 =>
  (hp_gr h a0 11 16).bind fun v4 =>
  (hp_ldb h v4 a5).bind fun v6 =>
  (hp_stb h v2 (((20 : Int32) * a2) + a5) v6).bind fun w8 =>
  bX10_actsOnMap_138 E n a0 a2 a4 (a5 + 1) w8
set_option maxRecDepth 20000 in
set_option maxHeartbeats 4000000 in
theorem rX10_actsOnMap_138 {X : ah_X} {d : Nat} (hd : 1 ≤ d) (n : Nat) : ∀ (a0 : Option Nat) (a2 : Int32) (a4 : Int32) (a5 : Int32) (h : ah_H) (r : Int32) (h2 : ah_H), bX10_actsOnMap_138 X.2.2.2 n a0 a2 a4 a5 h = some (r, h2) → Rt X yX10_actsOnMap cX10_actsOnMap 6 (d + 1) 138 [(0, va_rf a0), (2, .int a2), (4, .int a4), (5, .int a5)] [] h (some (.int r)) h2 := by
  induction n with
  | zero => intro a0 a2 a4 a5 h r h2 hf; cases hf
  | succ n ih =>
  intro a0 a2 a4 a5 h r h2 hf
  unfold bX10_actsOnMap_138 at hf
  refine rt_iload (pc := 138) (i := 5) (x := a5) 3 rfl dX10_actsOnMap_138 ?_
  refine rt_bipush (pc := 140) (n := 20) (v := (20 : Int32)) (by decide) dX10_actsOnMap_140 ?_
  by_cases c1 : (20 : Int32) ≤ a5
  · rw [if_pos c1] at hf
    refine rt_icmp_ge_p (pc := 142) (x := a5) (z := (20 : Int32)) (tgt := 170) (by decide) dX10_actsOnMap_142 c1 ?_
    refine rt_iload (pc := 170) (i := 4) (x := a4) 2 rfl dX10_actsOnMap_170 ?_
    cases hf
    exact rt_ret (pc := 172) dX10_actsOnMap_172 rfl
  rw [if_neg c1] at hf
  refine rt_icmp_ge_n (pc := 142) (x := a5) (z := (20 : Int32)) (tgt := 170) (by decide) dX10_actsOnMap_142 c1 ?_
  refine rt_aload_n (pc := 145) (k0 := 0) (x := a0) 0 rfl dX10_actsOnMap_145 ?_
  obtain ⟨v2, e3, hf⟩ := ob1 hf
  refine rt_gr (pc := 146) fd_X10_31 dX10_actsOnMap_146 e3 ?_
  refine rt_bipush (pc := 149) (n := 20) (v := (20 : Int32)) (by decide) dX10_actsOnMap_149 ?_
  refine rt_iload_n (pc := 151) (k0 := 2) (x := a2) 1 rfl dX10_actsOnMap_151 ?_
  refine rt_imul (pc := 152) (x := (20 : Int32)) (z := a2) dX10_actsOnMap_152 ?_
  refine rt_iload (pc := 153) (i := 5) (x := a5) 3 rfl dX10_actsOnMap_153 ?_
  refine rt_iadd (pc := 155) (x := ((20 : Int32) * a2)) (z := a5) dX10_actsOnMap_155 ?_
  refine rt_aload_n (pc := 156) (k0 := 0) (x := a0) 0 rfl dX10_actsOnMap_156 ?_
  obtain ⟨v4, e5, hf⟩ := ob1 hf
  refine rt_gr (pc := 157) fd_X10_40 dX10_actsOnMap_157 e5 ?_
  refine rt_iload (pc := 160) (i := 5) (x := a5) 3 rfl dX10_actsOnMap_160 ?_
  obtain ⟨v6, e7, hf⟩ := ob1 hf
  refine rt_bald (pc := 162) dX10_actsOnMap_162 e7 ?_
  obtain ⟨w8, e9, hf⟩ := ob1 hf
  refine rt_bast (pc := 163) dX10_actsOnMap_163 e9 ?_
  refine rt_iinc (pc := 164) (i := 5) (n := 1) (x := a5) (v := (a5 + 1)) (l2 := [(5, .int (a5 + 1)), (0, va_rf a0), (2, .int a2), (4, .int a4)]) 3 rfl rfl (by decide) (by first | rfl | (simp [rt_cat, cat_i, cat_l]; done) | (simp [rt_cat, cat_i, cat_l]; decide)) dX10_actsOnMap_164 ?_
  refine rt_goto (pc := 167) (tgt := 138) (by decide) dX10_actsOnMap_167 ?_
  exact rt_locals (rt_sub [1, 2, 3, 0] rfl) (ih _ _ _ _ _ _ _ hf)
noncomputable def bX10_actsOnMap_125 (E : ah_E) (a0 : Option Nat) (a2 : Int32) (a4 : Int32) (h : ah_H) : Option (Int32 × ah_H) :=
  (hp_gr h a0 11 4).bind fun v1 =>
  (hp_gi h a0 11 17).bind fun v3 =>
  (hp_sti h v1 a2 v3).bind fun w5 =>
  bX10_actsOnMap_138 E zf a0 a2 a4 (0 : Int32) w5
set_option maxRecDepth 20000 in
set_option maxHeartbeats 4000000 in
theorem rX10_actsOnMap_125 {X : ah_X} {d : Nat} (hd : 1 ≤ d) {a0 : Option Nat} {a2 : Int32} {a4 : Int32} {h : ah_H} {r : Int32} {h2 : ah_H} (hf : bX10_actsOnMap_125 X.2.2.2 a0 a2 a4 h = some (r, h2)) : Rt X yX10_actsOnMap cX10_actsOnMap 6 (d + 1) 125 [(0, va_rf a0), (2, .int a2), (4, .int a4)] [] h (some (.int r)) h2 := by
  unfold bX10_actsOnMap_125 at hf
  refine rt_aload_n (pc := 125) (k0 := 0) (x := a0) 0 rfl dX10_actsOnMap_125 ?_
  obtain ⟨v1, e2, hf⟩ := ob1 hf
  refine rt_gr (pc := 126) fd_X10_27 dX10_actsOnMap_126 e2 ?_
  refine rt_iload_n (pc := 129) (k0 := 2) (x := a2) 1 rfl dX10_actsOnMap_129 ?_
  refine rt_aload_n (pc := 130) (k0 := 0) (x := a0) 0 rfl dX10_actsOnMap_130 ?_
  obtain ⟨v3, e4, hf⟩ := ob1 hf
  refine rt_gi (pc := 131) fd_X10_34 dX10_actsOnMap_131 e4 ?_
  obtain ⟨w5, e6, hf⟩ := ob1 hf
  refine rt_iast (pc := 134) dX10_actsOnMap_134 e6 ?_
  refine rt_iconst (pc := 135) (n := 0) (v := (0 : Int32)) (by decide) dX10_actsOnMap_135 ?_
  refine rt_istore (pc := 136) (i := 5) (x := (0 : Int32)) (l2 := [(5, .int (0 : Int32)), (0, va_rf a0), (2, .int a2), (4, .int a4)]) (by decide) (by first | rfl | (simp [rt_cat, cat_i, cat_l]; done) | (simp [rt_cat, cat_i, cat_l]; decide)) dX10_actsOnMap_136 ?_
  exact rt_locals (rt_sub [1, 2, 3, 0] rfl) (rX10_actsOnMap_138 hd zf _ _ _ _ _ _ _ hf)
noncomputable def bX10_actsOnMap_80 (E : ah_E) (a0 : Option Nat) (a1 : Int32) (a2 : Int32) (a3 : Int32) (h : ah_H) : Option (Int32 × ah_H) :=
  ob2 (fX10_acts E a0 a1 h) fun v3 w2 =>
  (hp_gi w2 a0 11 17).bind fun v5 =>
  if v5 = (-1 : Int32) then
    if a3 = 0 then
      bX10_actsOnMap_107 E v3 w2
    else
    (fX10_shut E a0 a2 (a2 + (1 : Int32)) w2).bind fun w10 =>
    bX10_actsOnMap_107 E v3 w10
  else
  if a3 = 0 then
    (hp_gr w2 a0 11 9).bind fun v13 =>
    (hp_ldl w2 v13 a1).bind fun v15 =>
    (fX10_open E a0 a2 v15 w2).bind fun w18 =>
    bX10_actsOnMap_125 E a0 a2 v3 w18
  else
  bX10_actsOnMap_125 E a0 a2 v3 w2
set_option maxRecDepth 20000 in
set_option maxHeartbeats 4000000 in
theorem rX10_actsOnMap_80 {X : ah_X} {d : Nat} (hd : 1 ≤ d) {a0 : Option Nat} {a1 : Int32} {a2 : Int32} {a3 : Int32} {h : ah_H} {r : Int32} {h2 : ah_H} (hf : bX10_actsOnMap_80 X.2.2.2 a0 a1 a2 a3 h = some (r, h2)) : Rt X yX10_actsOnMap cX10_actsOnMap 6 (d + 1) 80 [(0, va_rf a0), (1, .int a1), (2, .int a2), (3, .int a3)] [] h (some (.int r)) h2 := by
  unfold bX10_actsOnMap_80 at hf
  refine rt_aload_n (pc := 80) (k0 := 0) (x := a0) 0 rfl dX10_actsOnMap_80 ?_
  refine rt_iload_n (pc := 81) (k0 := 1) (x := a1) 1 rfl dX10_actsOnMap_81 ?_
  obtain ⟨v3, w2, e1, hf⟩ := ob2_of hf
  have g4 := sX10_acts d (by omega) e1
  refine rt_callV (pc := 82) (As := [.int a1]) (st := []) me_X10_acts mi_X10_acts wl_X10_80 dX10_actsOnMap_82 rfl (by decide) rfl g4.1 g4.2 ?_
  refine rt_istore (pc := 85) (i := 4) (x := v3) (l2 := [(4, .int v3), (0, va_rf a0), (1, .int a1), (2, .int a2), (3, .int a3)]) (by decide) (by first | rfl | (simp [rt_cat, cat_i, cat_l]; done) | (simp [rt_cat, cat_i, cat_l]; decide)) dX10_actsOnMap_85 ?_
  refine rt_aload_n (pc := 87) (k0 := 0) (x := a0) 1 rfl dX10_actsOnMap_87 ?_
  obtain ⟨v5, e6, hf⟩ := ob1 hf
  refine rt_gi (pc := 88) fd_X10_34 dX10_actsOnMap_88 e6 ?_
  refine rt_iconst (pc := 91) (n := -1) (v := (-1 : Int32)) (by decide) dX10_actsOnMap_91 ?_
  by_cases c7 : v5 = (-1 : Int32)
  · rw [if_pos c7] at hf
    refine rt_icmp_ne_p (pc := 92) (x := v5) (z := (-1 : Int32)) (tgt := 110) (by decide) dX10_actsOnMap_92 c7 ?_
    refine rt_iload_n (pc := 95) (k0 := 3) (x := a3) 4 rfl dX10_actsOnMap_95 ?_
    by_cases c8 : a3 = 0
    · rw [if_pos c8] at hf
      refine rt_if_eq_p (pc := 96) (x := a3) (tgt := 107) (by decide) dX10_actsOnMap_96 c8 ?_
      exact rt_locals (rt_sub [0] rfl) (rX10_actsOnMap_107 hd hf)
    rw [if_neg c8] at hf
    refine rt_if_eq_n (pc := 96) (x := a3) (tgt := 107) (by decide) dX10_actsOnMap_96 c8 ?_
    refine rt_aload_n (pc := 99) (k0 := 0) (x := a0) 1 rfl dX10_actsOnMap_99 ?_
    refine rt_iload_n (pc := 100) (k0 := 2) (x := a2) 3 rfl dX10_actsOnMap_100 ?_
    refine rt_iload_n (pc := 101) (k0 := 2) (x := a2) 3 rfl dX10_actsOnMap_101 ?_
    refine rt_iconst (pc := 102) (n := 1) (v := (1 : Int32)) (by decide) dX10_actsOnMap_102 ?_
    refine rt_iadd (pc := 103) (x := a2) (z := (1 : Int32)) dX10_actsOnMap_103 ?_
    obtain ⟨w10, e9, hf⟩ := ob1 hf
    have g11 := sX10_shut d (by omega) e9
    refine rt_callV (pc := 104) (As := [.int a2, .int (a2 + (1 : Int32))]) (st := []) me_X10_shut mi_X10_shut wl_X10_83 dX10_actsOnMap_104 rfl (by decide) rfl g11.1 g11.2 ?_
    exact rt_locals (rt_sub [0] rfl) (rX10_actsOnMap_107 hd hf)
  rw [if_neg c7] at hf
  refine rt_icmp_ne_n (pc := 92) (x := v5) (z := (-1 : Int32)) (tgt := 110) (by decide) dX10_actsOnMap_92 c7 ?_
  refine rt_iload_n (pc := 110) (k0 := 3) (x := a3) 4 rfl dX10_actsOnMap_110 ?_
  by_cases c12 : a3 = 0
  · rw [if_pos c12] at hf
    refine rt_if_ne_p (pc := 111) (x := a3) (tgt := 125) (by decide) dX10_actsOnMap_111 c12 ?_
    refine rt_aload_n (pc := 114) (k0 := 0) (x := a0) 1 rfl dX10_actsOnMap_114 ?_
    refine rt_iload_n (pc := 115) (k0 := 2) (x := a2) 3 rfl dX10_actsOnMap_115 ?_
    refine rt_aload_n (pc := 116) (k0 := 0) (x := a0) 1 rfl dX10_actsOnMap_116 ?_
    obtain ⟨v13, e14, hf⟩ := ob1 hf
    refine rt_gr (pc := 117) fd_X10_66 dX10_actsOnMap_117 e14 ?_
    refine rt_iload_n (pc := 120) (k0 := 1) (x := a1) 2 rfl dX10_actsOnMap_120 ?_
    obtain ⟨v15, e16, hf⟩ := ob1 hf
    refine rt_lald (pc := 121) dX10_actsOnMap_121 e16 ?_
    obtain ⟨w18, e17, hf⟩ := ob1 hf
    have g19 := sX10_open d (by omega) e17
    refine rt_callV (pc := 122) (As := [.int a2, .long v15]) (st := []) me_X10_open mi_X10_open wl_X10_86 dX10_actsOnMap_122 rfl (by decide) rfl g19.1 g19.2 ?_
    exact rt_locals (rt_sub [1, 3, 0] rfl) (rX10_actsOnMap_125 hd hf)
  rw [if_neg c12] at hf
  refine rt_if_ne_n (pc := 111) (x := a3) (tgt := 125) (by decide) dX10_actsOnMap_111 c12 ?_
  exact rt_locals (rt_sub [1, 3, 0] rfl) (rX10_actsOnMap_125 hd hf)
noncomputable def bX10_actsOnMap_44 (E : ah_E) : Nat → Option Nat → Int32 → Int32 → Int32 → Int32 → ah_H → Option (Int32 × ah_H)
  | 0 => fun _ _ _ _ _ _ => none
  | n + 1 => fun a0 a1 a2 a3 a4 h =>
  if (20 : Int32) ≤ a4 then
    bX10_actsOnMap_80 E a0 a1 a2 a3 h
  else
  if a3 = 0 then
    bX10_actsOnMap_80 E a0 a1 a2 a3 h
  else
  (hp_gr h a0 11 16).bind fun v3 =>
  (hp_gr h a0 11 5).bind fun v5 =>
  (hp_ldb h v5 (((20 : Int32) * a2) + a4)).bind fun v7 =>
  (hp_stb h v3 a4 v7).bind fun w9 =>
  bX10_actsOnMap_44 E n a0 a1 a2 a3 (a4 + 1) w9
set_option maxRecDepth 20000 in
set_option maxHeartbeats 4000000 in
theorem rX10_actsOnMap_44 {X : ah_X} {d : Nat} (hd : 1 ≤ d) (n : Nat) : ∀ (a0 : Option Nat) (a1 : Int32) (a2 : Int32) (a3 : Int32) (a4 : Int32) (h : ah_H) (r : Int32) (h2 : ah_H), bX10_actsOnMap_44 X.2.2.2 n a0 a1 a2 a3 a4 h = some (r, h2) → Rt X yX10_actsOnMap cX10_actsOnMap 6 (d + 1) 44 [(0, va_rf a0), (1, .int a1), (2, .int a2), (3, .int a3), (4, .int a4)] [] h (some (.int r)) h2 := by
  induction n with
  | zero => intro a0 a1 a2 a3 a4 h r h2 hf; cases hf
  | succ n ih =>
  intro a0 a1 a2 a3 a4 h r h2 hf
  unfold bX10_actsOnMap_44 at hf
  refine rt_iload (pc := 44) (i := 4) (x := a4) 4 rfl dX10_actsOnMap_44 ?_
  refine rt_bipush (pc := 46) (n := 20) (v := (20 : Int32)) (by decide) dX10_actsOnMap_46 ?_
  by_cases c1 : (20 : Int32) ≤ a4
  · rw [if_pos c1] at hf
    refine rt_icmp_ge_p (pc := 48) (x := a4) (z := (20 : Int32)) (tgt := 80) (by decide) dX10_actsOnMap_48 c1 ?_
    exact rt_locals (rt_sub [0, 1, 2, 3] rfl) (rX10_actsOnMap_80 hd hf)
  rw [if_neg c1] at hf
  refine rt_icmp_ge_n (pc := 48) (x := a4) (z := (20 : Int32)) (tgt := 80) (by decide) dX10_actsOnMap_48 c1 ?_
  refine rt_iload_n (pc := 51) (k0 := 3) (x := a3) 3 rfl dX10_actsOnMap_51 ?_
  by_cases c2 : a3 = 0
  · rw [if_pos c2] at hf
    refine rt_if_eq_p (pc := 52) (x := a3) (tgt := 80) (by decide) dX10_actsOnMap_52 c2 ?_
    exact rt_locals (rt_sub [0, 1, 2, 3] rfl) (rX10_actsOnMap_80 hd hf)
  rw [if_neg c2] at hf
  refine rt_if_eq_n (pc := 52) (x := a3) (tgt := 80) (by decide) dX10_actsOnMap_52 c2 ?_
  refine rt_aload_n (pc := 55) (k0 := 0) (x := a0) 0 rfl dX10_actsOnMap_55 ?_
  obtain ⟨v3, e4, hf⟩ := ob1 hf
  refine rt_gr (pc := 56) fd_X10_40 dX10_actsOnMap_56 e4 ?_
  refine rt_iload (pc := 59) (i := 4) (x := a4) 4 rfl dX10_actsOnMap_59 ?_
  refine rt_aload_n (pc := 61) (k0 := 0) (x := a0) 0 rfl dX10_actsOnMap_61 ?_
  obtain ⟨v5, e6, hf⟩ := ob1 hf
  refine rt_gr (pc := 62) fd_X10_31 dX10_actsOnMap_62 e6 ?_
  refine rt_bipush (pc := 65) (n := 20) (v := (20 : Int32)) (by decide) dX10_actsOnMap_65 ?_
  refine rt_iload_n (pc := 67) (k0 := 2) (x := a2) 2 rfl dX10_actsOnMap_67 ?_
  refine rt_imul (pc := 68) (x := (20 : Int32)) (z := a2) dX10_actsOnMap_68 ?_
  refine rt_iload (pc := 69) (i := 4) (x := a4) 4 rfl dX10_actsOnMap_69 ?_
  refine rt_iadd (pc := 71) (x := ((20 : Int32) * a2)) (z := a4) dX10_actsOnMap_71 ?_
  obtain ⟨v7, e8, hf⟩ := ob1 hf
  refine rt_bald (pc := 72) dX10_actsOnMap_72 e8 ?_
  obtain ⟨w9, e10, hf⟩ := ob1 hf
  refine rt_bast (pc := 73) dX10_actsOnMap_73 e10 ?_
  refine rt_iinc (pc := 74) (i := 4) (n := 1) (x := a4) (v := (a4 + 1)) (l2 := [(4, .int (a4 + 1)), (0, va_rf a0), (1, .int a1), (2, .int a2), (3, .int a3)]) 4 rfl rfl (by decide) (by first | rfl | (simp [rt_cat, cat_i, cat_l]; done) | (simp [rt_cat, cat_i, cat_l]; decide)) dX10_actsOnMap_74 ?_
  refine rt_goto (pc := 77) (tgt := 44) (by decide) dX10_actsOnMap_77 ?_
  exact rt_locals (rt_sub [1, 2, 3, 4, 0] rfl) (ih _ _ _ _ _ _ _ _ hf)
noncomputable def bX10_actsOnMap_38 (E : ah_E) (a0 : Option Nat) (a1 : Int32) (a2 : Int32) (a3 : Int32) (s0 : Option Nat) (s1 : Int32) (h : ah_H) : Option (Int32 × ah_H) :=
  (hp_pv h s0 11 17 (.int s1)).bind fun w1 =>
  bX10_actsOnMap_44 E zf a0 a1 a2 a3 (0 : Int32) w1
set_option maxRecDepth 20000 in
set_option maxHeartbeats 4000000 in
theorem rX10_actsOnMap_38 {X : ah_X} {d : Nat} (hd : 1 ≤ d) {a0 : Option Nat} {a1 : Int32} {a2 : Int32} {a3 : Int32} {s0 : Option Nat} {s1 : Int32} {h : ah_H} {r : Int32} {h2 : ah_H} (hf : bX10_actsOnMap_38 X.2.2.2 a0 a1 a2 a3 s0 s1 h = some (r, h2)) : Rt X yX10_actsOnMap cX10_actsOnMap 6 (d + 1) 38 [(0, va_rf a0), (1, .int a1), (2, .int a2), (3, .int a3)] [.int s1, va_rf s0] h (some (.int r)) h2 := by
  unfold bX10_actsOnMap_38 at hf
  obtain ⟨w1, e2, hf⟩ := ob1 hf
  refine rt_putf (pc := 38) (x := s0) fw_X10_34 (Or.inl rfl) (pf_i _).1 (pf_i _).2 dX10_actsOnMap_38 e2 ?_
  refine rt_iconst (pc := 41) (n := 0) (v := (0 : Int32)) (by decide) dX10_actsOnMap_41 ?_
  refine rt_istore (pc := 42) (i := 4) (x := (0 : Int32)) (l2 := [(4, .int (0 : Int32)), (0, va_rf a0), (1, .int a1), (2, .int a2), (3, .int a3)]) (by decide) (by first | rfl | (simp [rt_cat, cat_i, cat_l]; done) | (simp [rt_cat, cat_i, cat_l]; decide)) dX10_actsOnMap_42 ?_
  exact rt_locals (rt_sub [1, 2, 3, 4, 0] rfl) (rX10_actsOnMap_44 hd zf _ _ _ _ _ _ _ _ hf)
noncomputable def bX10_actsOnMap_0 (E : ah_E) (a0 : Option Nat) (a1 : Int32) (h : ah_H) : Option (Int32 × ah_H) :=
  (hp_gr h a0 11 9).bind fun v1 =>
  (hp_ldl h v1 a1).bind fun v3 =>
  ob2 (fX10_place E a0 v3 h) fun v7 w6 =>
  (hp_gr w6 a0 11 9).bind fun v9 =>
  (hp_ldl w6 v9 a1).bind fun v11 =>
  ob2 (fX10_isAt E a0 v7 v11 w6) fun v15 w14 =>
  if v15 = 0 then
    bX10_actsOnMap_38 E a0 a1 v7 v15 a0 (-1 : Int32) w14
  else
  (hp_gr w14 a0 11 4).bind fun v18 =>
  (hp_ldi w14 v18 v7).bind fun v20 =>
  bX10_actsOnMap_38 E a0 a1 v7 v15 a0 v20 w14
set_option maxRecDepth 20000 in
set_option maxHeartbeats 4000000 in
theorem rX10_actsOnMap_0 {X : ah_X} {d : Nat} (hd : 1 ≤ d) {a0 : Option Nat} {a1 : Int32} {h : ah_H} {r : Int32} {h2 : ah_H} (hf : bX10_actsOnMap_0 X.2.2.2 a0 a1 h = some (r, h2)) : Rt X yX10_actsOnMap cX10_actsOnMap 6 (d + 1) 0 [(0, va_rf a0), (1, .int a1)] [] h (some (.int r)) h2 := by
  unfold bX10_actsOnMap_0 at hf
  refine rt_aload_n (pc := 0) (k0 := 0) (x := a0) 0 rfl dX10_actsOnMap_0 ?_
  refine rt_aload_n (pc := 1) (k0 := 0) (x := a0) 0 rfl dX10_actsOnMap_1 ?_
  obtain ⟨v1, e2, hf⟩ := ob1 hf
  refine rt_gr (pc := 2) fd_X10_66 dX10_actsOnMap_2 e2 ?_
  refine rt_iload_n (pc := 5) (k0 := 1) (x := a1) 1 rfl dX10_actsOnMap_5 ?_
  obtain ⟨v3, e4, hf⟩ := ob1 hf
  refine rt_lald (pc := 6) dX10_actsOnMap_6 e4 ?_
  obtain ⟨v7, w6, e5, hf⟩ := ob2_of hf
  have g8 := sX10_place d (by omega) e5
  refine rt_callV (pc := 7) (As := [.long v3]) (st := []) me_X10_place mi_X10_place wl_X10_72 dX10_actsOnMap_7 rfl (by decide) rfl g8.1 g8.2 ?_
  refine rt_istore_n (pc := 10) (k0 := 2) (x := v7) (l2 := [(2, .int v7), (0, va_rf a0), (1, .int a1)]) (by decide) (by first | rfl | (simp [rt_cat, cat_i, cat_l]; done) | (simp [rt_cat, cat_i, cat_l]; decide)) dX10_actsOnMap_10 ?_
  refine rt_aload_n (pc := 11) (k0 := 0) (x := a0) 1 rfl dX10_actsOnMap_11 ?_
  refine rt_iload_n (pc := 12) (k0 := 2) (x := v7) 0 rfl dX10_actsOnMap_12 ?_
  refine rt_aload_n (pc := 13) (k0 := 0) (x := a0) 1 rfl dX10_actsOnMap_13 ?_
  obtain ⟨v9, e10, hf⟩ := ob1 hf
  refine rt_gr (pc := 14) fd_X10_66 dX10_actsOnMap_14 e10 ?_
  refine rt_iload_n (pc := 17) (k0 := 1) (x := a1) 2 rfl dX10_actsOnMap_17 ?_
  obtain ⟨v11, e12, hf⟩ := ob1 hf
  refine rt_lald (pc := 18) dX10_actsOnMap_18 e12 ?_
  obtain ⟨v15, w14, e13, hf⟩ := ob2_of hf
  have g16 := sX10_isAt d (by omega) e13
  refine rt_callV (pc := 19) (As := [.int v7, .long v11]) (st := []) me_X10_isAt mi_X10_isAt wl_X10_76 dX10_actsOnMap_19 rfl (by decide) rfl g16.1 g16.2 ?_
  refine rt_istore_n (pc := 22) (k0 := 3) (x := v15) (l2 := [(3, .int v15), (2, .int v7), (0, va_rf a0), (1, .int a1)]) (by decide) (by first | rfl | (simp [rt_cat, cat_i, cat_l]; done) | (simp [rt_cat, cat_i, cat_l]; decide)) dX10_actsOnMap_22 ?_
  refine rt_aload_n (pc := 23) (k0 := 0) (x := a0) 2 rfl dX10_actsOnMap_23 ?_
  refine rt_iload_n (pc := 24) (k0 := 3) (x := v15) 0 rfl dX10_actsOnMap_24 ?_
  by_cases c17 : v15 = 0
  · rw [if_pos c17] at hf
    refine rt_if_eq_p (pc := 25) (x := v15) (tgt := 37) (by decide) dX10_actsOnMap_25 c17 ?_
    refine rt_iconst (pc := 37) (n := -1) (v := (-1 : Int32)) (by decide) dX10_actsOnMap_37 ?_
    exact rt_locals (rt_sub [2, 3, 1, 0] rfl) (rX10_actsOnMap_38 hd hf)
  rw [if_neg c17] at hf
  refine rt_if_eq_n (pc := 25) (x := v15) (tgt := 37) (by decide) dX10_actsOnMap_25 c17 ?_
  refine rt_aload_n (pc := 28) (k0 := 0) (x := a0) 2 rfl dX10_actsOnMap_28 ?_
  obtain ⟨v18, e19, hf⟩ := ob1 hf
  refine rt_gr (pc := 29) fd_X10_27 dX10_actsOnMap_29 e19 ?_
  refine rt_iload_n (pc := 32) (k0 := 2) (x := v7) 1 rfl dX10_actsOnMap_32 ?_
  obtain ⟨v20, e21, hf⟩ := ob1 hf
  refine rt_iald (pc := 33) dX10_actsOnMap_33 e21 ?_
  refine rt_goto (pc := 34) (tgt := 38) (by decide) dX10_actsOnMap_34 ?_
  exact rt_locals (rt_sub [2, 3, 1, 0] rfl) (rX10_actsOnMap_38 hd hf)
noncomputable def fX10_actsOnMap (E : ah_E) (a0 : Option Nat) (a1 : Int32) (h : ah_H) : Option (Int32 × ah_H) := if hp_rcv h a0 11 = false then none else zb (bX10_actsOnMap_0 E a0 a1 h)
set_option maxRecDepth 20000 in
set_option maxHeartbeats 4000000 in
theorem sX10_actsOnMap {X : ah_X} (d : Nat) (hd : 2 ≤ d) {a0 : Option Nat} {a1 : Int32} {h : ah_H} {r : Int32} {h2 : ah_H} (hf : fX10_actsOnMap X.2.2.2 a0 a1 h = some (r, h2)) : hp_rcv h a0 11 = true ∧ Rn X yX10_actsOnMap cX10_actsOnMap 6 (some .boolean) d [va_rf a0, .int a1] h (some (.int r)) h2 := by
  unfold fX10_actsOnMap at hf
  by_cases c0 : hp_rcv h a0 11 = false
  · rw [if_pos c0] at hf; cases hf
  rw [if_neg c0] at hf
  refine ⟨(Bool.not_eq_false _).mp c0, ?_⟩
  obtain ⟨hf, hz⟩ := zb_of hf
  obtain ⟨d, rfl⟩ : ∃ k, d = k + 1 := ⟨d - 1, by omega⟩
  exact Rn.of2 me_X10_actsOnMap (by simp [lg_sl, rt_cat, cat_i, cat_l]) (ok_z hz) (l := [(0, va_rf a0), (1, .int a1)]) (by simp [lv_args, rt_cat, cat_i, cat_l]) (rX10_actsOnMap_0 (by omega) hf)
noncomputable def bX10_below_45 (E : ah_E) (a4 : Int32) (h : ah_H) : Option (Int32 × ah_H) :=
  some (a4, h)
set_option maxRecDepth 20000 in
set_option maxHeartbeats 4000000 in
theorem rX10_below_45 {X : ah_X} {d : Nat} {a4 : Int32} {h : ah_H} {r : Int32} {h2 : ah_H} (hf : bX10_below_45 X.2.2.2 a4 h = some (r, h2)) : Rt X yX10_below cX10_below 6 d 45 [(4, .int a4)] [] h (some (.int r)) h2 := by
  unfold bX10_below_45 at hf
  refine rt_iload (pc := 45) (i := 4) (x := a4) 0 rfl dX10_below_45 ?_
  cases hf
  exact rt_ret (pc := 47) dX10_below_47 rfl
noncomputable def bX10_below_11 (E : ah_E) : Nat → Option Nat → Int64 → Int32 → Int32 → ah_H → Option (Int32 × ah_H)
  | 0 => fun _ _ _ _ _ => none
  | n + 1 => fun a0 a2 a4 a5 h =>
  if a5 = (-1 : Int32) then
    bX10_below_45 E a4 h
  else
  (hp_gr h a0 11 31).bind fun v2 =>
  (hp_ldl h v2 a5).bind fun v4 =>
  if a2 ≤ v4 then
    bX10_below_45 E a4 h
  else
  (hp_gr h a0 11 34).bind fun v7 =>
  (hp_ldi h v7 a5).bind fun v9 =>
  bX10_below_11 E n a0 a2 a5 v9 h
set_option maxRecDepth 20000 in
set_option maxHeartbeats 4000000 in
theorem rX10_below_11 {X : ah_X} {d : Nat} (n : Nat) : ∀ (a0 : Option Nat) (a2 : Int64) (a4 : Int32) (a5 : Int32) (h : ah_H) (r : Int32) (h2 : ah_H), bX10_below_11 X.2.2.2 n a0 a2 a4 a5 h = some (r, h2) → Rt X yX10_below cX10_below 6 d 11 [(0, va_rf a0), (2, .long a2), (4, .int a4), (5, .int a5)] [] h (some (.int r)) h2 := by
  induction n with
  | zero => intro a0 a2 a4 a5 h r h2 hf; cases hf
  | succ n ih =>
  intro a0 a2 a4 a5 h r h2 hf
  unfold bX10_below_11 at hf
  refine rt_iload (pc := 11) (i := 5) (x := a5) 3 rfl dX10_below_11 ?_
  refine rt_iconst (pc := 13) (n := -1) (v := (-1 : Int32)) (by decide) dX10_below_13 ?_
  by_cases c1 : a5 = (-1 : Int32)
  · rw [if_pos c1] at hf
    refine rt_icmp_eq_p (pc := 14) (x := a5) (z := (-1 : Int32)) (tgt := 45) (by decide) dX10_below_14 c1 ?_
    exact rt_locals (rt_sub [2] rfl) (rX10_below_45 hf)
  rw [if_neg c1] at hf
  refine rt_icmp_eq_n (pc := 14) (x := a5) (z := (-1 : Int32)) (tgt := 45) (by decide) dX10_below_14 c1 ?_
  refine rt_aload_n (pc := 17) (k0 := 0) (x := a0) 0 rfl dX10_below_17 ?_
  obtain ⟨v2, e3, hf⟩ := ob1 hf
  refine rt_gr (pc := 18) fd_X10_154 dX10_below_18 e3 ?_
  refine rt_iload (pc := 21) (i := 5) (x := a5) 3 rfl dX10_below_21 ?_
  obtain ⟨v4, e5, hf⟩ := ob1 hf
  refine rt_lald (pc := 23) dX10_below_23 e5 ?_
  refine rt_lload_n (pc := 24) (k0 := 2) (x := a2) 1 rfl dX10_below_24 ?_
  by_cases c6 : a2 ≤ v4
  · rw [if_pos c6] at hf
    refine rt_lif_ge_p (pc := 25) (x := v4) (z := a2) (tgt := 45) (by decide) dX10_below_25 dX10_below_26 c6 ?_
    exact rt_locals (rt_sub [2] rfl) (rX10_below_45 hf)
  rw [if_neg c6] at hf
  refine rt_lif_ge_n (pc := 25) (x := v4) (z := a2) (tgt := 45) (by decide) dX10_below_25 dX10_below_26 c6 ?_
  refine rt_iload (pc := 29) (i := 5) (x := a5) 3 rfl dX10_below_29 ?_
  refine rt_istore (pc := 31) (i := 4) (x := a5) (l2 := [(4, .int a5), (0, va_rf a0), (2, .long a2), (5, .int a5)]) (by decide) (by first | rfl | (simp [rt_cat, cat_i, cat_l]; done) | (simp [rt_cat, cat_i, cat_l]; decide)) dX10_below_31 ?_
  refine rt_aload_n (pc := 33) (k0 := 0) (x := a0) 1 rfl dX10_below_33 ?_
  obtain ⟨v7, e8, hf⟩ := ob1 hf
  refine rt_gr (pc := 34) fd_X10_164 dX10_below_34 e8 ?_
  refine rt_iload (pc := 37) (i := 5) (x := a5) 3 rfl dX10_below_37 ?_
  obtain ⟨v9, e10, hf⟩ := ob1 hf
  refine rt_iald (pc := 39) dX10_below_39 e10 ?_
  refine rt_istore (pc := 40) (i := 5) (x := v9) (l2 := [(5, .int v9), (4, .int a5), (0, va_rf a0), (2, .long a2)]) (by decide) (by first | rfl | (simp [rt_cat, cat_i, cat_l]; done) | (simp [rt_cat, cat_i, cat_l]; decide)) dX10_below_40 ?_
  refine rt_goto (pc := 42) (tgt := 11) (by decide) dX10_below_42 ?_
  exact rt_locals (rt_sub [2, 3, 1, 0] rfl) (ih _ _ _ _ _ _ _ hf)
noncomputable def bX10_below_0 (E : ah_E) (a0 : Option Nat) (a1 : Int32) (a2 : Int64) (h : ah_H) : Option (Int32 × ah_H) :=
  (hp_gr h a0 11 19).bind fun v1 =>
  (hp_ldi h v1 a1).bind fun v3 =>
  bX10_below_11 E zf a0 a2 (-1 : Int32) v3 h
set_option maxRecDepth 20000 in
set_option maxHeartbeats 4000000 in
theorem rX10_below_0 {X : ah_X} {d : Nat} {a0 : Option Nat} {a1 : Int32} {a2 : Int64} {h : ah_H} {r : Int32} {h2 : ah_H} (hf : bX10_below_0 X.2.2.2 a0 a1 a2 h = some (r, h2)) : Rt X yX10_below cX10_below 6 d 0 [(0, va_rf a0), (1, .int a1), (2, .long a2)] [] h (some (.int r)) h2 := by
  unfold bX10_below_0 at hf
  refine rt_iconst (pc := 0) (n := -1) (v := (-1 : Int32)) (by decide) dX10_below_0 ?_
  refine rt_istore (pc := 1) (i := 4) (x := (-1 : Int32)) (l2 := [(4, .int (-1 : Int32)), (0, va_rf a0), (1, .int a1), (2, .long a2)]) (by decide) (by first | rfl | (simp [rt_cat, cat_i, cat_l]; done) | (simp [rt_cat, cat_i, cat_l]; decide)) dX10_below_1 ?_
  refine rt_aload_n (pc := 3) (k0 := 0) (x := a0) 1 rfl dX10_below_3 ?_
  obtain ⟨v1, e2, hf⟩ := ob1 hf
  refine rt_gr (pc := 4) fd_X10_123 dX10_below_4 e2 ?_
  refine rt_iload_n (pc := 7) (k0 := 1) (x := a1) 2 rfl dX10_below_7 ?_
  obtain ⟨v3, e4, hf⟩ := ob1 hf
  refine rt_iald (pc := 8) dX10_below_8 e4 ?_
  refine rt_istore (pc := 9) (i := 5) (x := v3) (l2 := [(5, .int v3), (4, .int (-1 : Int32)), (0, va_rf a0), (1, .int a1), (2, .long a2)]) (by decide) (by first | rfl | (simp [rt_cat, cat_i, cat_l]; done) | (simp [rt_cat, cat_i, cat_l]; decide)) dX10_below_9 ?_
  exact rt_locals (rt_sub [2, 4, 1, 0] rfl) (rX10_below_11 zf _ _ _ _ _ _ _ hf)
noncomputable def fX10_below (E : ah_E) (a0 : Option Nat) (a1 : Int32) (a2 : Int64) (h : ah_H) : Option (Int32 × ah_H) := if hp_rcv h a0 11 = false then none else bX10_below_0 E a0 a1 a2 h
set_option maxRecDepth 20000 in
set_option maxHeartbeats 4000000 in
theorem sX10_below {X : ah_X} (d : Nat) (hd : 0 ≤ d) {a0 : Option Nat} {a1 : Int32} {a2 : Int64} {h : ah_H} {r : Int32} {h2 : ah_H} (hf : fX10_below X.2.2.2 a0 a1 a2 h = some (r, h2)) : hp_rcv h a0 11 = true ∧ Rn X yX10_below cX10_below 6 (some .int) d [va_rf a0, .int a1, .long a2] h (some (.int r)) h2 := by
  unfold fX10_below at hf
  by_cases c0 : hp_rcv h a0 11 = false
  · rw [if_pos c0] at hf; cases hf
  rw [if_neg c0] at hf
  refine ⟨(Bool.not_eq_false _).mp c0, ?_⟩
  exact Rn.of2 me_X10_below (by simp [lg_sl, rt_cat, cat_i, cat_l]) (ok_i _) (l := [(0, va_rf a0), (1, .int a1), (2, .long a2)]) (by simp [lv_args, rt_cat, cat_i, cat_l]) (rX10_below_0 hf)
noncomputable def bX10_entry_75 (E : ah_E) (a0 : Option Nat) (a1 : Int32) (a5 : Int32) (h : ah_H) : Option (Int32 × ah_H) :=
  (hp_gr h a0 11 20).bind fun v1 =>
  (hp_ldi h v1 a1).bind fun v3 =>
  (hp_sti h v1 a1 (v3 + (1 : Int32))).bind fun w5 =>
  some (a5, w5)
set_option maxRecDepth 20000 in
set_option maxHeartbeats 4000000 in
theorem rX10_entry_75 {X : ah_X} {d : Nat} {a0 : Option Nat} {a1 : Int32} {a5 : Int32} {h : ah_H} {r : Int32} {h2 : ah_H} (hf : bX10_entry_75 X.2.2.2 a0 a1 a5 h = some (r, h2)) : Rt X yX10_entry cX10_entry 6 d 75 [(0, va_rf a0), (1, .int a1), (5, .int a5)] [] h (some (.int r)) h2 := by
  unfold bX10_entry_75 at hf
  refine rt_aload_n (pc := 75) (k0 := 0) (x := a0) 0 rfl dX10_entry_75 ?_
  obtain ⟨v1, e2, hf⟩ := ob1 hf
  refine rt_gr (pc := 76) fd_X10_126 dX10_entry_76 e2 ?_
  refine rt_iload_n (pc := 79) (k0 := 1) (x := a1) 1 rfl dX10_entry_79 ?_
  refine rt_dup2 (pc := 80) rfl (rt_cat _) dX10_entry_80 ?_
  obtain ⟨v3, e4, hf⟩ := ob1 hf
  refine rt_iald (pc := 81) dX10_entry_81 e4 ?_
  refine rt_iconst (pc := 82) (n := 1) (v := (1 : Int32)) (by decide) dX10_entry_82 ?_
  refine rt_iadd (pc := 83) (x := v3) (z := (1 : Int32)) dX10_entry_83 ?_
  obtain ⟨w5, e6, hf⟩ := ob1 hf
  refine rt_iast (pc := 84) dX10_entry_84 e6 ?_
  refine rt_iload (pc := 85) (i := 5) (x := a5) 2 rfl dX10_entry_85 ?_
  cases hf
  exact rt_ret (pc := 87) dX10_entry_87 rfl
noncomputable def bX10_entry_0 (E : ah_E) (a0 : Option Nat) (a1 : Int32) (a2 : Int32) (a3 : Int64) (h : ah_H) : Option (Int32 × ah_H) :=
  (hp_gi h a0 11 35).bind fun v1 =>
  (hp_gr h a0 11 34).bind fun v3 =>
  (hp_ldi h v3 v1).bind fun v5 =>
  (hp_pv h a0 11 35 (.int v5)).bind fun w7 =>
  (hp_gr w7 a0 11 31).bind fun v9 =>
  (hp_stl w7 v9 v1 a3).bind fun w11 =>
  if a2 = (-1 : Int32) then
    (hp_gr w11 a0 11 34).bind fun v14 =>
    (hp_gr w11 a0 11 19).bind fun v16 =>
    (hp_ldi w11 v16 a1).bind fun v18 =>
    (hp_sti w11 v14 v1 v18).bind fun w20 =>
    (hp_gr w20 a0 11 19).bind fun v22 =>
    (hp_sti w20 v22 a1 v1).bind fun w24 =>
    bX10_entry_75 E a0 a1 v1 w24
  else
  (hp_gr w11 a0 11 34).bind fun v26 =>
  (hp_gr w11 a0 11 34).bind fun v28 =>
  (hp_ldi w11 v28 a2).bind fun v30 =>
  (hp_sti w11 v26 v1 v30).bind fun w32 =>
  (hp_gr w32 a0 11 34).bind fun v34 =>
  (hp_sti w32 v34 a2 v1).bind fun w36 =>
  bX10_entry_75 E a0 a1 v1 w36
set_option maxRecDepth 20000 in
set_option maxHeartbeats 4000000 in
theorem rX10_entry_0 {X : ah_X} {d : Nat} {a0 : Option Nat} {a1 : Int32} {a2 : Int32} {a3 : Int64} {h : ah_H} {r : Int32} {h2 : ah_H} (hf : bX10_entry_0 X.2.2.2 a0 a1 a2 a3 h = some (r, h2)) : Rt X yX10_entry cX10_entry 6 d 0 [(0, va_rf a0), (1, .int a1), (2, .int a2), (3, .long a3)] [] h (some (.int r)) h2 := by
  unfold bX10_entry_0 at hf
  refine rt_aload_n (pc := 0) (k0 := 0) (x := a0) 0 rfl dX10_entry_0 ?_
  obtain ⟨v1, e2, hf⟩ := ob1 hf
  refine rt_gi (pc := 1) fd_X10_283 dX10_entry_1 e2 ?_
  refine rt_istore (pc := 4) (i := 5) (x := v1) (l2 := [(5, .int v1), (0, va_rf a0), (1, .int a1), (2, .int a2), (3, .long a3)]) (by decide) (by first | rfl | (simp [rt_cat, cat_i, cat_l]; done) | (simp [rt_cat, cat_i, cat_l]; decide)) dX10_entry_4 ?_
  refine rt_aload_n (pc := 6) (k0 := 0) (x := a0) 1 rfl dX10_entry_6 ?_
  refine rt_aload_n (pc := 7) (k0 := 0) (x := a0) 1 rfl dX10_entry_7 ?_
  obtain ⟨v3, e4, hf⟩ := ob1 hf
  refine rt_gr (pc := 8) fd_X10_164 dX10_entry_8 e4 ?_
  refine rt_iload (pc := 11) (i := 5) (x := v1) 0 rfl dX10_entry_11 ?_
  obtain ⟨v5, e6, hf⟩ := ob1 hf
  refine rt_iald (pc := 13) dX10_entry_13 e6 ?_
  obtain ⟨w7, e8, hf⟩ := ob1 hf
  refine rt_putf (pc := 14) (x := a0) fw_X10_283 (Or.inl rfl) (pf_i _).1 (pf_i _).2 dX10_entry_14 e8 ?_
  refine rt_aload_n (pc := 17) (k0 := 0) (x := a0) 1 rfl dX10_entry_17 ?_
  obtain ⟨v9, e10, hf⟩ := ob1 hf
  refine rt_gr (pc := 18) fd_X10_154 dX10_entry_18 e10 ?_
  refine rt_iload (pc := 21) (i := 5) (x := v1) 0 rfl dX10_entry_21 ?_
  refine rt_lload_n (pc := 23) (k0 := 3) (x := a3) 4 rfl dX10_entry_23 ?_
  obtain ⟨w11, e12, hf⟩ := ob1 hf
  refine rt_last (pc := 24) dX10_entry_24 e12 ?_
  refine rt_iload_n (pc := 25) (k0 := 2) (x := a2) 3 rfl dX10_entry_25 ?_
  refine rt_iconst (pc := 26) (n := -1) (v := (-1 : Int32)) (by decide) dX10_entry_26 ?_
  by_cases c13 : a2 = (-1 : Int32)
  · rw [if_pos c13] at hf
    refine rt_icmp_ne_p (pc := 27) (x := a2) (z := (-1 : Int32)) (tgt := 54) (by decide) dX10_entry_27 c13 ?_
    refine rt_aload_n (pc := 30) (k0 := 0) (x := a0) 1 rfl dX10_entry_30 ?_
    obtain ⟨v14, e15, hf⟩ := ob1 hf
    refine rt_gr (pc := 31) fd_X10_164 dX10_entry_31 e15 ?_
    refine rt_iload (pc := 34) (i := 5) (x := v1) 0 rfl dX10_entry_34 ?_
    refine rt_aload_n (pc := 36) (k0 := 0) (x := a0) 1 rfl dX10_entry_36 ?_
    obtain ⟨v16, e17, hf⟩ := ob1 hf
    refine rt_gr (pc := 37) fd_X10_123 dX10_entry_37 e17 ?_
    refine rt_iload_n (pc := 40) (k0 := 1) (x := a1) 2 rfl dX10_entry_40 ?_
    obtain ⟨v18, e19, hf⟩ := ob1 hf
    refine rt_iald (pc := 41) dX10_entry_41 e19 ?_
    obtain ⟨w20, e21, hf⟩ := ob1 hf
    refine rt_iast (pc := 42) dX10_entry_42 e21 ?_
    refine rt_aload_n (pc := 43) (k0 := 0) (x := a0) 1 rfl dX10_entry_43 ?_
    obtain ⟨v22, e23, hf⟩ := ob1 hf
    refine rt_gr (pc := 44) fd_X10_123 dX10_entry_44 e23 ?_
    refine rt_iload_n (pc := 47) (k0 := 1) (x := a1) 2 rfl dX10_entry_47 ?_
    refine rt_iload (pc := 48) (i := 5) (x := v1) 0 rfl dX10_entry_48 ?_
    obtain ⟨w24, e25, hf⟩ := ob1 hf
    refine rt_iast (pc := 50) dX10_entry_50 e25 ?_
    refine rt_goto (pc := 51) (tgt := 75) (by decide) dX10_entry_51 ?_
    exact rt_locals (rt_sub [1, 2, 0] rfl) (rX10_entry_75 hf)
  rw [if_neg c13] at hf
  refine rt_icmp_ne_n (pc := 27) (x := a2) (z := (-1 : Int32)) (tgt := 54) (by decide) dX10_entry_27 c13 ?_
  refine rt_aload_n (pc := 54) (k0 := 0) (x := a0) 1 rfl dX10_entry_54 ?_
  obtain ⟨v26, e27, hf⟩ := ob1 hf
  refine rt_gr (pc := 55) fd_X10_164 dX10_entry_55 e27 ?_
  refine rt_iload (pc := 58) (i := 5) (x := v1) 0 rfl dX10_entry_58 ?_
  refine rt_aload_n (pc := 60) (k0 := 0) (x := a0) 1 rfl dX10_entry_60 ?_
  obtain ⟨v28, e29, hf⟩ := ob1 hf
  refine rt_gr (pc := 61) fd_X10_164 dX10_entry_61 e29 ?_
  refine rt_iload_n (pc := 64) (k0 := 2) (x := a2) 3 rfl dX10_entry_64 ?_
  obtain ⟨v30, e31, hf⟩ := ob1 hf
  refine rt_iald (pc := 65) dX10_entry_65 e31 ?_
  obtain ⟨w32, e33, hf⟩ := ob1 hf
  refine rt_iast (pc := 66) dX10_entry_66 e33 ?_
  refine rt_aload_n (pc := 67) (k0 := 0) (x := a0) 1 rfl dX10_entry_67 ?_
  obtain ⟨v34, e35, hf⟩ := ob1 hf
  refine rt_gr (pc := 68) fd_X10_164 dX10_entry_68 e35 ?_
  refine rt_iload_n (pc := 71) (k0 := 2) (x := a2) 3 rfl dX10_entry_71 ?_
  refine rt_iload (pc := 72) (i := 5) (x := v1) 0 rfl dX10_entry_72 ?_
  obtain ⟨w36, e37, hf⟩ := ob1 hf
  refine rt_iast (pc := 74) dX10_entry_74 e37 ?_
  exact rt_locals (rt_sub [1, 2, 0] rfl) (rX10_entry_75 hf)
noncomputable def fX10_entry (E : ah_E) (a0 : Option Nat) (a1 : Int32) (a2 : Int32) (a3 : Int64) (h : ah_H) : Option (Int32 × ah_H) := if hp_rcv h a0 11 = false then none else bX10_entry_0 E a0 a1 a2 a3 h
set_option maxRecDepth 20000 in
set_option maxHeartbeats 4000000 in
theorem sX10_entry {X : ah_X} (d : Nat) (hd : 0 ≤ d) {a0 : Option Nat} {a1 : Int32} {a2 : Int32} {a3 : Int64} {h : ah_H} {r : Int32} {h2 : ah_H} (hf : fX10_entry X.2.2.2 a0 a1 a2 a3 h = some (r, h2)) : hp_rcv h a0 11 = true ∧ Rn X yX10_entry cX10_entry 6 (some .int) d [va_rf a0, .int a1, .int a2, .long a3] h (some (.int r)) h2 := by
  unfold fX10_entry at hf
  by_cases c0 : hp_rcv h a0 11 = false
  · rw [if_pos c0] at hf; cases hf
  rw [if_neg c0] at hf
  refine ⟨(Bool.not_eq_false _).mp c0, ?_⟩
  exact Rn.of2 me_X10_entry (by simp [lg_sl, rt_cat, cat_i, cat_l]) (ok_i _) (l := [(0, va_rf a0), (1, .int a1), (2, .int a2), (3, .long a3)]) (by simp [lv_args, rt_cat, cat_i, cat_l]) (rX10_entry_0 hf)
noncomputable def bX10_leave_53 (E : ah_E) (a0 : Option Nat) (a1 : Int32) (a3 : Int32) (h : ah_H) : Option ah_H :=
  (hp_gr h a0 11 20).bind fun v1 =>
  (hp_ldi h v1 a1).bind fun v3 =>
  (hp_sti h v1 a1 (v3 - (1 : Int32))).bind fun w5 =>
  (hp_gr w5 a0 11 34).bind fun v7 =>
  (hp_gi w5 a0 11 35).bind fun v9 =>
  (hp_sti w5 v7 a3 v9).bind fun w11 =>
  (hp_pv w11 a0 11 35 (.int a3)).bind fun w13 =>
  some w13
set_option maxRecDepth 20000 in
set_option maxHeartbeats 4000000 in
theorem rX10_leave_53 {X : ah_X} {d : Nat} {a0 : Option Nat} {a1 : Int32} {a3 : Int32} {h : ah_H} {h2 : ah_H} (hf : bX10_leave_53 X.2.2.2 a0 a1 a3 h = some h2) : Rt X yX10_leave cX10_leave 4 d 53 [(0, va_rf a0), (1, .int a1), (3, .int a3)] [] h none h2 := by
  unfold bX10_leave_53 at hf
  refine rt_aload_n (pc := 53) (k0 := 0) (x := a0) 0 rfl dX10_leave_53 ?_
  obtain ⟨v1, e2, hf⟩ := ob1 hf
  refine rt_gr (pc := 54) fd_X10_126 dX10_leave_54 e2 ?_
  refine rt_iload_n (pc := 57) (k0 := 1) (x := a1) 1 rfl dX10_leave_57 ?_
  refine rt_dup2 (pc := 58) rfl (rt_cat _) dX10_leave_58 ?_
  obtain ⟨v3, e4, hf⟩ := ob1 hf
  refine rt_iald (pc := 59) dX10_leave_59 e4 ?_
  refine rt_iconst (pc := 60) (n := 1) (v := (1 : Int32)) (by decide) dX10_leave_60 ?_
  refine rt_isub (pc := 61) (x := v3) (z := (1 : Int32)) dX10_leave_61 ?_
  obtain ⟨w5, e6, hf⟩ := ob1 hf
  refine rt_iast (pc := 62) dX10_leave_62 e6 ?_
  refine rt_aload_n (pc := 63) (k0 := 0) (x := a0) 0 rfl dX10_leave_63 ?_
  obtain ⟨v7, e8, hf⟩ := ob1 hf
  refine rt_gr (pc := 64) fd_X10_164 dX10_leave_64 e8 ?_
  refine rt_iload_n (pc := 67) (k0 := 3) (x := a3) 2 rfl dX10_leave_67 ?_
  refine rt_aload_n (pc := 68) (k0 := 0) (x := a0) 0 rfl dX10_leave_68 ?_
  obtain ⟨v9, e10, hf⟩ := ob1 hf
  refine rt_gi (pc := 69) fd_X10_283 dX10_leave_69 e10 ?_
  obtain ⟨w11, e12, hf⟩ := ob1 hf
  refine rt_iast (pc := 72) dX10_leave_72 e12 ?_
  refine rt_aload_n (pc := 73) (k0 := 0) (x := a0) 0 rfl dX10_leave_73 ?_
  refine rt_iload_n (pc := 74) (k0 := 3) (x := a3) 2 rfl dX10_leave_74 ?_
  obtain ⟨w13, e14, hf⟩ := ob1 hf
  refine rt_putf (pc := 75) (x := a0) fw_X10_283 (Or.inl rfl) (pf_i _).1 (pf_i _).2 dX10_leave_75 e14 ?_
  cases hf
  exact rt_ret (pc := 78) dX10_leave_78 rfl
noncomputable def bX10_leave_20 (E : ah_E) (a0 : Option Nat) (a1 : Int32) (a2 : Int32) (s0 : Int32) (h : ah_H) : Option ah_H :=
  if a2 = (-1 : Int32) then
    (hp_gr h a0 11 19).bind fun v2 =>
    (hp_gr h a0 11 34).bind fun v4 =>
    (hp_ldi h v4 s0).bind fun v6 =>
    (hp_sti h v2 a1 v6).bind fun w8 =>
    bX10_leave_53 E a0 a1 s0 w8
  else
  (hp_gr h a0 11 34).bind fun v10 =>
  (hp_gr h a0 11 34).bind fun v12 =>
  (hp_ldi h v12 s0).bind fun v14 =>
  (hp_sti h v10 a2 v14).bind fun w16 =>
  bX10_leave_53 E a0 a1 s0 w16
set_option maxRecDepth 20000 in
set_option maxHeartbeats 4000000 in
theorem rX10_leave_20 {X : ah_X} {d : Nat} {a0 : Option Nat} {a1 : Int32} {a2 : Int32} {s0 : Int32} {h : ah_H} {h2 : ah_H} (hf : bX10_leave_20 X.2.2.2 a0 a1 a2 s0 h = some h2) : Rt X yX10_leave cX10_leave 4 d 20 [(0, va_rf a0), (1, .int a1), (2, .int a2)] [.int s0] h none h2 := by
  unfold bX10_leave_20 at hf
  refine rt_istore_n (pc := 20) (k0 := 3) (x := s0) (l2 := [(3, .int s0), (0, va_rf a0), (1, .int a1), (2, .int a2)]) (by decide) (by first | rfl | (simp [rt_cat, cat_i, cat_l]; done) | (simp [rt_cat, cat_i, cat_l]; decide)) dX10_leave_20 ?_
  refine rt_iload_n (pc := 21) (k0 := 2) (x := a2) 3 rfl dX10_leave_21 ?_
  refine rt_iconst (pc := 22) (n := -1) (v := (-1 : Int32)) (by decide) dX10_leave_22 ?_
  by_cases c1 : a2 = (-1 : Int32)
  · rw [if_pos c1] at hf
    refine rt_icmp_ne_p (pc := 23) (x := a2) (z := (-1 : Int32)) (tgt := 41) (by decide) dX10_leave_23 c1 ?_
    refine rt_aload_n (pc := 26) (k0 := 0) (x := a0) 1 rfl dX10_leave_26 ?_
    obtain ⟨v2, e3, hf⟩ := ob1 hf
    refine rt_gr (pc := 27) fd_X10_123 dX10_leave_27 e3 ?_
    refine rt_iload_n (pc := 30) (k0 := 1) (x := a1) 2 rfl dX10_leave_30 ?_
    refine rt_aload_n (pc := 31) (k0 := 0) (x := a0) 1 rfl dX10_leave_31 ?_
    obtain ⟨v4, e5, hf⟩ := ob1 hf
    refine rt_gr (pc := 32) fd_X10_164 dX10_leave_32 e5 ?_
    refine rt_iload_n (pc := 35) (k0 := 3) (x := s0) 0 rfl dX10_leave_35 ?_
    obtain ⟨v6, e7, hf⟩ := ob1 hf
    refine rt_iald (pc := 36) dX10_leave_36 e7 ?_
    obtain ⟨w8, e9, hf⟩ := ob1 hf
    refine rt_iast (pc := 37) dX10_leave_37 e9 ?_
    refine rt_goto (pc := 38) (tgt := 53) (by decide) dX10_leave_38 ?_
    exact rt_locals (rt_sub [1, 2, 0] rfl) (rX10_leave_53 hf)
  rw [if_neg c1] at hf
  refine rt_icmp_ne_n (pc := 23) (x := a2) (z := (-1 : Int32)) (tgt := 41) (by decide) dX10_leave_23 c1 ?_
  refine rt_aload_n (pc := 41) (k0 := 0) (x := a0) 1 rfl dX10_leave_41 ?_
  obtain ⟨v10, e11, hf⟩ := ob1 hf
  refine rt_gr (pc := 42) fd_X10_164 dX10_leave_42 e11 ?_
  refine rt_iload_n (pc := 45) (k0 := 2) (x := a2) 3 rfl dX10_leave_45 ?_
  refine rt_aload_n (pc := 46) (k0 := 0) (x := a0) 1 rfl dX10_leave_46 ?_
  obtain ⟨v12, e13, hf⟩ := ob1 hf
  refine rt_gr (pc := 47) fd_X10_164 dX10_leave_47 e13 ?_
  refine rt_iload_n (pc := 50) (k0 := 3) (x := s0) 0 rfl dX10_leave_50 ?_
  obtain ⟨v14, e15, hf⟩ := ob1 hf
  refine rt_iald (pc := 51) dX10_leave_51 e15 ?_
  obtain ⟨w16, e17, hf⟩ := ob1 hf
  refine rt_iast (pc := 52) dX10_leave_52 e17 ?_
  exact rt_locals (rt_sub [1, 2, 0] rfl) (rX10_leave_53 hf)
noncomputable def bX10_leave_0 (E : ah_E) (a0 : Option Nat) (a1 : Int32) (a2 : Int32) (h : ah_H) : Option ah_H :=
  if a2 = (-1 : Int32) then
    (hp_gr h a0 11 19).bind fun v2 =>
    (hp_ldi h v2 a1).bind fun v4 =>
    bX10_leave_20 E a0 a1 a2 v4 h
  else
  (hp_gr h a0 11 34).bind fun v6 =>
  (hp_ldi h v6 a2).bind fun v8 =>
  bX10_leave_20 E a0 a1 a2 v8 h
set_option maxRecDepth 20000 in
set_option maxHeartbeats 4000000 in
theorem rX10_leave_0 {X : ah_X} {d : Nat} {a0 : Option Nat} {a1 : Int32} {a2 : Int32} {h : ah_H} {h2 : ah_H} (hf : bX10_leave_0 X.2.2.2 a0 a1 a2 h = some h2) : Rt X yX10_leave cX10_leave 4 d 0 [(0, va_rf a0), (1, .int a1), (2, .int a2)] [] h none h2 := by
  unfold bX10_leave_0 at hf
  refine rt_iload_n (pc := 0) (k0 := 2) (x := a2) 2 rfl dX10_leave_0 ?_
  refine rt_iconst (pc := 1) (n := -1) (v := (-1 : Int32)) (by decide) dX10_leave_1 ?_
  by_cases c1 : a2 = (-1 : Int32)
  · rw [if_pos c1] at hf
    refine rt_icmp_ne_p (pc := 2) (x := a2) (z := (-1 : Int32)) (tgt := 14) (by decide) dX10_leave_2 c1 ?_
    refine rt_aload_n (pc := 5) (k0 := 0) (x := a0) 0 rfl dX10_leave_5 ?_
    obtain ⟨v2, e3, hf⟩ := ob1 hf
    refine rt_gr (pc := 6) fd_X10_123 dX10_leave_6 e3 ?_
    refine rt_iload_n (pc := 9) (k0 := 1) (x := a1) 1 rfl dX10_leave_9 ?_
    obtain ⟨v4, e5, hf⟩ := ob1 hf
    refine rt_iald (pc := 10) dX10_leave_10 e5 ?_
    refine rt_goto (pc := 11) (tgt := 20) (by decide) dX10_leave_11 ?_
    exact rX10_leave_20 hf
  rw [if_neg c1] at hf
  refine rt_icmp_ne_n (pc := 2) (x := a2) (z := (-1 : Int32)) (tgt := 14) (by decide) dX10_leave_2 c1 ?_
  refine rt_aload_n (pc := 14) (k0 := 0) (x := a0) 0 rfl dX10_leave_14 ?_
  obtain ⟨v6, e7, hf⟩ := ob1 hf
  refine rt_gr (pc := 15) fd_X10_164 dX10_leave_15 e7 ?_
  refine rt_iload_n (pc := 18) (k0 := 2) (x := a2) 2 rfl dX10_leave_18 ?_
  obtain ⟨v8, e9, hf⟩ := ob1 hf
  refine rt_iald (pc := 19) dX10_leave_19 e9 ?_
  exact rX10_leave_20 hf
noncomputable def fX10_leave (E : ah_E) (a0 : Option Nat) (a1 : Int32) (a2 : Int32) (h : ah_H) : Option ah_H := if hp_rcv h a0 11 = false then none else bX10_leave_0 E a0 a1 a2 h
set_option maxRecDepth 20000 in
set_option maxHeartbeats 4000000 in
theorem sX10_leave {X : ah_X} (d : Nat) (hd : 0 ≤ d) {a0 : Option Nat} {a1 : Int32} {a2 : Int32} {h : ah_H} {h2 : ah_H} (hf : fX10_leave X.2.2.2 a0 a1 a2 h = some h2) : hp_rcv h a0 11 = true ∧ Rn X yX10_leave cX10_leave 4 none d [va_rf a0, .int a1, .int a2] h none h2 := by
  unfold fX10_leave at hf
  by_cases c0 : hp_rcv h a0 11 = false
  · rw [if_pos c0] at hf; cases hf
  rw [if_neg c0] at hf
  refine ⟨(Bool.not_eq_false _).mp c0, ?_⟩
  exact Rn.of2 me_X10_leave (by simp [lg_sl, rt_cat, cat_i, cat_l]) rfl (l := [(0, va_rf a0), (1, .int a1), (2, .int a2)]) (by simp [lv_args, rt_cat, cat_i, cat_l]) (rX10_leave_0 hf)
noncomputable def bX10_actOnLeaf_91 (E : ah_E) (h : ah_H) : Option ah_H :=
  some h
set_option maxRecDepth 20000 in
set_option maxHeartbeats 4000000 in
theorem rX10_actOnLeaf_91 {X : ah_X} {d : Nat} (hd : 1 ≤ d)  {h : ah_H} {h2 : ah_H} (hf : bX10_actOnLeaf_91 X.2.2.2  h = some h2) : Rt X yX10_actOnLeaf cX10_actOnLeaf 11 (d + 1) 91 [] [] h none h2 := by
  unfold bX10_actOnLeaf_91 at hf
  cases hf
  exact rt_ret (pc := 91) dX10_actOnLeaf_91 rfl
noncomputable def bX10_actOnLeaf_42 (E : ah_E) : Nat → Option Nat → Int32 → Int64 → Int32 → Int32 → ah_H → Option ah_H
  | 0 => fun _ _ _ _ _ _ => none
  | n + 1 => fun a0 a1 a5 a7 a8 h =>
  if a8 = (-1 : Int32) then
    bX10_actOnLeaf_91 E  h
  else
  (hp_gr h a0 11 31).bind fun v2 =>
  (hp_ldl h v2 a8).bind fun v4 =>
  if a5 < v4 then
    bX10_actOnLeaf_91 E  h
  else
  (hp_gr h a0 11 34).bind fun v7 =>
  (hp_ldi h v7 a8).bind fun v9 =>
  (fX10_leave E a0 a1 a7 h).bind fun w12 =>
  (hp_gr w12 a0 11 27).bind fun v14 =>
  (hp_sti w12 v14 a1 (-1 : Int32)).bind fun w16 =>
  bX10_actOnLeaf_42 E n a0 a1 a5 a7 v9 w16
set_option maxRecDepth 20000 in
set_option maxHeartbeats 4000000 in
theorem rX10_actOnLeaf_42 {X : ah_X} {d : Nat} (hd : 1 ≤ d) (n : Nat) : ∀ (a0 : Option Nat) (a1 : Int32) (a5 : Int64) (a7 : Int32) (a8 : Int32) (h : ah_H) (h2 : ah_H), bX10_actOnLeaf_42 X.2.2.2 n a0 a1 a5 a7 a8 h = some h2 → Rt X yX10_actOnLeaf cX10_actOnLeaf 11 (d + 1) 42 [(0, va_rf a0), (1, .int a1), (5, .long a5), (7, .int a7), (8, .int a8)] [] h none h2 := by
  induction n with
  | zero => intro a0 a1 a5 a7 a8 h h2 hf; cases hf
  | succ n ih =>
  intro a0 a1 a5 a7 a8 h h2 hf
  unfold bX10_actOnLeaf_42 at hf
  refine rt_iload (pc := 42) (i := 8) (x := a8) 4 rfl dX10_actOnLeaf_42 ?_
  refine rt_iconst (pc := 44) (n := -1) (v := (-1 : Int32)) (by decide) dX10_actOnLeaf_44 ?_
  by_cases c1 : a8 = (-1 : Int32)
  · rw [if_pos c1] at hf
    refine rt_icmp_eq_p (pc := 45) (x := a8) (z := (-1 : Int32)) (tgt := 91) (by decide) dX10_actOnLeaf_45 c1 ?_
    exact rt_locals (rt_sub [] rfl) (rX10_actOnLeaf_91 hd hf)
  rw [if_neg c1] at hf
  refine rt_icmp_eq_n (pc := 45) (x := a8) (z := (-1 : Int32)) (tgt := 91) (by decide) dX10_actOnLeaf_45 c1 ?_
  refine rt_aload_n (pc := 48) (k0 := 0) (x := a0) 0 rfl dX10_actOnLeaf_48 ?_
  obtain ⟨v2, e3, hf⟩ := ob1 hf
  refine rt_gr (pc := 49) fd_X10_154 dX10_actOnLeaf_49 e3 ?_
  refine rt_iload (pc := 52) (i := 8) (x := a8) 4 rfl dX10_actOnLeaf_52 ?_
  obtain ⟨v4, e5, hf⟩ := ob1 hf
  refine rt_lald (pc := 54) dX10_actOnLeaf_54 e5 ?_
  refine rt_lload (pc := 55) (i := 5) (x := a5) 2 rfl dX10_actOnLeaf_55 ?_
  by_cases c6 : a5 < v4
  · rw [if_pos c6] at hf
    refine rt_lif_gt_p (pc := 57) (x := v4) (z := a5) (tgt := 91) (by decide) dX10_actOnLeaf_57 dX10_actOnLeaf_58 c6 ?_
    exact rt_locals (rt_sub [] rfl) (rX10_actOnLeaf_91 hd hf)
  rw [if_neg c6] at hf
  refine rt_lif_gt_n (pc := 57) (x := v4) (z := a5) (tgt := 91) (by decide) dX10_actOnLeaf_57 dX10_actOnLeaf_58 c6 ?_
  refine rt_aload_n (pc := 61) (k0 := 0) (x := a0) 0 rfl dX10_actOnLeaf_61 ?_
  obtain ⟨v7, e8, hf⟩ := ob1 hf
  refine rt_gr (pc := 62) fd_X10_164 dX10_actOnLeaf_62 e8 ?_
  refine rt_iload (pc := 65) (i := 8) (x := a8) 4 rfl dX10_actOnLeaf_65 ?_
  obtain ⟨v9, e10, hf⟩ := ob1 hf
  refine rt_iald (pc := 67) dX10_actOnLeaf_67 e10 ?_
  refine rt_istore (pc := 68) (i := 9) (x := v9) (l2 := [(9, .int v9), (0, va_rf a0), (1, .int a1), (5, .long a5), (7, .int a7), (8, .int a8)]) (by decide) (by first | rfl | (simp [rt_cat, cat_i, cat_l]; done) | (simp [rt_cat, cat_i, cat_l]; decide)) dX10_actOnLeaf_68 ?_
  refine rt_aload_n (pc := 70) (k0 := 0) (x := a0) 1 rfl dX10_actOnLeaf_70 ?_
  refine rt_iload_n (pc := 71) (k0 := 1) (x := a1) 2 rfl dX10_actOnLeaf_71 ?_
  refine rt_iload (pc := 72) (i := 7) (x := a7) 4 rfl dX10_actOnLeaf_72 ?_
  obtain ⟨w12, e11, hf⟩ := ob1 hf
  have g13 := sX10_leave d (by omega) e11
  refine rt_callV (pc := 74) (As := [.int a1, .int a7]) (st := []) me_X10_leave mi_X10_leave wl_X10_296 dX10_actOnLeaf_74 rfl (by decide) rfl g13.1 g13.2 ?_
  refine rt_aload_n (pc := 77) (k0 := 0) (x := a0) 1 rfl dX10_actOnLeaf_77 ?_
  obtain ⟨v14, e15, hf⟩ := ob1 hf
  refine rt_gr (pc := 78) fd_X10_148 dX10_actOnLeaf_78 e15 ?_
  refine rt_iload_n (pc := 81) (k0 := 1) (x := a1) 2 rfl dX10_actOnLeaf_81 ?_
  refine rt_iconst (pc := 82) (n := -1) (v := (-1 : Int32)) (by decide) dX10_actOnLeaf_82 ?_
  obtain ⟨w16, e17, hf⟩ := ob1 hf
  refine rt_iast (pc := 83) dX10_actOnLeaf_83 e17 ?_
  refine rt_iload (pc := 84) (i := 9) (x := v9) 0 rfl dX10_actOnLeaf_84 ?_
  refine rt_istore (pc := 86) (i := 8) (x := v9) (l2 := [(8, .int v9), (9, .int v9), (0, va_rf a0), (1, .int a1), (5, .long a5), (7, .int a7)]) (by decide) (by first | rfl | (simp [rt_cat, cat_i, cat_l]; done) | (simp [rt_cat, cat_i, cat_l]; decide)) dX10_actOnLeaf_86 ?_
  refine rt_goto (pc := 88) (tgt := 42) (by decide) dX10_actOnLeaf_88 ?_
  exact rt_locals (rt_sub [2, 3, 4, 5, 0] rfl) (ih _ _ _ _ _ _ _ hf)
noncomputable def bX10_actOnLeaf_213 (E : ah_E) (h : ah_H) : Option ah_H :=
  some h
set_option maxRecDepth 20000 in
set_option maxHeartbeats 4000000 in
theorem rX10_actOnLeaf_213 {X : ah_X} {d : Nat} (hd : 1 ≤ d)  {h : ah_H} {h2 : ah_H} (hf : bX10_actOnLeaf_213 X.2.2.2  h = some h2) : Rt X yX10_actOnLeaf cX10_actOnLeaf 11 (d + 1) 213 [] [] h none h2 := by
  unfold bX10_actOnLeaf_213 at hf
  cases hf
  exact rt_ret (pc := 213) dX10_actOnLeaf_213 rfl
noncomputable def bX10_actOnLeaf_243 (E : ah_E) : Nat → Option Nat → Int32 → Int32 → ah_H → Option ah_H
  | 0 => fun _ _ _ _ => none
  | n + 1 => fun a0 a8 a10 h =>
  if (20 : Int32) ≤ a10 then
    some h
  else
  (hp_gr h a0 11 33).bind fun v2 =>
  (hp_gr h a0 11 16).bind fun v4 =>
  (hp_ldb h v4 a10).bind fun v6 =>
  (hp_stb h v2 (((20 : Int32) * a8) + a10) v6).bind fun w8 =>
  bX10_actOnLeaf_243 E n a0 a8 (a10 + 1) w8
set_option maxRecDepth 20000 in
set_option maxHeartbeats 4000000 in
theorem rX10_actOnLeaf_243 {X : ah_X} {d : Nat} (hd : 1 ≤ d) (n : Nat) : ∀ (a0 : Option Nat) (a8 : Int32) (a10 : Int32) (h : ah_H) (h2 : ah_H), bX10_actOnLeaf_243 X.2.2.2 n a0 a8 a10 h = some h2 → Rt X yX10_actOnLeaf cX10_actOnLeaf 11 (d + 1) 243 [(0, va_rf a0), (8, .int a8), (10, .int a10)] [] h none h2 := by
  induction n with
  | zero => intro a0 a8 a10 h h2 hf; cases hf
  | succ n ih =>
  intro a0 a8 a10 h h2 hf
  unfold bX10_actOnLeaf_243 at hf
  refine rt_iload (pc := 243) (i := 10) (x := a10) 2 rfl dX10_actOnLeaf_243 ?_
  refine rt_bipush (pc := 245) (n := 20) (v := (20 : Int32)) (by decide) dX10_actOnLeaf_245 ?_
  by_cases c1 : (20 : Int32) ≤ a10
  · rw [if_pos c1] at hf
    refine rt_icmp_ge_p (pc := 247) (x := a10) (z := (20 : Int32)) (tgt := 276) (by decide) dX10_actOnLeaf_247 c1 ?_
    cases hf
    exact rt_ret (pc := 276) dX10_actOnLeaf_276 rfl
  rw [if_neg c1] at hf
  refine rt_icmp_ge_n (pc := 247) (x := a10) (z := (20 : Int32)) (tgt := 276) (by decide) dX10_actOnLeaf_247 c1 ?_
  refine rt_aload_n (pc := 250) (k0 := 0) (x := a0) 0 rfl dX10_actOnLeaf_250 ?_
  obtain ⟨v2, e3, hf⟩ := ob1 hf
  refine rt_gr (pc := 251) fd_X10_161 dX10_actOnLeaf_251 e3 ?_
  refine rt_bipush (pc := 254) (n := 20) (v := (20 : Int32)) (by decide) dX10_actOnLeaf_254 ?_
  refine rt_iload (pc := 256) (i := 8) (x := a8) 1 rfl dX10_actOnLeaf_256 ?_
  refine rt_imul (pc := 258) (x := (20 : Int32)) (z := a8) dX10_actOnLeaf_258 ?_
  refine rt_iload (pc := 259) (i := 10) (x := a10) 2 rfl dX10_actOnLeaf_259 ?_
  refine rt_iadd (pc := 261) (x := ((20 : Int32) * a8)) (z := a10) dX10_actOnLeaf_261 ?_
  refine rt_aload_n (pc := 262) (k0 := 0) (x := a0) 0 rfl dX10_actOnLeaf_262 ?_
  obtain ⟨v4, e5, hf⟩ := ob1 hf
  refine rt_gr (pc := 263) fd_X10_40 dX10_actOnLeaf_263 e5 ?_
  refine rt_iload (pc := 266) (i := 10) (x := a10) 2 rfl dX10_actOnLeaf_266 ?_
  obtain ⟨v6, e7, hf⟩ := ob1 hf
  refine rt_bald (pc := 268) dX10_actOnLeaf_268 e7 ?_
  obtain ⟨w8, e9, hf⟩ := ob1 hf
  refine rt_bast (pc := 269) dX10_actOnLeaf_269 e9 ?_
  refine rt_iinc (pc := 270) (i := 10) (n := 1) (x := a10) (v := (a10 + 1)) (l2 := [(10, .int (a10 + 1)), (0, va_rf a0), (8, .int a8)]) 2 rfl rfl (by decide) (by first | rfl | (simp [rt_cat, cat_i, cat_l]; done) | (simp [rt_cat, cat_i, cat_l]; decide)) dX10_actOnLeaf_270 ?_
  refine rt_goto (pc := 273) (tgt := 243) (by decide) dX10_actOnLeaf_273 ?_
  exact rt_locals (rt_sub [1, 2, 0] rfl) (ih _ _ _ _ _ hf)
noncomputable def bX10_actOnLeaf_229 (E : ah_E) (a0 : Option Nat) (a8 : Int32) (h : ah_H) : Option ah_H :=
  (hp_gr h a0 11 32).bind fun v1 =>
  (hp_gi h a0 11 17).bind fun v3 =>
  (hp_sti h v1 a8 v3).bind fun w5 =>
  bX10_actOnLeaf_243 E zf a0 a8 (0 : Int32) w5
set_option maxRecDepth 20000 in
set_option maxHeartbeats 4000000 in
theorem rX10_actOnLeaf_229 {X : ah_X} {d : Nat} (hd : 1 ≤ d) {a0 : Option Nat} {a8 : Int32} {h : ah_H} {h2 : ah_H} (hf : bX10_actOnLeaf_229 X.2.2.2 a0 a8 h = some h2) : Rt X yX10_actOnLeaf cX10_actOnLeaf 11 (d + 1) 229 [(0, va_rf a0), (8, .int a8)] [] h none h2 := by
  unfold bX10_actOnLeaf_229 at hf
  refine rt_aload_n (pc := 229) (k0 := 0) (x := a0) 0 rfl dX10_actOnLeaf_229 ?_
  obtain ⟨v1, e2, hf⟩ := ob1 hf
  refine rt_gr (pc := 230) fd_X10_157 dX10_actOnLeaf_230 e2 ?_
  refine rt_iload (pc := 233) (i := 8) (x := a8) 1 rfl dX10_actOnLeaf_233 ?_
  refine rt_aload_n (pc := 235) (k0 := 0) (x := a0) 0 rfl dX10_actOnLeaf_235 ?_
  obtain ⟨v3, e4, hf⟩ := ob1 hf
  refine rt_gi (pc := 236) fd_X10_34 dX10_actOnLeaf_236 e4 ?_
  obtain ⟨w5, e6, hf⟩ := ob1 hf
  refine rt_iast (pc := 239) dX10_actOnLeaf_239 e6 ?_
  refine rt_iconst (pc := 240) (n := 0) (v := (0 : Int32)) (by decide) dX10_actOnLeaf_240 ?_
  refine rt_istore (pc := 241) (i := 10) (x := (0 : Int32)) (l2 := [(10, .int (0 : Int32)), (0, va_rf a0), (8, .int a8)]) (by decide) (by first | rfl | (simp [rt_cat, cat_i, cat_l]; done) | (simp [rt_cat, cat_i, cat_l]; decide)) dX10_actOnLeaf_241 ?_
  exact rt_locals (rt_sub [1, 2, 0] rfl) (rX10_actOnLeaf_243 hd zf _ _ _ _ _ hf)
noncomputable def bX10_actOnLeaf_193 (E : ah_E) (a0 : Option Nat) (a1 : Int32) (a3 : Int64) (a7 : Int32) (a8 : Int32) (a9 : Int32) (h : ah_H) : Option ah_H :=
  (hp_gi h a0 11 17).bind fun v1 =>
  if v1 = (-1 : Int32) then
    if a9 = 0 then
      bX10_actOnLeaf_213 E  h
    else
    (fX10_leave E a0 a1 a7 h).bind fun w6 =>
    bX10_actOnLeaf_213 E  w6
  else
  if a9 = 0 then
    ob2 (fX10_entry E a0 a1 a7 a3 h) fun v11 w10 =>
    bX10_actOnLeaf_229 E a0 v11 w10
  else
  bX10_actOnLeaf_229 E a0 a8 h
set_option maxRecDepth 20000 in
set_option maxHeartbeats 4000000 in
theorem rX10_actOnLeaf_193 {X : ah_X} {d : Nat} (hd : 1 ≤ d) {a0 : Option Nat} {a1 : Int32} {a3 : Int64} {a7 : Int32} {a8 : Int32} {a9 : Int32} {h : ah_H} {h2 : ah_H} (hf : bX10_actOnLeaf_193 X.2.2.2 a0 a1 a3 a7 a8 a9 h = some h2) : Rt X yX10_actOnLeaf cX10_actOnLeaf 11 (d + 1) 193 [(0, va_rf a0), (1, .int a1), (3, .long a3), (7, .int a7), (8, .int a8), (9, .int a9)] [] h none h2 := by
  unfold bX10_actOnLeaf_193 at hf
  refine rt_aload_n (pc := 193) (k0 := 0) (x := a0) 0 rfl dX10_actOnLeaf_193 ?_
  obtain ⟨v1, e2, hf⟩ := ob1 hf
  refine rt_gi (pc := 194) fd_X10_34 dX10_actOnLeaf_194 e2 ?_
  refine rt_iconst (pc := 197) (n := -1) (v := (-1 : Int32)) (by decide) dX10_actOnLeaf_197 ?_
  by_cases c3 : v1 = (-1 : Int32)
  · rw [if_pos c3] at hf
    refine rt_icmp_ne_p (pc := 198) (x := v1) (z := (-1 : Int32)) (tgt := 214) (by decide) dX10_actOnLeaf_198 c3 ?_
    refine rt_iload (pc := 201) (i := 9) (x := a9) 5 rfl dX10_actOnLeaf_201 ?_
    by_cases c4 : a9 = 0
    · rw [if_pos c4] at hf
      refine rt_if_eq_p (pc := 203) (x := a9) (tgt := 213) (by decide) dX10_actOnLeaf_203 c4 ?_
      exact rt_locals (rt_sub [] rfl) (rX10_actOnLeaf_213 hd hf)
    rw [if_neg c4] at hf
    refine rt_if_eq_n (pc := 203) (x := a9) (tgt := 213) (by decide) dX10_actOnLeaf_203 c4 ?_
    refine rt_aload_n (pc := 206) (k0 := 0) (x := a0) 0 rfl dX10_actOnLeaf_206 ?_
    refine rt_iload_n (pc := 207) (k0 := 1) (x := a1) 1 rfl dX10_actOnLeaf_207 ?_
    refine rt_iload (pc := 208) (i := 7) (x := a7) 3 rfl dX10_actOnLeaf_208 ?_
    obtain ⟨w6, e5, hf⟩ := ob1 hf
    have g7 := sX10_leave d (by omega) e5
    refine rt_callV (pc := 210) (As := [.int a1, .int a7]) (st := []) me_X10_leave mi_X10_leave wl_X10_296 dX10_actOnLeaf_210 rfl (by decide) rfl g7.1 g7.2 ?_
    exact rt_locals (rt_sub [] rfl) (rX10_actOnLeaf_213 hd hf)
  rw [if_neg c3] at hf
  refine rt_icmp_ne_n (pc := 198) (x := v1) (z := (-1 : Int32)) (tgt := 214) (by decide) dX10_actOnLeaf_198 c3 ?_
  refine rt_iload (pc := 214) (i := 9) (x := a9) 5 rfl dX10_actOnLeaf_214 ?_
  by_cases c8 : a9 = 0
  · rw [if_pos c8] at hf
    refine rt_if_ne_p (pc := 216) (x := a9) (tgt := 229) (by decide) dX10_actOnLeaf_216 c8 ?_
    refine rt_aload_n (pc := 219) (k0 := 0) (x := a0) 0 rfl dX10_actOnLeaf_219 ?_
    refine rt_iload_n (pc := 220) (k0 := 1) (x := a1) 1 rfl dX10_actOnLeaf_220 ?_
    refine rt_iload (pc := 221) (i := 7) (x := a7) 3 rfl dX10_actOnLeaf_221 ?_
    refine rt_lload_n (pc := 223) (k0 := 3) (x := a3) 2 rfl dX10_actOnLeaf_223 ?_
    obtain ⟨v11, w10, e9, hf⟩ := ob2_of hf
    have g12 := sX10_entry d (by omega) e9
    refine rt_callV (pc := 224) (As := [.int a1, .int a7, .long a3]) (st := []) me_X10_entry mi_X10_entry wl_X10_299 dX10_actOnLeaf_224 rfl (by decide) rfl g12.1 g12.2 ?_
    refine rt_istore (pc := 227) (i := 8) (x := v11) (l2 := [(8, .int v11), (0, va_rf a0), (1, .int a1), (3, .long a3), (7, .int a7), (9, .int a9)]) (by decide) (by first | rfl | (simp [rt_cat, cat_i, cat_l]; done) | (simp [rt_cat, cat_i, cat_l]; decide)) dX10_actOnLeaf_227 ?_
    exact rt_locals (rt_sub [1, 0] rfl) (rX10_actOnLeaf_229 hd hf)
  rw [if_neg c8] at hf
  refine rt_if_ne_n (pc := 216) (x := a9) (tgt := 229) (by decide) dX10_actOnLeaf_216 c8 ?_
  exact rt_locals (rt_sub [0, 4] rfl) (rX10_actOnLeaf_229 hd hf)
noncomputable def bX10_actOnLeaf_178 (E : ah_E) (a0 : Option Nat) (a1 : Int32) (a2 : Int32) (a3 : Int64) (a7 : Int32) (a8 : Int32) (a9 : Int32) (h : ah_H) : Option ah_H :=
  ob2 (fX10_acts E a0 a2 h) fun v3 w2 =>
  if v3 = 0 then
    bX10_actOnLeaf_193 E a0 a1 a3 a7 a8 a9 w2
  else
  (hp_gr w2 a0 11 27).bind fun v6 =>
  (hp_sti w2 v6 a1 (-1 : Int32)).bind fun w8 =>
  bX10_actOnLeaf_193 E a0 a1 a3 a7 a8 a9 w8
set_option maxRecDepth 20000 in
set_option maxHeartbeats 4000000 in
theorem rX10_actOnLeaf_178 {X : ah_X} {d : Nat} (hd : 1 ≤ d) {a0 : Option Nat} {a1 : Int32} {a2 : Int32} {a3 : Int64} {a7 : Int32} {a8 : Int32} {a9 : Int32} {h : ah_H} {h2 : ah_H} (hf : bX10_actOnLeaf_178 X.2.2.2 a0 a1 a2 a3 a7 a8 a9 h = some h2) : Rt X yX10_actOnLeaf cX10_actOnLeaf 11 (d + 1) 178 [(0, va_rf a0), (1, .int a1), (2, .int a2), (3, .long a3), (7, .int a7), (8, .int a8), (9, .int a9)] [] h none h2 := by
  unfold bX10_actOnLeaf_178 at hf
  refine rt_aload_n (pc := 178) (k0 := 0) (x := a0) 0 rfl dX10_actOnLeaf_178 ?_
  refine rt_iload_n (pc := 179) (k0 := 2) (x := a2) 2 rfl dX10_actOnLeaf_179 ?_
  obtain ⟨v3, w2, e1, hf⟩ := ob2_of hf
  have g4 := sX10_acts d (by omega) e1
  refine rt_callV (pc := 180) (As := [.int a2]) (st := []) me_X10_acts mi_X10_acts wl_X10_80 dX10_actOnLeaf_180 rfl (by decide) rfl g4.1 g4.2 ?_
  by_cases c5 : v3 = 0
  · rw [if_pos c5] at hf
    refine rt_if_eq_p (pc := 183) (x := v3) (tgt := 193) (by decide) dX10_actOnLeaf_183 c5 ?_
    exact rt_locals (rt_sub [0, 1, 3, 4, 5, 6] rfl) (rX10_actOnLeaf_193 hd hf)
  rw [if_neg c5] at hf
  refine rt_if_eq_n (pc := 183) (x := v3) (tgt := 193) (by decide) dX10_actOnLeaf_183 c5 ?_
  refine rt_aload_n (pc := 186) (k0 := 0) (x := a0) 0 rfl dX10_actOnLeaf_186 ?_
  obtain ⟨v6, e7, hf⟩ := ob1 hf
  refine rt_gr (pc := 187) fd_X10_148 dX10_actOnLeaf_187 e7 ?_
  refine rt_iload_n (pc := 190) (k0 := 1) (x := a1) 1 rfl dX10_actOnLeaf_190 ?_
  refine rt_iconst (pc := 191) (n := -1) (v := (-1 : Int32)) (by decide) dX10_actOnLeaf_191 ?_
  obtain ⟨w8, e9, hf⟩ := ob1 hf
  refine rt_iast (pc := 192) dX10_actOnLeaf_192 e9 ?_
  exact rt_locals (rt_sub [0, 1, 3, 4, 5, 6] rfl) (rX10_actOnLeaf_193 hd hf)
noncomputable def bX10_actOnLeaf_140 (E : ah_E) : Nat → Option Nat → Int32 → Int32 → Int64 → Int32 → Int32 → Int32 → Int32 → ah_H → Option ah_H
  | 0 => fun _ _ _ _ _ _ _ _ _ => none
  | n + 1 => fun a0 a1 a2 a3 a7 a8 a9 a10 h =>
  if (20 : Int32) ≤ a10 then
    bX10_actOnLeaf_178 E a0 a1 a2 a3 a7 a8 a9 h
  else
  if a9 = 0 then
    bX10_actOnLeaf_178 E a0 a1 a2 a3 a7 a8 a9 h
  else
  (hp_gr h a0 11 16).bind fun v3 =>
  (hp_gr h a0 11 33).bind fun v5 =>
  (hp_ldb h v5 (((20 : Int32) * a8) + a10)).bind fun v7 =>
  (hp_stb h v3 a10 v7).bind fun w9 =>
  bX10_actOnLeaf_140 E n a0 a1 a2 a3 a7 a8 a9 (a10 + 1) w9
set_option maxRecDepth 20000 in
set_option maxHeartbeats 4000000 in
theorem rX10_actOnLeaf_140 {X : ah_X} {d : Nat} (hd : 1 ≤ d) (n : Nat) : ∀ (a0 : Option Nat) (a1 : Int32) (a2 : Int32) (a3 : Int64) (a7 : Int32) (a8 : Int32) (a9 : Int32) (a10 : Int32) (h : ah_H) (h2 : ah_H), bX10_actOnLeaf_140 X.2.2.2 n a0 a1 a2 a3 a7 a8 a9 a10 h = some h2 → Rt X yX10_actOnLeaf cX10_actOnLeaf 11 (d + 1) 140 [(0, va_rf a0), (1, .int a1), (2, .int a2), (3, .long a3), (7, .int a7), (8, .int a8), (9, .int a9), (10, .int a10)] [] h none h2 := by
  induction n with
  | zero => intro a0 a1 a2 a3 a7 a8 a9 a10 h h2 hf; cases hf
  | succ n ih =>
  intro a0 a1 a2 a3 a7 a8 a9 a10 h h2 hf
  unfold bX10_actOnLeaf_140 at hf
  refine rt_iload (pc := 140) (i := 10) (x := a10) 7 rfl dX10_actOnLeaf_140 ?_
  refine rt_bipush (pc := 142) (n := 20) (v := (20 : Int32)) (by decide) dX10_actOnLeaf_142 ?_
  by_cases c1 : (20 : Int32) ≤ a10
  · rw [if_pos c1] at hf
    refine rt_icmp_ge_p (pc := 144) (x := a10) (z := (20 : Int32)) (tgt := 178) (by decide) dX10_actOnLeaf_144 c1 ?_
    exact rt_locals (rt_sub [0, 1, 2, 3, 4, 5, 6] rfl) (rX10_actOnLeaf_178 hd hf)
  rw [if_neg c1] at hf
  refine rt_icmp_ge_n (pc := 144) (x := a10) (z := (20 : Int32)) (tgt := 178) (by decide) dX10_actOnLeaf_144 c1 ?_
  refine rt_iload (pc := 147) (i := 9) (x := a9) 6 rfl dX10_actOnLeaf_147 ?_
  by_cases c2 : a9 = 0
  · rw [if_pos c2] at hf
    refine rt_if_eq_p (pc := 149) (x := a9) (tgt := 178) (by decide) dX10_actOnLeaf_149 c2 ?_
    exact rt_locals (rt_sub [0, 1, 2, 3, 4, 5, 6] rfl) (rX10_actOnLeaf_178 hd hf)
  rw [if_neg c2] at hf
  refine rt_if_eq_n (pc := 149) (x := a9) (tgt := 178) (by decide) dX10_actOnLeaf_149 c2 ?_
  refine rt_aload_n (pc := 152) (k0 := 0) (x := a0) 0 rfl dX10_actOnLeaf_152 ?_
  obtain ⟨v3, e4, hf⟩ := ob1 hf
  refine rt_gr (pc := 153) fd_X10_40 dX10_actOnLeaf_153 e4 ?_
  refine rt_iload (pc := 156) (i := 10) (x := a10) 7 rfl dX10_actOnLeaf_156 ?_
  refine rt_aload_n (pc := 158) (k0 := 0) (x := a0) 0 rfl dX10_actOnLeaf_158 ?_
  obtain ⟨v5, e6, hf⟩ := ob1 hf
  refine rt_gr (pc := 159) fd_X10_161 dX10_actOnLeaf_159 e6 ?_
  refine rt_bipush (pc := 162) (n := 20) (v := (20 : Int32)) (by decide) dX10_actOnLeaf_162 ?_
  refine rt_iload (pc := 164) (i := 8) (x := a8) 5 rfl dX10_actOnLeaf_164 ?_
  refine rt_imul (pc := 166) (x := (20 : Int32)) (z := a8) dX10_actOnLeaf_166 ?_
  refine rt_iload (pc := 167) (i := 10) (x := a10) 7 rfl dX10_actOnLeaf_167 ?_
  refine rt_iadd (pc := 169) (x := ((20 : Int32) * a8)) (z := a10) dX10_actOnLeaf_169 ?_
  obtain ⟨v7, e8, hf⟩ := ob1 hf
  refine rt_bald (pc := 170) dX10_actOnLeaf_170 e8 ?_
  obtain ⟨w9, e10, hf⟩ := ob1 hf
  refine rt_bast (pc := 171) dX10_actOnLeaf_171 e10 ?_
  refine rt_iinc (pc := 172) (i := 10) (n := 1) (x := a10) (v := (a10 + 1)) (l2 := [(10, .int (a10 + 1)), (0, va_rf a0), (1, .int a1), (2, .int a2), (3, .long a3), (7, .int a7), (8, .int a8), (9, .int a9)]) 7 rfl rfl (by decide) (by first | rfl | (simp [rt_cat, cat_i, cat_l]; done) | (simp [rt_cat, cat_i, cat_l]; decide)) dX10_actOnLeaf_172 ?_
  refine rt_goto (pc := 175) (tgt := 140) (by decide) dX10_actOnLeaf_175 ?_
  exact rt_locals (rt_sub [1, 2, 3, 4, 5, 6, 7, 0] rfl) (ih _ _ _ _ _ _ _ _ _ _ hf)
noncomputable def bX10_actOnLeaf_134 (E : ah_E) (a0 : Option Nat) (a1 : Int32) (a2 : Int32) (a3 : Int64) (a7 : Int32) (a8 : Int32) (a9 : Int32) (s0 : Option Nat) (s1 : Int32) (h : ah_H) : Option ah_H :=
  (hp_pv h s0 11 17 (.int s1)).bind fun w1 =>
  bX10_actOnLeaf_140 E zf a0 a1 a2 a3 a7 a8 a9 (0 : Int32) w1
set_option maxRecDepth 20000 in
set_option maxHeartbeats 4000000 in
theorem rX10_actOnLeaf_134 {X : ah_X} {d : Nat} (hd : 1 ≤ d) {a0 : Option Nat} {a1 : Int32} {a2 : Int32} {a3 : Int64} {a7 : Int32} {a8 : Int32} {a9 : Int32} {s0 : Option Nat} {s1 : Int32} {h : ah_H} {h2 : ah_H} (hf : bX10_actOnLeaf_134 X.2.2.2 a0 a1 a2 a3 a7 a8 a9 s0 s1 h = some h2) : Rt X yX10_actOnLeaf cX10_actOnLeaf 11 (d + 1) 134 [(0, va_rf a0), (1, .int a1), (2, .int a2), (3, .long a3), (7, .int a7), (8, .int a8), (9, .int a9)] [.int s1, va_rf s0] h none h2 := by
  unfold bX10_actOnLeaf_134 at hf
  obtain ⟨w1, e2, hf⟩ := ob1 hf
  refine rt_putf (pc := 134) (x := s0) fw_X10_34 (Or.inl rfl) (pf_i _).1 (pf_i _).2 dX10_actOnLeaf_134 e2 ?_
  refine rt_iconst (pc := 137) (n := 0) (v := (0 : Int32)) (by decide) dX10_actOnLeaf_137 ?_
  refine rt_istore (pc := 138) (i := 10) (x := (0 : Int32)) (l2 := [(10, .int (0 : Int32)), (0, va_rf a0), (1, .int a1), (2, .int a2), (3, .long a3), (7, .int a7), (8, .int a8), (9, .int a9)]) (by decide) (by first | rfl | (simp [rt_cat, cat_i, cat_l]; done) | (simp [rt_cat, cat_i, cat_l]; decide)) dX10_actOnLeaf_138 ?_
  exact rt_locals (rt_sub [1, 2, 3, 4, 5, 6, 7, 0] rfl) (rX10_actOnLeaf_140 hd zf _ _ _ _ _ _ _ _ _ _ hf)
noncomputable def bX10_actOnLeaf_115 (E : ah_E) (a0 : Option Nat) (a1 : Int32) (a2 : Int32) (a3 : Int64) (a7 : Int32) (a8 : Int32) (s0 : Int32) (h : ah_H) : Option ah_H :=
  if s0 = 0 then
    bX10_actOnLeaf_134 E a0 a1 a2 a3 a7 a8 s0 a0 (-1 : Int32) h
  else
  (hp_gr h a0 11 32).bind fun v2 =>
  (hp_ldi h v2 a8).bind fun v4 =>
  bX10_actOnLeaf_134 E a0 a1 a2 a3 a7 a8 s0 a0 v4 h
set_option maxRecDepth 20000 in
set_option maxHeartbeats 4000000 in
theorem rX10_actOnLeaf_115 {X : ah_X} {d : Nat} (hd : 1 ≤ d) {a0 : Option Nat} {a1 : Int32} {a2 : Int32} {a3 : Int64} {a7 : Int32} {a8 : Int32} {s0 : Int32} {h : ah_H} {h2 : ah_H} (hf : bX10_actOnLeaf_115 X.2.2.2 a0 a1 a2 a3 a7 a8 s0 h = some h2) : Rt X yX10_actOnLeaf cX10_actOnLeaf 11 (d + 1) 115 [(0, va_rf a0), (1, .int a1), (2, .int a2), (3, .long a3), (7, .int a7), (8, .int a8)] [.int s0] h none h2 := by
  unfold bX10_actOnLeaf_115 at hf
  refine rt_istore (pc := 115) (i := 9) (x := s0) (l2 := [(9, .int s0), (0, va_rf a0), (1, .int a1), (2, .int a2), (3, .long a3), (7, .int a7), (8, .int a8)]) (by decide) (by first | rfl | (simp [rt_cat, cat_i, cat_l]; done) | (simp [rt_cat, cat_i, cat_l]; decide)) dX10_actOnLeaf_115 ?_
  refine rt_aload_n (pc := 117) (k0 := 0) (x := a0) 1 rfl dX10_actOnLeaf_117 ?_
  refine rt_iload (pc := 118) (i := 9) (x := s0) 0 rfl dX10_actOnLeaf_118 ?_
  by_cases c1 : s0 = 0
  · rw [if_pos c1] at hf
    refine rt_if_eq_p (pc := 120) (x := s0) (tgt := 133) (by decide) dX10_actOnLeaf_120 c1 ?_
    refine rt_iconst (pc := 133) (n := -1) (v := (-1 : Int32)) (by decide) dX10_actOnLeaf_133 ?_
    exact rt_locals (rt_sub [1, 2, 3, 4, 5, 6, 0] rfl) (rX10_actOnLeaf_134 hd hf)
  rw [if_neg c1] at hf
  refine rt_if_eq_n (pc := 120) (x := s0) (tgt := 133) (by decide) dX10_actOnLeaf_120 c1 ?_
  refine rt_aload_n (pc := 123) (k0 := 0) (x := a0) 1 rfl dX10_actOnLeaf_123 ?_
  obtain ⟨v2, e3, hf⟩ := ob1 hf
  refine rt_gr (pc := 124) fd_X10_157 dX10_actOnLeaf_124 e3 ?_
  refine rt_iload (pc := 127) (i := 8) (x := a8) 6 rfl dX10_actOnLeaf_127 ?_
  obtain ⟨v4, e5, hf⟩ := ob1 hf
  refine rt_iald (pc := 129) dX10_actOnLeaf_129 e5 ?_
  refine rt_goto (pc := 130) (tgt := 134) (by decide) dX10_actOnLeaf_130 ?_
  exact rt_locals (rt_sub [1, 2, 3, 4, 5, 6, 0] rfl) (rX10_actOnLeaf_134 hd hf)
noncomputable def bX10_actOnLeaf_114 (E : ah_E) (a0 : Option Nat) (a1 : Int32) (a2 : Int32) (a3 : Int64) (a7 : Int32) (a8 : Int32) (h : ah_H) : Option ah_H :=
  bX10_actOnLeaf_115 E a0 a1 a2 a3 a7 a8 (0 : Int32) h
set_option maxRecDepth 20000 in
set_option maxHeartbeats 4000000 in
theorem rX10_actOnLeaf_114 {X : ah_X} {d : Nat} (hd : 1 ≤ d) {a0 : Option Nat} {a1 : Int32} {a2 : Int32} {a3 : Int64} {a7 : Int32} {a8 : Int32} {h : ah_H} {h2 : ah_H} (hf : bX10_actOnLeaf_114 X.2.2.2 a0 a1 a2 a3 a7 a8 h = some h2) : Rt X yX10_actOnLeaf cX10_actOnLeaf 11 (d + 1) 114 [(0, va_rf a0), (1, .int a1), (2, .int a2), (3, .long a3), (7, .int a7), (8, .int a8)] [] h none h2 := by
  unfold bX10_actOnLeaf_114 at hf
  refine rt_iconst (pc := 114) (n := 0) (v := (0 : Int32)) (by decide) dX10_actOnLeaf_114 ?_
  exact rX10_actOnLeaf_115 hd hf
noncomputable def bX10_actOnLeaf_30 (E : ah_E) (a0 : Option Nat) (a1 : Int32) (a2 : Int32) (a3 : Int64) (a5 : Int64) (a7 : Int32) (s0 : Int32) (h : ah_H) : Option ah_H :=
  (hp_gr h a0 11 8).bind fun v1 =>
  (hp_ldi h v1 a2).bind fun v3 =>
  if v3 = (5 : Int32) then
    bX10_actOnLeaf_42 E zf a0 a1 a5 a7 s0 h
  else
  if s0 = (-1 : Int32) then
    bX10_actOnLeaf_114 E a0 a1 a2 a3 a7 s0 h
  else
  (hp_gr h a0 11 31).bind fun v7 =>
  (hp_ldl h v7 s0).bind fun v9 =>
  if v9 = a3 then
    bX10_actOnLeaf_115 E a0 a1 a2 a3 a7 s0 (1 : Int32) h
  else
  bX10_actOnLeaf_114 E a0 a1 a2 a3 a7 s0 h
set_option maxRecDepth 20000 in
set_option maxHeartbeats 4000000 in
theorem rX10_actOnLeaf_30 {X : ah_X} {d : Nat} (hd : 1 ≤ d) {a0 : Option Nat} {a1 : Int32} {a2 : Int32} {a3 : Int64} {a5 : Int64} {a7 : Int32} {s0 : Int32} {h : ah_H} {h2 : ah_H} (hf : bX10_actOnLeaf_30 X.2.2.2 a0 a1 a2 a3 a5 a7 s0 h = some h2) : Rt X yX10_actOnLeaf cX10_actOnLeaf 11 (d + 1) 30 [(0, va_rf a0), (1, .int a1), (2, .int a2), (3, .long a3), (5, .long a5), (7, .int a7)] [.int s0] h none h2 := by
  unfold bX10_actOnLeaf_30 at hf
  refine rt_istore (pc := 30) (i := 8) (x := s0) (l2 := [(8, .int s0), (0, va_rf a0), (1, .int a1), (2, .int a2), (3, .long a3), (5, .long a5), (7, .int a7)]) (by decide) (by first | rfl | (simp [rt_cat, cat_i, cat_l]; done) | (simp [rt_cat, cat_i, cat_l]; decide)) dX10_actOnLeaf_30 ?_
  refine rt_aload_n (pc := 32) (k0 := 0) (x := a0) 1 rfl dX10_actOnLeaf_32 ?_
  obtain ⟨v1, e2, hf⟩ := ob1 hf
  refine rt_gr (pc := 33) fd_X10_46 dX10_actOnLeaf_33 e2 ?_
  refine rt_iload_n (pc := 36) (k0 := 2) (x := a2) 3 rfl dX10_actOnLeaf_36 ?_
  obtain ⟨v3, e4, hf⟩ := ob1 hf
  refine rt_iald (pc := 37) dX10_actOnLeaf_37 e4 ?_
  refine rt_iconst (pc := 38) (n := 5) (v := (5 : Int32)) (by decide) dX10_actOnLeaf_38 ?_
  by_cases c5 : v3 = (5 : Int32)
  · rw [if_pos c5] at hf
    refine rt_icmp_ne_p (pc := 39) (x := v3) (z := (5 : Int32)) (tgt := 92) (by decide) dX10_actOnLeaf_39 c5 ?_
    exact rt_locals (rt_sub [1, 2, 5, 6, 0] rfl) (rX10_actOnLeaf_42 hd zf _ _ _ _ _ _ _ hf)
  rw [if_neg c5] at hf
  refine rt_icmp_ne_n (pc := 39) (x := v3) (z := (5 : Int32)) (tgt := 92) (by decide) dX10_actOnLeaf_39 c5 ?_
  refine rt_iload (pc := 92) (i := 8) (x := s0) 0 rfl dX10_actOnLeaf_92 ?_
  refine rt_iconst (pc := 94) (n := -1) (v := (-1 : Int32)) (by decide) dX10_actOnLeaf_94 ?_
  by_cases c6 : s0 = (-1 : Int32)
  · rw [if_pos c6] at hf
    refine rt_icmp_eq_p (pc := 95) (x := s0) (z := (-1 : Int32)) (tgt := 114) (by decide) dX10_actOnLeaf_95 c6 ?_
    exact rt_locals (rt_sub [1, 2, 3, 4, 6, 0] rfl) (rX10_actOnLeaf_114 hd hf)
  rw [if_neg c6] at hf
  refine rt_icmp_eq_n (pc := 95) (x := s0) (z := (-1 : Int32)) (tgt := 114) (by decide) dX10_actOnLeaf_95 c6 ?_
  refine rt_aload_n (pc := 98) (k0 := 0) (x := a0) 1 rfl dX10_actOnLeaf_98 ?_
  obtain ⟨v7, e8, hf⟩ := ob1 hf
  refine rt_gr (pc := 99) fd_X10_154 dX10_actOnLeaf_99 e8 ?_
  refine rt_iload (pc := 102) (i := 8) (x := s0) 0 rfl dX10_actOnLeaf_102 ?_
  obtain ⟨v9, e10, hf⟩ := ob1 hf
  refine rt_lald (pc := 104) dX10_actOnLeaf_104 e10 ?_
  refine rt_lload_n (pc := 105) (k0 := 3) (x := a3) 4 rfl dX10_actOnLeaf_105 ?_
  by_cases c11 : v9 = a3
  · rw [if_pos c11] at hf
    refine rt_lif_ne_p (pc := 106) (x := v9) (z := a3) (tgt := 114) (by decide) dX10_actOnLeaf_106 dX10_actOnLeaf_107 c11 ?_
    refine rt_iconst (pc := 110) (n := 1) (v := (1 : Int32)) (by decide) dX10_actOnLeaf_110 ?_
    refine rt_goto (pc := 111) (tgt := 115) (by decide) dX10_actOnLeaf_111 ?_
    exact rt_locals (rt_sub [1, 2, 3, 4, 6, 0] rfl) (rX10_actOnLeaf_115 hd hf)
  rw [if_neg c11] at hf
  refine rt_lif_ne_n (pc := 106) (x := v9) (z := a3) (tgt := 114) (by decide) dX10_actOnLeaf_106 dX10_actOnLeaf_107 c11 ?_
  exact rt_locals (rt_sub [1, 2, 3, 4, 6, 0] rfl) (rX10_actOnLeaf_114 hd hf)
noncomputable def bX10_actOnLeaf_0 (E : ah_E) (a0 : Option Nat) (a1 : Int32) (a2 : Int32) (a3 : Int64) (a5 : Int64) (h : ah_H) : Option ah_H :=
  ob2 (fX10_below E a0 a1 a3 h) fun v3 w2 =>
  if v3 = (-1 : Int32) then
    (hp_gr w2 a0 11 19).bind fun v6 =>
    (hp_ldi w2 v6 a1).bind fun v8 =>
    bX10_actOnLeaf_30 E a0 a1 a2 a3 a5 v3 v8 w2
  else
  (hp_gr w2 a0 11 34).bind fun v10 =>
  (hp_ldi w2 v10 v3).bind fun v12 =>
  bX10_actOnLeaf_30 E a0 a1 a2 a3 a5 v3 v12 w2
set_option maxRecDepth 20000 in
set_option maxHeartbeats 4000000 in
theorem rX10_actOnLeaf_0 {X : ah_X} {d : Nat} (hd : 1 ≤ d) {a0 : Option Nat} {a1 : Int32} {a2 : Int32} {a3 : Int64} {a5 : Int64} {h : ah_H} {h2 : ah_H} (hf : bX10_actOnLeaf_0 X.2.2.2 a0 a1 a2 a3 a5 h = some h2) : Rt X yX10_actOnLeaf cX10_actOnLeaf 11 (d + 1) 0 [(0, va_rf a0), (1, .int a1), (2, .int a2), (3, .long a3), (5, .long a5)] [] h none h2 := by
  unfold bX10_actOnLeaf_0 at hf
  refine rt_aload_n (pc := 0) (k0 := 0) (x := a0) 0 rfl dX10_actOnLeaf_0 ?_
  refine rt_iload_n (pc := 1) (k0 := 1) (x := a1) 1 rfl dX10_actOnLeaf_1 ?_
  refine rt_lload_n (pc := 2) (k0 := 3) (x := a3) 3 rfl dX10_actOnLeaf_2 ?_
  obtain ⟨v3, w2, e1, hf⟩ := ob2_of hf
  have g4 := sX10_below d (by omega) e1
  refine rt_callV (pc := 3) (As := [.int a1, .long a3]) (st := []) me_X10_below mi_X10_below wl_X10_292 dX10_actOnLeaf_3 rfl (by decide) rfl g4.1 g4.2 ?_
  refine rt_istore (pc := 6) (i := 7) (x := v3) (l2 := [(7, .int v3), (0, va_rf a0), (1, .int a1), (2, .int a2), (3, .long a3), (5, .long a5)]) (by decide) (by first | rfl | (simp [rt_cat, cat_i, cat_l]; done) | (simp [rt_cat, cat_i, cat_l]; decide)) dX10_actOnLeaf_6 ?_
  refine rt_iload (pc := 8) (i := 7) (x := v3) 0 rfl dX10_actOnLeaf_8 ?_
  refine rt_iconst (pc := 10) (n := -1) (v := (-1 : Int32)) (by decide) dX10_actOnLeaf_10 ?_
  by_cases c5 : v3 = (-1 : Int32)
  · rw [if_pos c5] at hf
    refine rt_icmp_ne_p (pc := 11) (x := v3) (z := (-1 : Int32)) (tgt := 23) (by decide) dX10_actOnLeaf_11 c5 ?_
    refine rt_aload_n (pc := 14) (k0 := 0) (x := a0) 1 rfl dX10_actOnLeaf_14 ?_
    obtain ⟨v6, e7, hf⟩ := ob1 hf
    refine rt_gr (pc := 15) fd_X10_123 dX10_actOnLeaf_15 e7 ?_
    refine rt_iload_n (pc := 18) (k0 := 1) (x := a1) 2 rfl dX10_actOnLeaf_18 ?_
    obtain ⟨v8, e9, hf⟩ := ob1 hf
    refine rt_iald (pc := 19) dX10_actOnLeaf_19 e9 ?_
    refine rt_goto (pc := 20) (tgt := 30) (by decide) dX10_actOnLeaf_20 ?_
    exact rt_locals (rt_sub [1, 2, 3, 4, 5, 0] rfl) (rX10_actOnLeaf_30 hd hf)
  rw [if_neg c5] at hf
  refine rt_icmp_ne_n (pc := 11) (x := v3) (z := (-1 : Int32)) (tgt := 23) (by decide) dX10_actOnLeaf_11 c5 ?_
  refine rt_aload_n (pc := 23) (k0 := 0) (x := a0) 1 rfl dX10_actOnLeaf_23 ?_
  obtain ⟨v10, e11, hf⟩ := ob1 hf
  refine rt_gr (pc := 24) fd_X10_164 dX10_actOnLeaf_24 e11 ?_
  refine rt_iload (pc := 27) (i := 7) (x := v3) 0 rfl dX10_actOnLeaf_27 ?_
  obtain ⟨v12, e13, hf⟩ := ob1 hf
  refine rt_iald (pc := 29) dX10_actOnLeaf_29 e13 ?_
  exact rt_locals (rt_sub [1, 2, 3, 4, 5, 0] rfl) (rX10_actOnLeaf_30 hd hf)
noncomputable def fX10_actOnLeaf (E : ah_E) (a0 : Option Nat) (a1 : Int32) (a2 : Int32) (a3 : Int64) (a5 : Int64) (h : ah_H) : Option ah_H := if hp_rcv h a0 11 = false then none else bX10_actOnLeaf_0 E a0 a1 a2 a3 a5 h
set_option maxRecDepth 20000 in
set_option maxHeartbeats 4000000 in
theorem sX10_actOnLeaf {X : ah_X} (d : Nat) (hd : 2 ≤ d) {a0 : Option Nat} {a1 : Int32} {a2 : Int32} {a3 : Int64} {a5 : Int64} {h : ah_H} {h2 : ah_H} (hf : fX10_actOnLeaf X.2.2.2 a0 a1 a2 a3 a5 h = some h2) : hp_rcv h a0 11 = true ∧ Rn X yX10_actOnLeaf cX10_actOnLeaf 11 none d [va_rf a0, .int a1, .int a2, .long a3, .long a5] h none h2 := by
  unfold fX10_actOnLeaf at hf
  by_cases c0 : hp_rcv h a0 11 = false
  · rw [if_pos c0] at hf; cases hf
  rw [if_neg c0] at hf
  refine ⟨(Bool.not_eq_false _).mp c0, ?_⟩
  obtain ⟨d, rfl⟩ : ∃ k, d = k + 1 := ⟨d - 1, by omega⟩
  exact Rn.of2 me_X10_actOnLeaf (by simp [lg_sl, rt_cat, cat_i, cat_l]) rfl (l := [(0, va_rf a0), (1, .int a1), (2, .int a2), (3, .long a3), (5, .long a5)]) (by simp [lv_args, rt_cat, cat_i, cat_l]) (rX10_actOnLeaf_0 (by omega) hf)
noncomputable def bX10_kidFor_42 (E : ah_E) (a4 : Int32) (h : ah_H) : Option (Int32 × ah_H) :=
  some (a4, h)
set_option maxRecDepth 20000 in
set_option maxHeartbeats 4000000 in
theorem rX10_kidFor_42 {X : ah_X} {d : Nat} {a4 : Int32} {h : ah_H} {r : Int32} {h2 : ah_H} (hf : bX10_kidFor_42 X.2.2.2 a4 h = some (r, h2)) : Rt X yX10_kidFor cX10_kidFor 5 d 42 [(4, .int a4)] [] h (some (.int r)) h2 := by
  unfold bX10_kidFor_42 at hf
  refine rt_iload (pc := 42) (i := 4) (x := a4) 0 rfl dX10_kidFor_42 ?_
  cases hf
  exact rt_ret (pc := 44) dX10_kidFor_44 rfl
noncomputable def bX10_kidFor_3 (E : ah_E) : Nat → Option Nat → Int32 → Int64 → Int32 → ah_H → Option (Int32 × ah_H)
  | 0 => fun _ _ _ _ _ => none
  | n + 1 => fun a0 a1 a2 a4 h =>
  (hp_gr h a0 11 21).bind fun v1 =>
  (hp_ldi h v1 a1).bind fun v3 =>
  if v3 ≤ (a4 + (1 : Int32)) then
    bX10_kidFor_42 E a4 h
  else
  (hp_gr h a0 11 23).bind fun v6 =>
  (hp_ldl h v6 ((((128 : Int32) * a1) + a4) + (1 : Int32))).bind fun v8 =>
  if a2 < v8 then
    bX10_kidFor_42 E a4 h
  else
  bX10_kidFor_3 E n a0 a1 a2 (a4 + 1) h
set_option maxRecDepth 20000 in
set_option maxHeartbeats 4000000 in
theorem rX10_kidFor_3 {X : ah_X} {d : Nat} (n : Nat) : ∀ (a0 : Option Nat) (a1 : Int32) (a2 : Int64) (a4 : Int32) (h : ah_H) (r : Int32) (h2 : ah_H), bX10_kidFor_3 X.2.2.2 n a0 a1 a2 a4 h = some (r, h2) → Rt X yX10_kidFor cX10_kidFor 5 d 3 [(0, va_rf a0), (1, .int a1), (2, .long a2), (4, .int a4)] [] h (some (.int r)) h2 := by
  induction n with
  | zero => intro a0 a1 a2 a4 h r h2 hf; cases hf
  | succ n ih =>
  intro a0 a1 a2 a4 h r h2 hf
  unfold bX10_kidFor_3 at hf
  refine rt_iload (pc := 3) (i := 4) (x := a4) 3 rfl dX10_kidFor_3 ?_
  refine rt_iconst (pc := 5) (n := 1) (v := (1 : Int32)) (by decide) dX10_kidFor_5 ?_
  refine rt_iadd (pc := 6) (x := a4) (z := (1 : Int32)) dX10_kidFor_6 ?_
  refine rt_aload_n (pc := 7) (k0 := 0) (x := a0) 0 rfl dX10_kidFor_7 ?_
  obtain ⟨v1, e2, hf⟩ := ob1 hf
  refine rt_gr (pc := 8) fd_X10_129 dX10_kidFor_8 e2 ?_
  refine rt_iload_n (pc := 11) (k0 := 1) (x := a1) 1 rfl dX10_kidFor_11 ?_
  obtain ⟨v3, e4, hf⟩ := ob1 hf
  refine rt_iald (pc := 12) dX10_kidFor_12 e4 ?_
  by_cases c5 : v3 ≤ (a4 + (1 : Int32))
  · rw [if_pos c5] at hf
    refine rt_icmp_ge_p (pc := 13) (x := (a4 + (1 : Int32))) (z := v3) (tgt := 42) (by decide) dX10_kidFor_13 c5 ?_
    exact rt_locals (rt_sub [3] rfl) (rX10_kidFor_42 hf)
  rw [if_neg c5] at hf
  refine rt_icmp_ge_n (pc := 13) (x := (a4 + (1 : Int32))) (z := v3) (tgt := 42) (by decide) dX10_kidFor_13 c5 ?_
  refine rt_aload_n (pc := 16) (k0 := 0) (x := a0) 0 rfl dX10_kidFor_16 ?_
  obtain ⟨v6, e7, hf⟩ := ob1 hf
  refine rt_gr (pc := 17) fd_X10_136 dX10_kidFor_17 e7 ?_
  refine rt_sipush (pc := 20) (n := 128) (v := (128 : Int32)) (by decide) dX10_kidFor_20 ?_
  refine rt_iload_n (pc := 23) (k0 := 1) (x := a1) 1 rfl dX10_kidFor_23 ?_
  refine rt_imul (pc := 24) (x := (128 : Int32)) (z := a1) dX10_kidFor_24 ?_
  refine rt_iload (pc := 25) (i := 4) (x := a4) 3 rfl dX10_kidFor_25 ?_
  refine rt_iadd (pc := 27) (x := ((128 : Int32) * a1)) (z := a4) dX10_kidFor_27 ?_
  refine rt_iconst (pc := 28) (n := 1) (v := (1 : Int32)) (by decide) dX10_kidFor_28 ?_
  refine rt_iadd (pc := 29) (x := (((128 : Int32) * a1) + a4)) (z := (1 : Int32)) dX10_kidFor_29 ?_
  obtain ⟨v8, e9, hf⟩ := ob1 hf
  refine rt_lald (pc := 30) dX10_kidFor_30 e9 ?_
  refine rt_lload_n (pc := 31) (k0 := 2) (x := a2) 2 rfl dX10_kidFor_31 ?_
  by_cases c10 : a2 < v8
  · rw [if_pos c10] at hf
    refine rt_lif_gt_p (pc := 32) (x := v8) (z := a2) (tgt := 42) (by decide) dX10_kidFor_32 dX10_kidFor_33 c10 ?_
    exact rt_locals (rt_sub [3] rfl) (rX10_kidFor_42 hf)
  rw [if_neg c10] at hf
  refine rt_lif_gt_n (pc := 32) (x := v8) (z := a2) (tgt := 42) (by decide) dX10_kidFor_32 dX10_kidFor_33 c10 ?_
  refine rt_iinc (pc := 36) (i := 4) (n := 1) (x := a4) (v := (a4 + 1)) (l2 := [(4, .int (a4 + 1)), (0, va_rf a0), (1, .int a1), (2, .long a2)]) 3 rfl rfl (by decide) (by first | rfl | (simp [rt_cat, cat_i, cat_l]; done) | (simp [rt_cat, cat_i, cat_l]; decide)) dX10_kidFor_36 ?_
  refine rt_goto (pc := 39) (tgt := 3) (by decide) dX10_kidFor_39 ?_
  exact rt_locals (rt_sub [1, 2, 3, 0] rfl) (ih _ _ _ _ _ _ _ hf)
noncomputable def bX10_kidFor_0 (E : ah_E) (a0 : Option Nat) (a1 : Int32) (a2 : Int64) (h : ah_H) : Option (Int32 × ah_H) :=
  bX10_kidFor_3 E zf a0 a1 a2 (0 : Int32) h
set_option maxRecDepth 20000 in
set_option maxHeartbeats 4000000 in
theorem rX10_kidFor_0 {X : ah_X} {d : Nat} {a0 : Option Nat} {a1 : Int32} {a2 : Int64} {h : ah_H} {r : Int32} {h2 : ah_H} (hf : bX10_kidFor_0 X.2.2.2 a0 a1 a2 h = some (r, h2)) : Rt X yX10_kidFor cX10_kidFor 5 d 0 [(0, va_rf a0), (1, .int a1), (2, .long a2)] [] h (some (.int r)) h2 := by
  unfold bX10_kidFor_0 at hf
  refine rt_iconst (pc := 0) (n := 0) (v := (0 : Int32)) (by decide) dX10_kidFor_0 ?_
  refine rt_istore (pc := 1) (i := 4) (x := (0 : Int32)) (l2 := [(4, .int (0 : Int32)), (0, va_rf a0), (1, .int a1), (2, .long a2)]) (by decide) (by first | rfl | (simp [rt_cat, cat_i, cat_l]; done) | (simp [rt_cat, cat_i, cat_l]; decide)) dX10_kidFor_1 ?_
  exact rt_locals (rt_sub [1, 2, 3, 0] rfl) (rX10_kidFor_3 zf _ _ _ _ _ _ _ hf)
noncomputable def fX10_kidFor (E : ah_E) (a0 : Option Nat) (a1 : Int32) (a2 : Int64) (h : ah_H) : Option (Int32 × ah_H) := if hp_rcv h a0 11 = false then none else bX10_kidFor_0 E a0 a1 a2 h
set_option maxRecDepth 20000 in
set_option maxHeartbeats 4000000 in
theorem sX10_kidFor {X : ah_X} (d : Nat) (hd : 0 ≤ d) {a0 : Option Nat} {a1 : Int32} {a2 : Int64} {h : ah_H} {r : Int32} {h2 : ah_H} (hf : fX10_kidFor X.2.2.2 a0 a1 a2 h = some (r, h2)) : hp_rcv h a0 11 = true ∧ Rn X yX10_kidFor cX10_kidFor 5 (some .int) d [va_rf a0, .int a1, .long a2] h (some (.int r)) h2 := by
  unfold fX10_kidFor at hf
  by_cases c0 : hp_rcv h a0 11 = false
  · rw [if_pos c0] at hf; cases hf
  rw [if_neg c0] at hf
  refine ⟨(Bool.not_eq_false _).mp c0, ?_⟩
  exact Rn.of2 me_X10_kidFor (by simp [lg_sl, rt_cat, cat_i, cat_l]) (ok_i _) (l := [(0, va_rf a0), (1, .int a1), (2, .long a2)]) (by simp [lv_args, rt_cat, cat_i, cat_l]) (rX10_kidFor_0 hf)
noncomputable def bX10_chain_39 (E : ah_E) (a0 : Option Nat) (a1 : Int32) (a2 : Int32) (h : ah_H) : Option ah_H :=
  (hp_gr h a0 11 25).bind fun v1 =>
  (hp_sti h v1 a1 a2).bind fun w3 =>
  (hp_gr w3 a0 11 26).bind fun v5 =>
  (hp_ldi w3 v5 a1).bind fun v7 =>
  (hp_sti w3 v5 a1 (v7 + (1 : Int32))).bind fun w9 =>
  some w9
set_option maxRecDepth 20000 in
set_option maxHeartbeats 4000000 in
theorem rX10_chain_39 {X : ah_X} {d : Nat} {a0 : Option Nat} {a1 : Int32} {a2 : Int32} {h : ah_H} {h2 : ah_H} (hf : bX10_chain_39 X.2.2.2 a0 a1 a2 h = some h2) : Rt X yX10_chain cX10_chain 3 d 39 [(0, va_rf a0), (1, .int a1), (2, .int a2)] [] h none h2 := by
  unfold bX10_chain_39 at hf
  refine rt_aload_n (pc := 39) (k0 := 0) (x := a0) 0 rfl dX10_chain_39 ?_
  obtain ⟨v1, e2, hf⟩ := ob1 hf
  refine rt_gr (pc := 40) fd_X10_142 dX10_chain_40 e2 ?_
  refine rt_iload_n (pc := 43) (k0 := 1) (x := a1) 1 rfl dX10_chain_43 ?_
  refine rt_iload_n (pc := 44) (k0 := 2) (x := a2) 2 rfl dX10_chain_44 ?_
  obtain ⟨w3, e4, hf⟩ := ob1 hf
  refine rt_iast (pc := 45) dX10_chain_45 e4 ?_
  refine rt_aload_n (pc := 46) (k0 := 0) (x := a0) 0 rfl dX10_chain_46 ?_
  obtain ⟨v5, e6, hf⟩ := ob1 hf
  refine rt_gr (pc := 47) fd_X10_145 dX10_chain_47 e6 ?_
  refine rt_iload_n (pc := 50) (k0 := 1) (x := a1) 1 rfl dX10_chain_50 ?_
  refine rt_dup2 (pc := 51) rfl (rt_cat _) dX10_chain_51 ?_
  obtain ⟨v7, e8, hf⟩ := ob1 hf
  refine rt_iald (pc := 52) dX10_chain_52 e8 ?_
  refine rt_iconst (pc := 53) (n := 1) (v := (1 : Int32)) (by decide) dX10_chain_53 ?_
  refine rt_iadd (pc := 54) (x := v7) (z := (1 : Int32)) dX10_chain_54 ?_
  obtain ⟨w9, e10, hf⟩ := ob1 hf
  refine rt_iast (pc := 55) dX10_chain_55 e10 ?_
  cases hf
  exact rt_ret (pc := 56) dX10_chain_56 rfl
noncomputable def bX10_chain_0 (E : ah_E) (a0 : Option Nat) (a1 : Int32) (a2 : Int32) (h : ah_H) : Option ah_H :=
  (hp_gr h a0 11 39).bind fun v1 =>
  (hp_sti h v1 a2 (-1 : Int32)).bind fun w3 =>
  (hp_gr w3 a0 11 25).bind fun v5 =>
  (hp_ldi w3 v5 a1).bind fun v7 =>
  if v7 = (-1 : Int32) then
    (hp_gr w3 a0 11 24).bind fun v10 =>
    (hp_sti w3 v10 a1 a2).bind fun w12 =>
    bX10_chain_39 E a0 a1 a2 w12
  else
  (hp_gr w3 a0 11 39).bind fun v14 =>
  (hp_gr w3 a0 11 25).bind fun v16 =>
  (hp_ldi w3 v16 a1).bind fun v18 =>
  (hp_sti w3 v14 v18 a2).bind fun w20 =>
  bX10_chain_39 E a0 a1 a2 w20
set_option maxRecDepth 20000 in
set_option maxHeartbeats 4000000 in
theorem rX10_chain_0 {X : ah_X} {d : Nat} {a0 : Option Nat} {a1 : Int32} {a2 : Int32} {h : ah_H} {h2 : ah_H} (hf : bX10_chain_0 X.2.2.2 a0 a1 a2 h = some h2) : Rt X yX10_chain cX10_chain 3 d 0 [(0, va_rf a0), (1, .int a1), (2, .int a2)] [] h none h2 := by
  unfold bX10_chain_0 at hf
  refine rt_aload_n (pc := 0) (k0 := 0) (x := a0) 0 rfl dX10_chain_0 ?_
  obtain ⟨v1, e2, hf⟩ := ob1 hf
  refine rt_gr (pc := 1) fd_X10_176 dX10_chain_1 e2 ?_
  refine rt_iload_n (pc := 4) (k0 := 2) (x := a2) 2 rfl dX10_chain_4 ?_
  refine rt_iconst (pc := 5) (n := -1) (v := (-1 : Int32)) (by decide) dX10_chain_5 ?_
  obtain ⟨w3, e4, hf⟩ := ob1 hf
  refine rt_iast (pc := 6) dX10_chain_6 e4 ?_
  refine rt_aload_n (pc := 7) (k0 := 0) (x := a0) 0 rfl dX10_chain_7 ?_
  obtain ⟨v5, e6, hf⟩ := ob1 hf
  refine rt_gr (pc := 8) fd_X10_142 dX10_chain_8 e6 ?_
  refine rt_iload_n (pc := 11) (k0 := 1) (x := a1) 1 rfl dX10_chain_11 ?_
  obtain ⟨v7, e8, hf⟩ := ob1 hf
  refine rt_iald (pc := 12) dX10_chain_12 e8 ?_
  refine rt_iconst (pc := 13) (n := -1) (v := (-1 : Int32)) (by decide) dX10_chain_13 ?_
  by_cases c9 : v7 = (-1 : Int32)
  · rw [if_pos c9] at hf
    refine rt_icmp_ne_p (pc := 14) (x := v7) (z := (-1 : Int32)) (tgt := 27) (by decide) dX10_chain_14 c9 ?_
    refine rt_aload_n (pc := 17) (k0 := 0) (x := a0) 0 rfl dX10_chain_17 ?_
    obtain ⟨v10, e11, hf⟩ := ob1 hf
    refine rt_gr (pc := 18) fd_X10_139 dX10_chain_18 e11 ?_
    refine rt_iload_n (pc := 21) (k0 := 1) (x := a1) 1 rfl dX10_chain_21 ?_
    refine rt_iload_n (pc := 22) (k0 := 2) (x := a2) 2 rfl dX10_chain_22 ?_
    obtain ⟨w12, e13, hf⟩ := ob1 hf
    refine rt_iast (pc := 23) dX10_chain_23 e13 ?_
    refine rt_goto (pc := 24) (tgt := 39) (by decide) dX10_chain_24 ?_
    exact rX10_chain_39 hf
  rw [if_neg c9] at hf
  refine rt_icmp_ne_n (pc := 14) (x := v7) (z := (-1 : Int32)) (tgt := 27) (by decide) dX10_chain_14 c9 ?_
  refine rt_aload_n (pc := 27) (k0 := 0) (x := a0) 0 rfl dX10_chain_27 ?_
  obtain ⟨v14, e15, hf⟩ := ob1 hf
  refine rt_gr (pc := 28) fd_X10_176 dX10_chain_28 e15 ?_
  refine rt_aload_n (pc := 31) (k0 := 0) (x := a0) 0 rfl dX10_chain_31 ?_
  obtain ⟨v16, e17, hf⟩ := ob1 hf
  refine rt_gr (pc := 32) fd_X10_142 dX10_chain_32 e17 ?_
  refine rt_iload_n (pc := 35) (k0 := 1) (x := a1) 1 rfl dX10_chain_35 ?_
  obtain ⟨v18, e19, hf⟩ := ob1 hf
  refine rt_iald (pc := 36) dX10_chain_36 e19 ?_
  refine rt_iload_n (pc := 37) (k0 := 2) (x := a2) 2 rfl dX10_chain_37 ?_
  obtain ⟨w20, e21, hf⟩ := ob1 hf
  refine rt_iast (pc := 38) dX10_chain_38 e21 ?_
  exact rX10_chain_39 hf
noncomputable def fX10_chain (E : ah_E) (a0 : Option Nat) (a1 : Int32) (a2 : Int32) (h : ah_H) : Option ah_H := if hp_rcv h a0 11 = false then none else bX10_chain_0 E a0 a1 a2 h
set_option maxRecDepth 20000 in
set_option maxHeartbeats 4000000 in
theorem sX10_chain {X : ah_X} (d : Nat) (hd : 0 ≤ d) {a0 : Option Nat} {a1 : Int32} {a2 : Int32} {h : ah_H} {h2 : ah_H} (hf : fX10_chain X.2.2.2 a0 a1 a2 h = some h2) : hp_rcv h a0 11 = true ∧ Rn X yX10_chain cX10_chain 3 none d [va_rf a0, .int a1, .int a2] h none h2 := by
  unfold fX10_chain at hf
  by_cases c0 : hp_rcv h a0 11 = false
  · rw [if_pos c0] at hf; cases hf
  rw [if_neg c0] at hf
  refine ⟨(Bool.not_eq_false _).mp c0, ?_⟩
  exact Rn.of2 me_X10_chain (by simp [lg_sl, rt_cat, cat_i, cat_l]) rfl (l := [(0, va_rf a0), (1, .int a1), (2, .int a2)]) (by simp [lv_args, rt_cat, cat_i, cat_l]) (rX10_chain_0 hf)
noncomputable def bX10_letter_0 (E : ah_E) (a0 : Option Nat) (a1 : Int32) (a2 : Int32) (a3 : Int64) (a5 : Int64) (h : ah_H) : Option ah_H :=
  (hp_gi h a0 11 40).bind fun v1 =>
  (hp_gr h a0 11 39).bind fun v3 =>
  (hp_ldi h v3 v1).bind fun v5 =>
  (hp_pv h a0 11 40 (.int v5)).bind fun w7 =>
  (hp_gr w7 a0 11 36).bind fun v9 =>
  (hp_sti w7 v9 v1 a2).bind fun w11 =>
  (hp_gr w11 a0 11 37).bind fun v13 =>
  (hp_stl w11 v13 v1 a3).bind fun w15 =>
  (hp_gr w15 a0 11 38).bind fun v17 =>
  (hp_stl w15 v17 v1 a5).bind fun w19 =>
  (fX10_chain E a0 a1 v1 w19).bind fun w22 =>
  (hp_gr w22 a0 11 27).bind fun v24 =>
  (hp_sti w22 v24 a1 (-1 : Int32)).bind fun w26 =>
  some w26
set_option maxRecDepth 20000 in
set_option maxHeartbeats 4000000 in
theorem rX10_letter_0 {X : ah_X} {d : Nat} (hd : 0 ≤ d) {a0 : Option Nat} {a1 : Int32} {a2 : Int32} {a3 : Int64} {a5 : Int64} {h : ah_H} {h2 : ah_H} (hf : bX10_letter_0 X.2.2.2 a0 a1 a2 a3 a5 h = some h2) : Rt X yX10_letter cX10_letter 8 (d + 1) 0 [(0, va_rf a0), (1, .int a1), (2, .int a2), (3, .long a3), (5, .long a5)] [] h none h2 := by
  unfold bX10_letter_0 at hf
  refine rt_aload_n (pc := 0) (k0 := 0) (x := a0) 0 rfl dX10_letter_0 ?_
  obtain ⟨v1, e2, hf⟩ := ob1 hf
  refine rt_gi (pc := 1) fd_X10_286 dX10_letter_1 e2 ?_
  refine rt_istore (pc := 4) (i := 7) (x := v1) (l2 := [(7, .int v1), (0, va_rf a0), (1, .int a1), (2, .int a2), (3, .long a3), (5, .long a5)]) (by decide) (by first | rfl | (simp [rt_cat, cat_i, cat_l]; done) | (simp [rt_cat, cat_i, cat_l]; decide)) dX10_letter_4 ?_
  refine rt_aload_n (pc := 6) (k0 := 0) (x := a0) 1 rfl dX10_letter_6 ?_
  refine rt_aload_n (pc := 7) (k0 := 0) (x := a0) 1 rfl dX10_letter_7 ?_
  obtain ⟨v3, e4, hf⟩ := ob1 hf
  refine rt_gr (pc := 8) fd_X10_176 dX10_letter_8 e4 ?_
  refine rt_iload (pc := 11) (i := 7) (x := v1) 0 rfl dX10_letter_11 ?_
  obtain ⟨v5, e6, hf⟩ := ob1 hf
  refine rt_iald (pc := 13) dX10_letter_13 e6 ?_
  obtain ⟨w7, e8, hf⟩ := ob1 hf
  refine rt_putf (pc := 14) (x := a0) fw_X10_286 (Or.inl rfl) (pf_i _).1 (pf_i _).2 dX10_letter_14 e8 ?_
  refine rt_aload_n (pc := 17) (k0 := 0) (x := a0) 1 rfl dX10_letter_17 ?_
  obtain ⟨v9, e10, hf⟩ := ob1 hf
  refine rt_gr (pc := 18) fd_X10_167 dX10_letter_18 e10 ?_
  refine rt_iload (pc := 21) (i := 7) (x := v1) 0 rfl dX10_letter_21 ?_
  refine rt_iload_n (pc := 23) (k0 := 2) (x := a2) 3 rfl dX10_letter_23 ?_
  obtain ⟨w11, e12, hf⟩ := ob1 hf
  refine rt_iast (pc := 24) dX10_letter_24 e12 ?_
  refine rt_aload_n (pc := 25) (k0 := 0) (x := a0) 1 rfl dX10_letter_25 ?_
  obtain ⟨v13, e14, hf⟩ := ob1 hf
  refine rt_gr (pc := 26) fd_X10_170 dX10_letter_26 e14 ?_
  refine rt_iload (pc := 29) (i := 7) (x := v1) 0 rfl dX10_letter_29 ?_
  refine rt_lload_n (pc := 31) (k0 := 3) (x := a3) 4 rfl dX10_letter_31 ?_
  obtain ⟨w15, e16, hf⟩ := ob1 hf
  refine rt_last (pc := 32) dX10_letter_32 e16 ?_
  refine rt_aload_n (pc := 33) (k0 := 0) (x := a0) 1 rfl dX10_letter_33 ?_
  obtain ⟨v17, e18, hf⟩ := ob1 hf
  refine rt_gr (pc := 34) fd_X10_173 dX10_letter_34 e18 ?_
  refine rt_iload (pc := 37) (i := 7) (x := v1) 0 rfl dX10_letter_37 ?_
  refine rt_lload (pc := 39) (i := 5) (x := a5) 5 rfl dX10_letter_39 ?_
  obtain ⟨w19, e20, hf⟩ := ob1 hf
  refine rt_last (pc := 41) dX10_letter_41 e20 ?_
  refine rt_aload_n (pc := 42) (k0 := 0) (x := a0) 1 rfl dX10_letter_42 ?_
  refine rt_iload_n (pc := 43) (k0 := 1) (x := a1) 2 rfl dX10_letter_43 ?_
  refine rt_iload (pc := 44) (i := 7) (x := v1) 0 rfl dX10_letter_44 ?_
  obtain ⟨w22, e21, hf⟩ := ob1 hf
  have g23 := sX10_chain d (by omega) e21
  refine rt_callV (pc := 46) (As := [.int a1, .int v1]) (st := []) me_X10_chain mi_X10_chain wl_X10_289 dX10_letter_46 rfl (by decide) rfl g23.1 g23.2 ?_
  refine rt_aload_n (pc := 49) (k0 := 0) (x := a0) 1 rfl dX10_letter_49 ?_
  obtain ⟨v24, e25, hf⟩ := ob1 hf
  refine rt_gr (pc := 50) fd_X10_148 dX10_letter_50 e25 ?_
  refine rt_iload_n (pc := 53) (k0 := 1) (x := a1) 2 rfl dX10_letter_53 ?_
  refine rt_iconst (pc := 54) (n := -1) (v := (-1 : Int32)) (by decide) dX10_letter_54 ?_
  obtain ⟨w26, e27, hf⟩ := ob1 hf
  refine rt_iast (pc := 55) dX10_letter_55 e27 ?_
  cases hf
  exact rt_ret (pc := 56) dX10_letter_56 rfl
noncomputable def fX10_letter (E : ah_E) (a0 : Option Nat) (a1 : Int32) (a2 : Int32) (a3 : Int64) (a5 : Int64) (h : ah_H) : Option ah_H := if hp_rcv h a0 11 = false then none else bX10_letter_0 E a0 a1 a2 a3 a5 h
set_option maxRecDepth 20000 in
set_option maxHeartbeats 4000000 in
theorem sX10_letter {X : ah_X} (d : Nat) (hd : 1 ≤ d) {a0 : Option Nat} {a1 : Int32} {a2 : Int32} {a3 : Int64} {a5 : Int64} {h : ah_H} {h2 : ah_H} (hf : fX10_letter X.2.2.2 a0 a1 a2 a3 a5 h = some h2) : hp_rcv h a0 11 = true ∧ Rn X yX10_letter cX10_letter 8 none d [va_rf a0, .int a1, .int a2, .long a3, .long a5] h none h2 := by
  unfold fX10_letter at hf
  by_cases c0 : hp_rcv h a0 11 = false
  · rw [if_pos c0] at hf; cases hf
  rw [if_neg c0] at hf
  refine ⟨(Bool.not_eq_false _).mp c0, ?_⟩
  obtain ⟨d, rfl⟩ : ∃ k, d = k + 1 := ⟨d - 1, by omega⟩
  exact Rn.of2 me_X10_letter (by simp [lg_sl, rt_cat, cat_i, cat_l]) rfl (l := [(0, va_rf a0), (1, .int a1), (2, .int a2), (3, .long a3), (5, .long a5)]) (by simp [lv_args, rt_cat, cat_i, cat_l]) (rX10_letter_0 (by omega) hf)
noncomputable def bX10_comes_148 (E : ah_E) (h : ah_H) : Option ah_H :=
  some h
set_option maxRecDepth 20000 in
set_option maxHeartbeats 4000000 in
theorem rX10_comes_148 {X : ah_X} {d : Nat} (hd : 1 ≤ d)  {h : ah_H} {h2 : ah_H} (hf : bX10_comes_148 X.2.2.2  h = some h2) : Rt X yX10_comes cX10_comes 13 (d + 1) 148 [] [] h none h2 := by
  unfold bX10_comes_148 at hf
  cases hf
  exact rt_ret (pc := 148) dX10_comes_148 rfl
noncomputable def bX10_comes_118 (E : ah_E) (k31 : Option Nat → Int32 → Int32 → Int64 → Int64 → Int32 → ah_H → Option ah_H) (a0 : Option Nat) (a1 : Int32) (a2 : Int32) (a5 : Int64) (a7 : Int64) (a9 : Int32) (a10 : Int32) (s0 : Int64) (h : ah_H) : Option ah_H :=
  (fX10_letter E a0 a1 a2 a7 s0 h).bind fun w2 =>
  if a10 = 0 then
    k31 a0 a1 a2 a5 (s0 + (1 : Int64)) (a9 + 1) w2
  else
  some w2
set_option maxRecDepth 20000 in
set_option maxHeartbeats 4000000 in
theorem rX10_comes_118 {X : ah_X} {d : Nat} (hd : 1 ≤ d) {k31 : Option Nat → Int32 → Int32 → Int64 → Int64 → Int32 → ah_H → Option ah_H} (hk31 : ∀ (x0 : Option Nat) (x1 : Int32) (x2 : Int32) (x3 : Int64) (x4 : Int64) (x5 : Int32) (h : ah_H) (h2 : ah_H), k31 x0 x1 x2 x3 x4 x5 h = some h2 → Rt X yX10_comes cX10_comes 13 (d + 1) 31 [(0, va_rf x0), (1, .int x1), (2, .int x2), (5, .long x3), (7, .long x4), (9, .int x5)] [] h none h2) {a0 : Option Nat} {a1 : Int32} {a2 : Int32} {a5 : Int64} {a7 : Int64} {a9 : Int32} {a10 : Int32} {s0 : Int64} {h : ah_H} {h2 : ah_H} (hf : bX10_comes_118 X.2.2.2 k31 a0 a1 a2 a5 a7 a9 a10 s0 h = some h2) : Rt X yX10_comes cX10_comes 13 (d + 1) 118 [(0, va_rf a0), (1, .int a1), (2, .int a2), (5, .long a5), (7, .long a7), (9, .int a9), (10, .int a10)] [.long s0] h none h2 := by
  unfold bX10_comes_118 at hf
  refine rt_lstore (pc := 118) (i := 11) (x := s0) (l2 := [(11, .long s0), (0, va_rf a0), (1, .int a1), (2, .int a2), (5, .long a5), (7, .long a7), (9, .int a9), (10, .int a10)]) (by decide) (by first | rfl | (simp [rt_cat, cat_i, cat_l]; done) | (simp [rt_cat, cat_i, cat_l]; decide)) dX10_comes_118 ?_
  refine rt_aload_n (pc := 120) (k0 := 0) (x := a0) 1 rfl dX10_comes_120 ?_
  refine rt_iload_n (pc := 121) (k0 := 1) (x := a1) 2 rfl dX10_comes_121 ?_
  refine rt_iload_n (pc := 122) (k0 := 2) (x := a2) 3 rfl dX10_comes_122 ?_
  refine rt_lload (pc := 123) (i := 7) (x := a7) 5 rfl dX10_comes_123 ?_
  refine rt_lload (pc := 125) (i := 11) (x := s0) 0 rfl dX10_comes_125 ?_
  obtain ⟨w2, e1, hf⟩ := ob1 hf
  have g3 := sX10_letter d (by omega) e1
  refine rt_callV (pc := 127) (As := [.int a1, .int a2, .long a7, .long s0]) (st := []) me_X10_letter mi_X10_letter wl_X10_303 dX10_comes_127 rfl (by decide) rfl g3.1 g3.2 ?_
  refine rt_iload (pc := 130) (i := 10) (x := a10) 7 rfl dX10_comes_130 ?_
  by_cases c4 : a10 = 0
  · rw [if_pos c4] at hf
    refine rt_if_eq_p (pc := 132) (x := a10) (tgt := 136) (by decide) dX10_comes_132 c4 ?_
    refine rt_lload (pc := 136) (i := 11) (x := s0) 0 rfl dX10_comes_136 ?_
    refine rt_lconst (pc := 138) (n := 1) (v := (1 : Int64)) (by decide) dX10_comes_138 ?_
    refine rt_ladd (pc := 139) (x := s0) (z := (1 : Int64)) dX10_comes_139 ?_
    refine rt_lstore (pc := 140) (i := 7) (x := (s0 + (1 : Int64))) (l2 := [(7, .long (s0 + (1 : Int64))), (11, .long s0), (0, va_rf a0), (1, .int a1), (2, .int a2), (5, .long a5), (9, .int a9), (10, .int a10)]) (by decide) (by first | rfl | (simp [rt_cat, cat_i, cat_l]; done) | (simp [rt_cat, cat_i, cat_l]; decide)) dX10_comes_140 ?_
    refine rt_iinc (pc := 142) (i := 9) (n := 1) (x := a9) (v := (a9 + 1)) (l2 := [(9, .int (a9 + 1)), (7, .long (s0 + (1 : Int64))), (11, .long s0), (0, va_rf a0), (1, .int a1), (2, .int a2), (5, .long a5), (10, .int a10)]) 6 rfl rfl (by decide) (by first | rfl | (simp [rt_cat, cat_i, cat_l]; done) | (simp [rt_cat, cat_i, cat_l]; decide)) dX10_comes_142 ?_
    refine rt_goto (pc := 145) (tgt := 31) (by decide) dX10_comes_145 ?_
    exact rt_locals (rt_sub [3, 4, 5, 6, 1, 0] rfl) (hk31 _ _ _ _ _ _ _ _ hf)
  rw [if_neg c4] at hf
  refine rt_if_eq_n (pc := 132) (x := a10) (tgt := 136) (by decide) dX10_comes_132 c4 ?_
  cases hf
  exact rt_ret (pc := 135) dX10_comes_135 rfl
noncomputable def bX10_comes_89 (E : ah_E) (k31 : Option Nat → Int32 → Int32 → Int64 → Int64 → Int32 → ah_H → Option ah_H) (a0 : Option Nat) (a1 : Int32) (a2 : Int32) (a5 : Int64) (a7 : Int64) (a9 : Int32) (s0 : Int32) (h : ah_H) : Option ah_H :=
  if s0 = 0 then
    (hp_gr h a0 11 23).bind fun v2 =>
    (hp_ldl h v2 ((((128 : Int32) * a1) + a9) + (1 : Int32))).bind fun v4 =>
    bX10_comes_118 E k31 a0 a1 a2 a5 a7 a9 s0 (v4 - (1 : Int64)) h
  else
  bX10_comes_118 E k31 a0 a1 a2 a5 a7 a9 s0 a5 h
set_option maxRecDepth 20000 in
set_option maxHeartbeats 4000000 in
theorem rX10_comes_89 {X : ah_X} {d : Nat} (hd : 1 ≤ d) {k31 : Option Nat → Int32 → Int32 → Int64 → Int64 → Int32 → ah_H → Option ah_H} (hk31 : ∀ (x0 : Option Nat) (x1 : Int32) (x2 : Int32) (x3 : Int64) (x4 : Int64) (x5 : Int32) (h : ah_H) (h2 : ah_H), k31 x0 x1 x2 x3 x4 x5 h = some h2 → Rt X yX10_comes cX10_comes 13 (d + 1) 31 [(0, va_rf x0), (1, .int x1), (2, .int x2), (5, .long x3), (7, .long x4), (9, .int x5)] [] h none h2) {a0 : Option Nat} {a1 : Int32} {a2 : Int32} {a5 : Int64} {a7 : Int64} {a9 : Int32} {s0 : Int32} {h : ah_H} {h2 : ah_H} (hf : bX10_comes_89 X.2.2.2 k31 a0 a1 a2 a5 a7 a9 s0 h = some h2) : Rt X yX10_comes cX10_comes 13 (d + 1) 89 [(0, va_rf a0), (1, .int a1), (2, .int a2), (5, .long a5), (7, .long a7), (9, .int a9)] [.int s0] h none h2 := by
  unfold bX10_comes_89 at hf
  refine rt_istore (pc := 89) (i := 10) (x := s0) (l2 := [(10, .int s0), (0, va_rf a0), (1, .int a1), (2, .int a2), (5, .long a5), (7, .long a7), (9, .int a9)]) (by decide) (by first | rfl | (simp [rt_cat, cat_i, cat_l]; done) | (simp [rt_cat, cat_i, cat_l]; decide)) dX10_comes_89 ?_
  refine rt_iload (pc := 91) (i := 10) (x := s0) 0 rfl dX10_comes_91 ?_
  by_cases c1 : s0 = 0
  · rw [if_pos c1] at hf
    refine rt_if_eq_p (pc := 93) (x := s0) (tgt := 101) (by decide) dX10_comes_93 c1 ?_
    refine rt_aload_n (pc := 101) (k0 := 0) (x := a0) 1 rfl dX10_comes_101 ?_
    obtain ⟨v2, e3, hf⟩ := ob1 hf
    refine rt_gr (pc := 102) fd_X10_136 dX10_comes_102 e3 ?_
    refine rt_sipush (pc := 105) (n := 128) (v := (128 : Int32)) (by decide) dX10_comes_105 ?_
    refine rt_iload_n (pc := 108) (k0 := 1) (x := a1) 2 rfl dX10_comes_108 ?_
    refine rt_imul (pc := 109) (x := (128 : Int32)) (z := a1) dX10_comes_109 ?_
    refine rt_iload (pc := 110) (i := 9) (x := a9) 6 rfl dX10_comes_110 ?_
    refine rt_iadd (pc := 112) (x := ((128 : Int32) * a1)) (z := a9) dX10_comes_112 ?_
    refine rt_iconst (pc := 113) (n := 1) (v := (1 : Int32)) (by decide) dX10_comes_113 ?_
    refine rt_iadd (pc := 114) (x := (((128 : Int32) * a1) + a9)) (z := (1 : Int32)) dX10_comes_114 ?_
    obtain ⟨v4, e5, hf⟩ := ob1 hf
    refine rt_lald (pc := 115) dX10_comes_115 e5 ?_
    refine rt_lconst (pc := 116) (n := 1) (v := (1 : Int64)) (by decide) dX10_comes_116 ?_
    refine rt_lsub (pc := 117) (x := v4) (z := (1 : Int64)) dX10_comes_117 ?_
    exact rt_locals (rt_sub [1, 2, 3, 4, 5, 6, 0] rfl) (rX10_comes_118 hd hk31 hf)
  rw [if_neg c1] at hf
  refine rt_if_eq_n (pc := 93) (x := s0) (tgt := 101) (by decide) dX10_comes_93 c1 ?_
  refine rt_lload (pc := 96) (i := 5) (x := a5) 4 rfl dX10_comes_96 ?_
  refine rt_goto (pc := 98) (tgt := 118) (by decide) dX10_comes_98 ?_
  exact rt_locals (rt_sub [1, 2, 3, 4, 5, 6, 0] rfl) (rX10_comes_118 hd hk31 hf)
noncomputable def bX10_comes_84 (E : ah_E) (k31 : Option Nat → Int32 → Int32 → Int64 → Int64 → Int32 → ah_H → Option ah_H) (a0 : Option Nat) (a1 : Int32) (a2 : Int32) (a5 : Int64) (a7 : Int64) (a9 : Int32) (h : ah_H) : Option ah_H :=
  bX10_comes_89 E k31 a0 a1 a2 a5 a7 a9 (1 : Int32) h
set_option maxRecDepth 20000 in
set_option maxHeartbeats 4000000 in
theorem rX10_comes_84 {X : ah_X} {d : Nat} (hd : 1 ≤ d) {k31 : Option Nat → Int32 → Int32 → Int64 → Int64 → Int32 → ah_H → Option ah_H} (hk31 : ∀ (x0 : Option Nat) (x1 : Int32) (x2 : Int32) (x3 : Int64) (x4 : Int64) (x5 : Int32) (h : ah_H) (h2 : ah_H), k31 x0 x1 x2 x3 x4 x5 h = some h2 → Rt X yX10_comes cX10_comes 13 (d + 1) 31 [(0, va_rf x0), (1, .int x1), (2, .int x2), (5, .long x3), (7, .long x4), (9, .int x5)] [] h none h2) {a0 : Option Nat} {a1 : Int32} {a2 : Int32} {a5 : Int64} {a7 : Int64} {a9 : Int32} {h : ah_H} {h2 : ah_H} (hf : bX10_comes_84 X.2.2.2 k31 a0 a1 a2 a5 a7 a9 h = some h2) : Rt X yX10_comes cX10_comes 13 (d + 1) 84 [(0, va_rf a0), (1, .int a1), (2, .int a2), (5, .long a5), (7, .long a7), (9, .int a9)] [] h none h2 := by
  unfold bX10_comes_84 at hf
  refine rt_iconst (pc := 84) (n := 1) (v := (1 : Int32)) (by decide) dX10_comes_84 ?_
  refine rt_goto (pc := 85) (tgt := 89) (by decide) dX10_comes_85 ?_
  exact rX10_comes_89 hd hk31 hf
noncomputable def bX10_comes_31 (E : ah_E) : Nat → Option Nat → Int32 → Int32 → Int64 → Int64 → Int32 → ah_H → Option ah_H
  | 0 => fun _ _ _ _ _ _ _ => none
  | n + 1 => fun a0 a1 a2 a5 a7 a9 h =>
  (hp_gr h a0 11 21).bind fun v1 =>
  (hp_ldi h v1 a1).bind fun v3 =>
  if v3 ≤ a9 then
    bX10_comes_148 E  h
  else
  if a5 < a7 then
    bX10_comes_148 E  h
  else
  (hp_gr h a0 11 21).bind fun v7 =>
  (hp_ldi h v7 a1).bind fun v9 =>
  if (a9 + (1 : Int32)) = v9 then
    bX10_comes_84 E (bX10_comes_31 E n) a0 a1 a2 a5 a7 a9 h
  else
  (hp_gr h a0 11 23).bind fun v12 =>
  (hp_ldl h v12 ((((128 : Int32) * a1) + a9) + (1 : Int32))).bind fun v14 =>
  if v14 ≤ a5 then
    bX10_comes_89 E (bX10_comes_31 E n) a0 a1 a2 a5 a7 a9 (0 : Int32) h
  else
  bX10_comes_84 E (bX10_comes_31 E n) a0 a1 a2 a5 a7 a9 h
set_option maxRecDepth 20000 in
set_option maxHeartbeats 4000000 in
theorem rX10_comes_31 {X : ah_X} {d : Nat} (hd : 1 ≤ d) (n : Nat) : ∀ (a0 : Option Nat) (a1 : Int32) (a2 : Int32) (a5 : Int64) (a7 : Int64) (a9 : Int32) (h : ah_H) (h2 : ah_H), bX10_comes_31 X.2.2.2 n a0 a1 a2 a5 a7 a9 h = some h2 → Rt X yX10_comes cX10_comes 13 (d + 1) 31 [(0, va_rf a0), (1, .int a1), (2, .int a2), (5, .long a5), (7, .long a7), (9, .int a9)] [] h none h2 := by
  induction n with
  | zero => intro a0 a1 a2 a5 a7 a9 h h2 hf; cases hf
  | succ n ih =>
  intro a0 a1 a2 a5 a7 a9 h h2 hf
  unfold bX10_comes_31 at hf
  refine rt_iload (pc := 31) (i := 9) (x := a9) 5 rfl dX10_comes_31 ?_
  refine rt_aload_n (pc := 33) (k0 := 0) (x := a0) 0 rfl dX10_comes_33 ?_
  obtain ⟨v1, e2, hf⟩ := ob1 hf
  refine rt_gr (pc := 34) fd_X10_129 dX10_comes_34 e2 ?_
  refine rt_iload_n (pc := 37) (k0 := 1) (x := a1) 1 rfl dX10_comes_37 ?_
  obtain ⟨v3, e4, hf⟩ := ob1 hf
  refine rt_iald (pc := 38) dX10_comes_38 e4 ?_
  by_cases c5 : v3 ≤ a9
  · rw [if_pos c5] at hf
    refine rt_icmp_ge_p (pc := 39) (x := a9) (z := v3) (tgt := 148) (by decide) dX10_comes_39 c5 ?_
    exact rt_locals (rt_sub [] rfl) (rX10_comes_148 hd hf)
  rw [if_neg c5] at hf
  refine rt_icmp_ge_n (pc := 39) (x := a9) (z := v3) (tgt := 148) (by decide) dX10_comes_39 c5 ?_
  refine rt_lload (pc := 42) (i := 7) (x := a7) 4 rfl dX10_comes_42 ?_
  refine rt_lload (pc := 44) (i := 5) (x := a5) 3 rfl dX10_comes_44 ?_
  by_cases c6 : a5 < a7
  · rw [if_pos c6] at hf
    refine rt_lif_gt_p (pc := 46) (x := a7) (z := a5) (tgt := 148) (by decide) dX10_comes_46 dX10_comes_47 c6 ?_
    exact rt_locals (rt_sub [] rfl) (rX10_comes_148 hd hf)
  rw [if_neg c6] at hf
  refine rt_lif_gt_n (pc := 46) (x := a7) (z := a5) (tgt := 148) (by decide) dX10_comes_46 dX10_comes_47 c6 ?_
  refine rt_iload (pc := 50) (i := 9) (x := a9) 5 rfl dX10_comes_50 ?_
  refine rt_iconst (pc := 52) (n := 1) (v := (1 : Int32)) (by decide) dX10_comes_52 ?_
  refine rt_iadd (pc := 53) (x := a9) (z := (1 : Int32)) dX10_comes_53 ?_
  refine rt_aload_n (pc := 54) (k0 := 0) (x := a0) 0 rfl dX10_comes_54 ?_
  obtain ⟨v7, e8, hf⟩ := ob1 hf
  refine rt_gr (pc := 55) fd_X10_129 dX10_comes_55 e8 ?_
  refine rt_iload_n (pc := 58) (k0 := 1) (x := a1) 1 rfl dX10_comes_58 ?_
  obtain ⟨v9, e10, hf⟩ := ob1 hf
  refine rt_iald (pc := 59) dX10_comes_59 e10 ?_
  by_cases c11 : (a9 + (1 : Int32)) = v9
  · rw [if_pos c11] at hf
    refine rt_icmp_eq_p (pc := 60) (x := (a9 + (1 : Int32))) (z := v9) (tgt := 84) (by decide) dX10_comes_60 c11 ?_
    exact rX10_comes_84 hd ih hf
  rw [if_neg c11] at hf
  refine rt_icmp_eq_n (pc := 60) (x := (a9 + (1 : Int32))) (z := v9) (tgt := 84) (by decide) dX10_comes_60 c11 ?_
  refine rt_aload_n (pc := 63) (k0 := 0) (x := a0) 0 rfl dX10_comes_63 ?_
  obtain ⟨v12, e13, hf⟩ := ob1 hf
  refine rt_gr (pc := 64) fd_X10_136 dX10_comes_64 e13 ?_
  refine rt_sipush (pc := 67) (n := 128) (v := (128 : Int32)) (by decide) dX10_comes_67 ?_
  refine rt_iload_n (pc := 70) (k0 := 1) (x := a1) 1 rfl dX10_comes_70 ?_
  refine rt_imul (pc := 71) (x := (128 : Int32)) (z := a1) dX10_comes_71 ?_
  refine rt_iload (pc := 72) (i := 9) (x := a9) 5 rfl dX10_comes_72 ?_
  refine rt_iadd (pc := 74) (x := ((128 : Int32) * a1)) (z := a9) dX10_comes_74 ?_
  refine rt_iconst (pc := 75) (n := 1) (v := (1 : Int32)) (by decide) dX10_comes_75 ?_
  refine rt_iadd (pc := 76) (x := (((128 : Int32) * a1) + a9)) (z := (1 : Int32)) dX10_comes_76 ?_
  obtain ⟨v14, e15, hf⟩ := ob1 hf
  refine rt_lald (pc := 77) dX10_comes_77 e15 ?_
  refine rt_lload (pc := 78) (i := 5) (x := a5) 3 rfl dX10_comes_78 ?_
  by_cases c16 : v14 ≤ a5
  · rw [if_pos c16] at hf
    refine rt_lif_le_p (pc := 80) (x := v14) (z := a5) (tgt := 88) (by decide) dX10_comes_80 dX10_comes_81 c16 ?_
    refine rt_iconst (pc := 88) (n := 0) (v := (0 : Int32)) (by decide) dX10_comes_88 ?_
    exact rX10_comes_89 hd ih hf
  rw [if_neg c16] at hf
  refine rt_lif_le_n (pc := 80) (x := v14) (z := a5) (tgt := 88) (by decide) dX10_comes_80 dX10_comes_81 c16 ?_
  exact rX10_comes_84 hd ih hf
noncomputable def bX10_comes_0 (E : ah_E) (a0 : Option Nat) (a1 : Int32) (a2 : Int32) (a3 : Int64) (a5 : Int64) (h : ah_H) : Option ah_H :=
  (hp_gr h a0 11 8).bind fun v1 =>
  (hp_ldi h v1 a2).bind fun v3 =>
  if v3 = (5 : Int32) then
    ob2 (fX10_kidFor E a0 a1 a3 h) fun v8 w7 =>
    bX10_comes_31 E zf a0 a1 a2 a5 a3 v8 w7
  else
  (fX10_letter E a0 a1 a2 a3 a5 h).bind fun w11 =>
  some w11
set_option maxRecDepth 20000 in
set_option maxHeartbeats 4000000 in
theorem rX10_comes_0 {X : ah_X} {d : Nat} (hd : 1 ≤ d) {a0 : Option Nat} {a1 : Int32} {a2 : Int32} {a3 : Int64} {a5 : Int64} {h : ah_H} {h2 : ah_H} (hf : bX10_comes_0 X.2.2.2 a0 a1 a2 a3 a5 h = some h2) : Rt X yX10_comes cX10_comes 13 (d + 1) 0 [(0, va_rf a0), (1, .int a1), (2, .int a2), (3, .long a3), (5, .long a5)] [] h none h2 := by
  unfold bX10_comes_0 at hf
  refine rt_aload_n (pc := 0) (k0 := 0) (x := a0) 0 rfl dX10_comes_0 ?_
  obtain ⟨v1, e2, hf⟩ := ob1 hf
  refine rt_gr (pc := 1) fd_X10_46 dX10_comes_1 e2 ?_
  refine rt_iload_n (pc := 4) (k0 := 2) (x := a2) 2 rfl dX10_comes_4 ?_
  obtain ⟨v3, e4, hf⟩ := ob1 hf
  refine rt_iald (pc := 5) dX10_comes_5 e4 ?_
  refine rt_iconst (pc := 6) (n := 5) (v := (5 : Int32)) (by decide) dX10_comes_6 ?_
  by_cases c5 : v3 = (5 : Int32)
  · rw [if_pos c5] at hf
    refine rt_icmp_eq_p (pc := 7) (x := v3) (z := (5 : Int32)) (tgt := 20) (by decide) dX10_comes_7 c5 ?_
    refine rt_lload_n (pc := 20) (k0 := 3) (x := a3) 3 rfl dX10_comes_20 ?_
    refine rt_lstore (pc := 21) (i := 7) (x := a3) (l2 := [(7, .long a3), (0, va_rf a0), (1, .int a1), (2, .int a2), (3, .long a3), (5, .long a5)]) (by decide) (by first | rfl | (simp [rt_cat, cat_i, cat_l]; done) | (simp [rt_cat, cat_i, cat_l]; decide)) dX10_comes_21 ?_
    refine rt_aload_n (pc := 23) (k0 := 0) (x := a0) 1 rfl dX10_comes_23 ?_
    refine rt_iload_n (pc := 24) (k0 := 1) (x := a1) 2 rfl dX10_comes_24 ?_
    refine rt_lload_n (pc := 25) (k0 := 3) (x := a3) 4 rfl dX10_comes_25 ?_
    obtain ⟨v8, w7, e6, hf⟩ := ob2_of hf
    have g9 := sX10_kidFor d (by omega) e6
    refine rt_callV (pc := 26) (As := [.int a1, .long a3]) (st := []) me_X10_kidFor mi_X10_kidFor wl_X10_307 dX10_comes_26 rfl (by decide) rfl g9.1 g9.2 ?_
    refine rt_istore (pc := 29) (i := 9) (x := v8) (l2 := [(9, .int v8), (7, .long a3), (0, va_rf a0), (1, .int a1), (2, .int a2), (3, .long a3), (5, .long a5)]) (by decide) (by first | rfl | (simp [rt_cat, cat_i, cat_l]; done) | (simp [rt_cat, cat_i, cat_l]; decide)) dX10_comes_29 ?_
    exact rt_locals (rt_sub [2, 3, 4, 6, 1, 0] rfl) (rX10_comes_31 hd zf _ _ _ _ _ _ _ _ hf)
  rw [if_neg c5] at hf
  refine rt_icmp_eq_n (pc := 7) (x := v3) (z := (5 : Int32)) (tgt := 20) (by decide) dX10_comes_7 c5 ?_
  refine rt_aload_n (pc := 10) (k0 := 0) (x := a0) 0 rfl dX10_comes_10 ?_
  refine rt_iload_n (pc := 11) (k0 := 1) (x := a1) 1 rfl dX10_comes_11 ?_
  refine rt_iload_n (pc := 12) (k0 := 2) (x := a2) 2 rfl dX10_comes_12 ?_
  refine rt_lload_n (pc := 13) (k0 := 3) (x := a3) 3 rfl dX10_comes_13 ?_
  refine rt_lload (pc := 14) (i := 5) (x := a5) 4 rfl dX10_comes_14 ?_
  obtain ⟨w11, e10, hf⟩ := ob1 hf
  have g12 := sX10_letter d (by omega) e10
  refine rt_callV (pc := 16) (As := [.int a1, .int a2, .long a3, .long a5]) (st := []) me_X10_letter mi_X10_letter wl_X10_303 dX10_comes_16 rfl (by decide) rfl g12.1 g12.2 ?_
  cases hf
  exact rt_ret (pc := 19) dX10_comes_19 rfl
noncomputable def fX10_comes (E : ah_E) (a0 : Option Nat) (a1 : Int32) (a2 : Int32) (a3 : Int64) (a5 : Int64) (h : ah_H) : Option ah_H := if hp_rcv h a0 11 = false then none else bX10_comes_0 E a0 a1 a2 a3 a5 h
set_option maxRecDepth 20000 in
set_option maxHeartbeats 4000000 in
theorem sX10_comes {X : ah_X} (d : Nat) (hd : 2 ≤ d) {a0 : Option Nat} {a1 : Int32} {a2 : Int32} {a3 : Int64} {a5 : Int64} {h : ah_H} {h2 : ah_H} (hf : fX10_comes X.2.2.2 a0 a1 a2 a3 a5 h = some h2) : hp_rcv h a0 11 = true ∧ Rn X yX10_comes cX10_comes 13 none d [va_rf a0, .int a1, .int a2, .long a3, .long a5] h none h2 := by
  unfold fX10_comes at hf
  by_cases c0 : hp_rcv h a0 11 = false
  · rw [if_pos c0] at hf; cases hf
  rw [if_neg c0] at hf
  refine ⟨(Bool.not_eq_false _).mp c0, ?_⟩
  obtain ⟨d, rfl⟩ : ∃ k, d = k + 1 := ⟨d - 1, by omega⟩
  exact Rn.of2 me_X10_comes (by simp [lg_sl, rt_cat, cat_i, cat_l]) rfl (l := [(0, va_rf a0), (1, .int a1), (2, .int a2), (3, .long a3), (5, .long a5)]) (by simp [lv_args, rt_cat, cat_i, cat_l]) (rX10_comes_0 (by omega) hf)
noncomputable def bX10_isTooBig_43 (E : ah_E) (s0 : Int32) (h : ah_H) : Option (Int32 × ah_H) :=
  some (s0, h)
set_option maxRecDepth 20000 in
set_option maxHeartbeats 4000000 in
theorem rX10_isTooBig_43 {X : ah_X} {d : Nat} {s0 : Int32} {h : ah_H} {r : Int32} {h2 : ah_H} (hf : bX10_isTooBig_43 X.2.2.2 s0 h = some (r, h2)) : Rt X yX10_isTooBig cX10_isTooBig 2 d 43 [] [.int s0] h (some (.int r)) h2 := by
  unfold bX10_isTooBig_43 at hf
  cases hf
  exact rt_ret (pc := 43) dX10_isTooBig_43 rfl
noncomputable def bX10_isTooBig_0 (E : ah_E) (a0 : Option Nat) (a1 : Int32) (h : ah_H) : Option (Int32 × ah_H) :=
  (hp_gr h a0 11 18).bind fun v1 =>
  (hp_ldb h v1 a1).bind fun v3 =>
  if v3 = 0 then
    (hp_gr h a0 11 21).bind fun v6 =>
    (hp_ldi h v6 a1).bind fun v8 =>
    if v8 ≤ (5 : Int32) then
      bX10_isTooBig_43 E (0 : Int32) h
    else
    bX10_isTooBig_43 E (1 : Int32) h
  else
  (hp_gr h a0 11 20).bind fun v11 =>
  (hp_ldi h v11 a1).bind fun v13 =>
  if v13 ≤ (6 : Int32) then
    bX10_isTooBig_43 E (0 : Int32) h
  else
  bX10_isTooBig_43 E (1 : Int32) h
set_option maxRecDepth 20000 in
set_option maxHeartbeats 4000000 in
theorem rX10_isTooBig_0 {X : ah_X} {d : Nat} {a0 : Option Nat} {a1 : Int32} {h : ah_H} {r : Int32} {h2 : ah_H} (hf : bX10_isTooBig_0 X.2.2.2 a0 a1 h = some (r, h2)) : Rt X yX10_isTooBig cX10_isTooBig 2 d 0 [(0, va_rf a0), (1, .int a1)] [] h (some (.int r)) h2 := by
  unfold bX10_isTooBig_0 at hf
  refine rt_aload_n (pc := 0) (k0 := 0) (x := a0) 0 rfl dX10_isTooBig_0 ?_
  obtain ⟨v1, e2, hf⟩ := ob1 hf
  refine rt_gr (pc := 1) fd_X10_119 dX10_isTooBig_1 e2 ?_
  refine rt_iload_n (pc := 4) (k0 := 1) (x := a1) 1 rfl dX10_isTooBig_4 ?_
  obtain ⟨v3, e4, hf⟩ := ob1 hf
  refine rt_bald (pc := 5) dX10_isTooBig_5 e4 ?_
  by_cases c5 : v3 = 0
  · rw [if_pos c5] at hf
    refine rt_if_eq_p (pc := 6) (x := v3) (tgt := 28) (by decide) dX10_isTooBig_6 c5 ?_
    refine rt_aload_n (pc := 28) (k0 := 0) (x := a0) 0 rfl dX10_isTooBig_28 ?_
    obtain ⟨v6, e7, hf⟩ := ob1 hf
    refine rt_gr (pc := 29) fd_X10_129 dX10_isTooBig_29 e7 ?_
    refine rt_iload_n (pc := 32) (k0 := 1) (x := a1) 1 rfl dX10_isTooBig_32 ?_
    obtain ⟨v8, e9, hf⟩ := ob1 hf
    refine rt_iald (pc := 33) dX10_isTooBig_33 e9 ?_
    refine rt_iconst (pc := 34) (n := 5) (v := (5 : Int32)) (by decide) dX10_isTooBig_34 ?_
    by_cases c10 : v8 ≤ (5 : Int32)
    · rw [if_pos c10] at hf
      refine rt_icmp_le_p (pc := 35) (x := v8) (z := (5 : Int32)) (tgt := 42) (by decide) dX10_isTooBig_35 c10 ?_
      refine rt_iconst (pc := 42) (n := 0) (v := (0 : Int32)) (by decide) dX10_isTooBig_42 ?_
      exact rt_locals (rt_sub [] rfl) (rX10_isTooBig_43 hf)
    rw [if_neg c10] at hf
    refine rt_icmp_le_n (pc := 35) (x := v8) (z := (5 : Int32)) (tgt := 42) (by decide) dX10_isTooBig_35 c10 ?_
    refine rt_iconst (pc := 38) (n := 1) (v := (1 : Int32)) (by decide) dX10_isTooBig_38 ?_
    refine rt_goto (pc := 39) (tgt := 43) (by decide) dX10_isTooBig_39 ?_
    exact rt_locals (rt_sub [] rfl) (rX10_isTooBig_43 hf)
  rw [if_neg c5] at hf
  refine rt_if_eq_n (pc := 6) (x := v3) (tgt := 28) (by decide) dX10_isTooBig_6 c5 ?_
  refine rt_aload_n (pc := 9) (k0 := 0) (x := a0) 0 rfl dX10_isTooBig_9 ?_
  obtain ⟨v11, e12, hf⟩ := ob1 hf
  refine rt_gr (pc := 10) fd_X10_126 dX10_isTooBig_10 e12 ?_
  refine rt_iload_n (pc := 13) (k0 := 1) (x := a1) 1 rfl dX10_isTooBig_13 ?_
  obtain ⟨v13, e14, hf⟩ := ob1 hf
  refine rt_iald (pc := 14) dX10_isTooBig_14 e14 ?_
  refine rt_bipush (pc := 15) (n := 6) (v := (6 : Int32)) (by decide) dX10_isTooBig_15 ?_
  by_cases c15 : v13 ≤ (6 : Int32)
  · rw [if_pos c15] at hf
    refine rt_icmp_le_p (pc := 17) (x := v13) (z := (6 : Int32)) (tgt := 24) (by decide) dX10_isTooBig_17 c15 ?_
    refine rt_iconst (pc := 24) (n := 0) (v := (0 : Int32)) (by decide) dX10_isTooBig_24 ?_
    refine rt_goto (pc := 25) (tgt := 43) (by decide) dX10_isTooBig_25 ?_
    exact rt_locals (rt_sub [] rfl) (rX10_isTooBig_43 hf)
  rw [if_neg c15] at hf
  refine rt_icmp_le_n (pc := 17) (x := v13) (z := (6 : Int32)) (tgt := 24) (by decide) dX10_isTooBig_17 c15 ?_
  refine rt_iconst (pc := 20) (n := 1) (v := (1 : Int32)) (by decide) dX10_isTooBig_20 ?_
  refine rt_goto (pc := 21) (tgt := 43) (by decide) dX10_isTooBig_21 ?_
  exact rt_locals (rt_sub [] rfl) (rX10_isTooBig_43 hf)
noncomputable def fX10_isTooBig (E : ah_E) (a0 : Option Nat) (a1 : Int32) (h : ah_H) : Option (Int32 × ah_H) := if hp_rcv h a0 11 = false then none else zb (bX10_isTooBig_0 E a0 a1 h)
set_option maxRecDepth 20000 in
set_option maxHeartbeats 4000000 in
theorem sX10_isTooBig {X : ah_X} (d : Nat) (hd : 0 ≤ d) {a0 : Option Nat} {a1 : Int32} {h : ah_H} {r : Int32} {h2 : ah_H} (hf : fX10_isTooBig X.2.2.2 a0 a1 h = some (r, h2)) : hp_rcv h a0 11 = true ∧ Rn X yX10_isTooBig cX10_isTooBig 2 (some .boolean) d [va_rf a0, .int a1] h (some (.int r)) h2 := by
  unfold fX10_isTooBig at hf
  by_cases c0 : hp_rcv h a0 11 = false
  · rw [if_pos c0] at hf; cases hf
  rw [if_neg c0] at hf
  refine ⟨(Bool.not_eq_false _).mp c0, ?_⟩
  obtain ⟨hf, hz⟩ := zb_of hf
  exact Rn.of2 me_X10_isTooBig (by simp [lg_sl, rt_cat, cat_i, cat_l]) (ok_z hz) (l := [(0, va_rf a0), (1, .int a1)]) (by simp [lv_args, rt_cat, cat_i, cat_l]) (rX10_isTooBig_0 hf)
noncomputable def bX10_page_0 (E : ah_E) (a0 : Option Nat) (a1 : Int32) (h : ah_H) : Option (Int32 × ah_H) :=
  (hp_gi h a0 11 29).bind fun v1 =>
  (hp_pv h a0 11 29 (.int (v1 - (1 : Int32)))).bind fun w3 =>
  (hp_gr w3 a0 11 28).bind fun v5 =>
  (hp_gi w3 a0 11 29).bind fun v7 =>
  (hp_ldi w3 v5 v7).bind fun v9 =>
  (hp_gr w3 a0 11 18).bind fun v11 =>
  (hp_stb w3 v11 v9 a1).bind fun w13 =>
  (hp_gr w13 a0 11 19).bind fun v15 =>
  (hp_sti w13 v15 v9 (-1 : Int32)).bind fun w17 =>
  (hp_gr w17 a0 11 20).bind fun v19 =>
  (hp_sti w17 v19 v9 (0 : Int32)).bind fun w21 =>
  (hp_gr w21 a0 11 21).bind fun v23 =>
  (hp_sti w21 v23 v9 (0 : Int32)).bind fun w25 =>
  (hp_gr w25 a0 11 24).bind fun v27 =>
  (hp_sti w25 v27 v9 (-1 : Int32)).bind fun w29 =>
  (hp_gr w29 a0 11 25).bind fun v31 =>
  (hp_sti w29 v31 v9 (-1 : Int32)).bind fun w33 =>
  (hp_gr w33 a0 11 26).bind fun v35 =>
  (hp_sti w33 v35 v9 (0 : Int32)).bind fun w37 =>
  (hp_gr w37 a0 11 27).bind fun v39 =>
  (hp_sti w37 v39 v9 (-1 : Int32)).bind fun w41 =>
  some (v9, w41)
set_option maxRecDepth 20000 in
set_option maxHeartbeats 4000000 in
theorem rX10_page_0 {X : ah_X} {d : Nat} {a0 : Option Nat} {a1 : Int32} {h : ah_H} {r : Int32} {h2 : ah_H} (hf : bX10_page_0 X.2.2.2 a0 a1 h = some (r, h2)) : Rt X yX10_page cX10_page 3 d 0 [(0, va_rf a0), (1, .int a1)] [] h (some (.int r)) h2 := by
  unfold bX10_page_0 at hf
  refine rt_aload_n (pc := 0) (k0 := 0) (x := a0) 0 rfl dX10_page_0 ?_
  refine rt_dup (pc := 1) (rt_cat _) dX10_page_1 ?_
  obtain ⟨v1, e2, hf⟩ := ob1 hf
  refine rt_gi (pc := 2) fd_X10_280 dX10_page_2 e2 ?_
  refine rt_iconst (pc := 5) (n := 1) (v := (1 : Int32)) (by decide) dX10_page_5 ?_
  refine rt_isub (pc := 6) (x := v1) (z := (1 : Int32)) dX10_page_6 ?_
  obtain ⟨w3, e4, hf⟩ := ob1 hf
  refine rt_putf (pc := 7) (x := a0) fw_X10_280 (Or.inl rfl) (pf_i _).1 (pf_i _).2 dX10_page_7 e4 ?_
  refine rt_aload_n (pc := 10) (k0 := 0) (x := a0) 0 rfl dX10_page_10 ?_
  obtain ⟨v5, e6, hf⟩ := ob1 hf
  refine rt_gr (pc := 11) fd_X10_151 dX10_page_11 e6 ?_
  refine rt_aload_n (pc := 14) (k0 := 0) (x := a0) 0 rfl dX10_page_14 ?_
  obtain ⟨v7, e8, hf⟩ := ob1 hf
  refine rt_gi (pc := 15) fd_X10_280 dX10_page_15 e8 ?_
  obtain ⟨v9, e10, hf⟩ := ob1 hf
  refine rt_iald (pc := 18) dX10_page_18 e10 ?_
  refine rt_istore_n (pc := 19) (k0 := 2) (x := v9) (l2 := [(2, .int v9), (0, va_rf a0), (1, .int a1)]) (by decide) (by first | rfl | (simp [rt_cat, cat_i, cat_l]; done) | (simp [rt_cat, cat_i, cat_l]; decide)) dX10_page_19 ?_
  refine rt_aload_n (pc := 20) (k0 := 0) (x := a0) 1 rfl dX10_page_20 ?_
  obtain ⟨v11, e12, hf⟩ := ob1 hf
  refine rt_gr (pc := 21) fd_X10_119 dX10_page_21 e12 ?_
  refine rt_iload_n (pc := 24) (k0 := 2) (x := v9) 0 rfl dX10_page_24 ?_
  refine rt_iload_n (pc := 25) (k0 := 1) (x := a1) 2 rfl dX10_page_25 ?_
  obtain ⟨w13, e14, hf⟩ := ob1 hf
  refine rt_bast (pc := 26) dX10_page_26 e14 ?_
  refine rt_aload_n (pc := 27) (k0 := 0) (x := a0) 1 rfl dX10_page_27 ?_
  obtain ⟨v15, e16, hf⟩ := ob1 hf
  refine rt_gr (pc := 28) fd_X10_123 dX10_page_28 e16 ?_
  refine rt_iload_n (pc := 31) (k0 := 2) (x := v9) 0 rfl dX10_page_31 ?_
  refine rt_iconst (pc := 32) (n := -1) (v := (-1 : Int32)) (by decide) dX10_page_32 ?_
  obtain ⟨w17, e18, hf⟩ := ob1 hf
  refine rt_iast (pc := 33) dX10_page_33 e18 ?_
  refine rt_aload_n (pc := 34) (k0 := 0) (x := a0) 1 rfl dX10_page_34 ?_
  obtain ⟨v19, e20, hf⟩ := ob1 hf
  refine rt_gr (pc := 35) fd_X10_126 dX10_page_35 e20 ?_
  refine rt_iload_n (pc := 38) (k0 := 2) (x := v9) 0 rfl dX10_page_38 ?_
  refine rt_iconst (pc := 39) (n := 0) (v := (0 : Int32)) (by decide) dX10_page_39 ?_
  obtain ⟨w21, e22, hf⟩ := ob1 hf
  refine rt_iast (pc := 40) dX10_page_40 e22 ?_
  refine rt_aload_n (pc := 41) (k0 := 0) (x := a0) 1 rfl dX10_page_41 ?_
  obtain ⟨v23, e24, hf⟩ := ob1 hf
  refine rt_gr (pc := 42) fd_X10_129 dX10_page_42 e24 ?_
  refine rt_iload_n (pc := 45) (k0 := 2) (x := v9) 0 rfl dX10_page_45 ?_
  refine rt_iconst (pc := 46) (n := 0) (v := (0 : Int32)) (by decide) dX10_page_46 ?_
  obtain ⟨w25, e26, hf⟩ := ob1 hf
  refine rt_iast (pc := 47) dX10_page_47 e26 ?_
  refine rt_aload_n (pc := 48) (k0 := 0) (x := a0) 1 rfl dX10_page_48 ?_
  obtain ⟨v27, e28, hf⟩ := ob1 hf
  refine rt_gr (pc := 49) fd_X10_139 dX10_page_49 e28 ?_
  refine rt_iload_n (pc := 52) (k0 := 2) (x := v9) 0 rfl dX10_page_52 ?_
  refine rt_iconst (pc := 53) (n := -1) (v := (-1 : Int32)) (by decide) dX10_page_53 ?_
  obtain ⟨w29, e30, hf⟩ := ob1 hf
  refine rt_iast (pc := 54) dX10_page_54 e30 ?_
  refine rt_aload_n (pc := 55) (k0 := 0) (x := a0) 1 rfl dX10_page_55 ?_
  obtain ⟨v31, e32, hf⟩ := ob1 hf
  refine rt_gr (pc := 56) fd_X10_142 dX10_page_56 e32 ?_
  refine rt_iload_n (pc := 59) (k0 := 2) (x := v9) 0 rfl dX10_page_59 ?_
  refine rt_iconst (pc := 60) (n := -1) (v := (-1 : Int32)) (by decide) dX10_page_60 ?_
  obtain ⟨w33, e34, hf⟩ := ob1 hf
  refine rt_iast (pc := 61) dX10_page_61 e34 ?_
  refine rt_aload_n (pc := 62) (k0 := 0) (x := a0) 1 rfl dX10_page_62 ?_
  obtain ⟨v35, e36, hf⟩ := ob1 hf
  refine rt_gr (pc := 63) fd_X10_145 dX10_page_63 e36 ?_
  refine rt_iload_n (pc := 66) (k0 := 2) (x := v9) 0 rfl dX10_page_66 ?_
  refine rt_iconst (pc := 67) (n := 0) (v := (0 : Int32)) (by decide) dX10_page_67 ?_
  obtain ⟨w37, e38, hf⟩ := ob1 hf
  refine rt_iast (pc := 68) dX10_page_68 e38 ?_
  refine rt_aload_n (pc := 69) (k0 := 0) (x := a0) 1 rfl dX10_page_69 ?_
  obtain ⟨v39, e40, hf⟩ := ob1 hf
  refine rt_gr (pc := 70) fd_X10_148 dX10_page_70 e40 ?_
  refine rt_iload_n (pc := 73) (k0 := 2) (x := v9) 0 rfl dX10_page_73 ?_
  refine rt_iconst (pc := 74) (n := -1) (v := (-1 : Int32)) (by decide) dX10_page_74 ?_
  obtain ⟨w41, e42, hf⟩ := ob1 hf
  refine rt_iast (pc := 75) dX10_page_75 e42 ?_
  refine rt_iload_n (pc := 76) (k0 := 2) (x := v9) 0 rfl dX10_page_76 ?_
  cases hf
  exact rt_ret (pc := 77) dX10_page_77 rfl
noncomputable def fX10_page (E : ah_E) (a0 : Option Nat) (a1 : Int32) (h : ah_H) : Option (Int32 × ah_H) := if hp_rcv h a0 11 = false then none else bX10_page_0 E a0 a1 h
set_option maxRecDepth 20000 in
set_option maxHeartbeats 4000000 in
theorem sX10_page {X : ah_X} (d : Nat) (hd : 0 ≤ d) {a0 : Option Nat} {a1 : Int32} {h : ah_H} {r : Int32} {h2 : ah_H} (hf : fX10_page X.2.2.2 a0 a1 h = some (r, h2)) : hp_rcv h a0 11 = true ∧ Rn X yX10_page cX10_page 3 (some .int) d [va_rf a0, .int a1] h (some (.int r)) h2 := by
  unfold fX10_page at hf
  by_cases c0 : hp_rcv h a0 11 = false
  · rw [if_pos c0] at hf; cases hf
  rw [if_neg c0] at hf
  refine ⟨(Bool.not_eq_false _).mp c0, ?_⟩
  exact Rn.of2 me_X10_page (by simp [lg_sl, rt_cat, cat_i, cat_l]) (ok_i _) (l := [(0, va_rf a0), (1, .int a1)]) (by simp [lv_args, rt_cat, cat_i, cat_l]) (rX10_page_0 hf)
noncomputable def bX10_give_0 (E : ah_E) (a0 : Option Nat) (a1 : Int32) (h : ah_H) : Option ah_H :=
  (hp_gr h a0 11 28).bind fun v1 =>
  (hp_gi h a0 11 29).bind fun v3 =>
  (hp_sti h v1 v3 a1).bind fun w5 =>
  (hp_gi w5 a0 11 29).bind fun v7 =>
  (hp_pv w5 a0 11 29 (.int (v7 + (1 : Int32)))).bind fun w9 =>
  some w9
set_option maxRecDepth 20000 in
set_option maxHeartbeats 4000000 in
theorem rX10_give_0 {X : ah_X} {d : Nat} {a0 : Option Nat} {a1 : Int32} {h : ah_H} {h2 : ah_H} (hf : bX10_give_0 X.2.2.2 a0 a1 h = some h2) : Rt X yX10_give cX10_give 2 d 0 [(0, va_rf a0), (1, .int a1)] [] h none h2 := by
  unfold bX10_give_0 at hf
  refine rt_aload_n (pc := 0) (k0 := 0) (x := a0) 0 rfl dX10_give_0 ?_
  obtain ⟨v1, e2, hf⟩ := ob1 hf
  refine rt_gr (pc := 1) fd_X10_151 dX10_give_1 e2 ?_
  refine rt_aload_n (pc := 4) (k0 := 0) (x := a0) 0 rfl dX10_give_4 ?_
  obtain ⟨v3, e4, hf⟩ := ob1 hf
  refine rt_gi (pc := 5) fd_X10_280 dX10_give_5 e4 ?_
  refine rt_iload_n (pc := 8) (k0 := 1) (x := a1) 1 rfl dX10_give_8 ?_
  obtain ⟨w5, e6, hf⟩ := ob1 hf
  refine rt_iast (pc := 9) dX10_give_9 e6 ?_
  refine rt_aload_n (pc := 10) (k0 := 0) (x := a0) 0 rfl dX10_give_10 ?_
  refine rt_dup (pc := 11) (rt_cat _) dX10_give_11 ?_
  obtain ⟨v7, e8, hf⟩ := ob1 hf
  refine rt_gi (pc := 12) fd_X10_280 dX10_give_12 e8 ?_
  refine rt_iconst (pc := 15) (n := 1) (v := (1 : Int32)) (by decide) dX10_give_15 ?_
  refine rt_iadd (pc := 16) (x := v7) (z := (1 : Int32)) dX10_give_16 ?_
  obtain ⟨w9, e10, hf⟩ := ob1 hf
  refine rt_putf (pc := 17) (x := a0) fw_X10_280 (Or.inl rfl) (pf_i _).1 (pf_i _).2 dX10_give_17 e10 ?_
  cases hf
  exact rt_ret (pc := 20) dX10_give_20 rfl
noncomputable def fX10_give (E : ah_E) (a0 : Option Nat) (a1 : Int32) (h : ah_H) : Option ah_H := if hp_rcv h a0 11 = false then none else bX10_give_0 E a0 a1 h
set_option maxRecDepth 20000 in
set_option maxHeartbeats 4000000 in
theorem sX10_give {X : ah_X} (d : Nat) (hd : 0 ≤ d) {a0 : Option Nat} {a1 : Int32} {h : ah_H} {h2 : ah_H} (hf : fX10_give X.2.2.2 a0 a1 h = some h2) : hp_rcv h a0 11 = true ∧ Rn X yX10_give cX10_give 2 none d [va_rf a0, .int a1] h none h2 := by
  unfold fX10_give at hf
  by_cases c0 : hp_rcv h a0 11 = false
  · rw [if_pos c0] at hf; cases hf
  rw [if_neg c0] at hf
  refine ⟨(Bool.not_eq_false _).mp c0, ?_⟩
  exact Rn.of2 me_X10_give (by simp [lg_sl, rt_cat, cat_i, cat_l]) rfl (l := [(0, va_rf a0), (1, .int a1)]) (by simp [lv_args, rt_cat, cat_i, cat_l]) (rX10_give_0 hf)
noncomputable def bX10_partOf_316 (E : ah_E) (k66 : Option Nat → Int32 → Int32 → Int32 → Int32 → Int32 → ah_H → Option ah_H) (a0 : Option Nat) (a1 : Int32) (a2 : Int32) (a4 : Int32) (a5 : Int32) (a6 : Int32) (a7 : Int32) (h : ah_H) : Option ah_H :=
  k66 a0 a1 a2 (a4 + a7) a5 (a6 + 1) h
set_option maxRecDepth 20000 in
set_option maxHeartbeats 4000000 in
theorem rX10_partOf_316 {X : ah_X} {d : Nat} (hd : 0 ≤ d) {k66 : Option Nat → Int32 → Int32 → Int32 → Int32 → Int32 → ah_H → Option ah_H} (hk66 : ∀ (x0 : Option Nat) (x1 : Int32) (x2 : Int32) (x3 : Int32) (x4 : Int32) (x5 : Int32) (h : ah_H) (h2 : ah_H), k66 x0 x1 x2 x3 x4 x5 h = some h2 → Rt X yX10_partOf cX10_partOf 10 (d + 1) 66 [(0, va_rf x0), (1, .int x1), (2, .int x2), (4, .int x3), (5, .int x4), (6, .int x5)] [] h none h2) {a0 : Option Nat} {a1 : Int32} {a2 : Int32} {a4 : Int32} {a5 : Int32} {a6 : Int32} {a7 : Int32} {h : ah_H} {h2 : ah_H} (hf : bX10_partOf_316 X.2.2.2 k66 a0 a1 a2 a4 a5 a6 a7 h = some h2) : Rt X yX10_partOf cX10_partOf 10 (d + 1) 316 [(0, va_rf a0), (1, .int a1), (2, .int a2), (4, .int a4), (5, .int a5), (6, .int a6), (7, .int a7)] [] h none h2 := by
  unfold bX10_partOf_316 at hf
  refine rt_iload (pc := 316) (i := 4) (x := a4) 3 rfl dX10_partOf_316 ?_
  refine rt_iload (pc := 318) (i := 7) (x := a7) 6 rfl dX10_partOf_318 ?_
  refine rt_iadd (pc := 320) (x := a4) (z := a7) dX10_partOf_320 ?_
  refine rt_istore (pc := 321) (i := 4) (x := (a4 + a7)) (l2 := [(4, .int (a4 + a7)), (0, va_rf a0), (1, .int a1), (2, .int a2), (5, .int a5), (6, .int a6), (7, .int a7)]) (by decide) (by first | rfl | (simp [rt_cat, cat_i, cat_l]; done) | (simp [rt_cat, cat_i, cat_l]; decide)) dX10_partOf_321 ?_
  refine rt_iinc (pc := 323) (i := 6) (n := 1) (x := a6) (v := (a6 + 1)) (l2 := [(6, .int (a6 + 1)), (4, .int (a4 + a7)), (0, va_rf a0), (1, .int a1), (2, .int a2), (5, .int a5), (7, .int a7)]) 5 rfl rfl (by decide) (by first | rfl | (simp [rt_cat, cat_i, cat_l]; done) | (simp [rt_cat, cat_i, cat_l]; decide)) dX10_partOf_323 ?_
  refine rt_goto (pc := 326) (tgt := 66) (by decide) dX10_partOf_326 ?_
  exact rt_locals (rt_sub [2, 3, 4, 1, 5, 0] rfl) (hk66 _ _ _ _ _ _ _ _ hf)
noncomputable def bX10_partOf_165 (E : ah_E) (k66 : Option Nat → Int32 → Int32 → Int32 → Int32 → Int32 → ah_H → Option ah_H) : Nat → Option Nat → Int32 → Int32 → Int32 → Int32 → Int32 → Int32 → Int32 → ah_H → Option ah_H
  | 0 => fun _ _ _ _ _ _ _ _ _ => none
  | n + 1 => fun a0 a1 a2 a4 a5 a6 a7 a9 h =>
  if a7 ≤ a9 then
    (hp_gr h a0 11 34).bind fun v2 =>
    (hp_ldi h v2 a5).bind fun v4 =>
    (hp_gr h a0 11 34).bind fun v6 =>
    (hp_sti h v6 a5 (-1 : Int32)).bind fun w8 =>
    bX10_partOf_316 E k66 a0 a1 a2 a4 v4 a6 a7 w8
  else
  (hp_gr h a0 11 34).bind fun v10 =>
  (hp_ldi h v10 a5).bind fun v12 =>
  bX10_partOf_165 E k66 n a0 a1 a2 a4 v12 a6 a7 (a9 + 1) h
set_option maxRecDepth 20000 in
set_option maxHeartbeats 4000000 in
theorem rX10_partOf_165 {X : ah_X} {d : Nat} (hd : 0 ≤ d) {k66 : Option Nat → Int32 → Int32 → Int32 → Int32 → Int32 → ah_H → Option ah_H} (hk66 : ∀ (x0 : Option Nat) (x1 : Int32) (x2 : Int32) (x3 : Int32) (x4 : Int32) (x5 : Int32) (h : ah_H) (h2 : ah_H), k66 x0 x1 x2 x3 x4 x5 h = some h2 → Rt X yX10_partOf cX10_partOf 10 (d + 1) 66 [(0, va_rf x0), (1, .int x1), (2, .int x2), (4, .int x3), (5, .int x4), (6, .int x5)] [] h none h2) (n : Nat) : ∀ (a0 : Option Nat) (a1 : Int32) (a2 : Int32) (a4 : Int32) (a5 : Int32) (a6 : Int32) (a7 : Int32) (a9 : Int32) (h : ah_H) (h2 : ah_H), bX10_partOf_165 X.2.2.2 k66 n a0 a1 a2 a4 a5 a6 a7 a9 h = some h2 → Rt X yX10_partOf cX10_partOf 10 (d + 1) 165 [(0, va_rf a0), (1, .int a1), (2, .int a2), (4, .int a4), (5, .int a5), (6, .int a6), (7, .int a7), (9, .int a9)] [] h none h2 := by
  induction n with
  | zero => intro a0 a1 a2 a4 a5 a6 a7 a9 h h2 hf; cases hf
  | succ n ih =>
  intro a0 a1 a2 a4 a5 a6 a7 a9 h h2 hf
  unfold bX10_partOf_165 at hf
  refine rt_iload (pc := 165) (i := 9) (x := a9) 7 rfl dX10_partOf_165 ?_
  refine rt_iload (pc := 167) (i := 7) (x := a7) 6 rfl dX10_partOf_167 ?_
  by_cases c1 : a7 ≤ a9
  · rw [if_pos c1] at hf
    refine rt_icmp_ge_p (pc := 169) (x := a9) (z := a7) (tgt := 187) (by decide) dX10_partOf_169 c1 ?_
    refine rt_aload_n (pc := 187) (k0 := 0) (x := a0) 0 rfl dX10_partOf_187 ?_
    obtain ⟨v2, e3, hf⟩ := ob1 hf
    refine rt_gr (pc := 188) fd_X10_164 dX10_partOf_188 e3 ?_
    refine rt_iload (pc := 191) (i := 5) (x := a5) 4 rfl dX10_partOf_191 ?_
    obtain ⟨v4, e5, hf⟩ := ob1 hf
    refine rt_iald (pc := 193) dX10_partOf_193 e5 ?_
    refine rt_istore (pc := 194) (i := 9) (x := v4) (l2 := [(9, .int v4), (0, va_rf a0), (1, .int a1), (2, .int a2), (4, .int a4), (5, .int a5), (6, .int a6), (7, .int a7)]) (by decide) (by first | rfl | (simp [rt_cat, cat_i, cat_l]; done) | (simp [rt_cat, cat_i, cat_l]; decide)) dX10_partOf_194 ?_
    refine rt_aload_n (pc := 196) (k0 := 0) (x := a0) 1 rfl dX10_partOf_196 ?_
    obtain ⟨v6, e7, hf⟩ := ob1 hf
    refine rt_gr (pc := 197) fd_X10_164 dX10_partOf_197 e7 ?_
    refine rt_iload (pc := 200) (i := 5) (x := a5) 5 rfl dX10_partOf_200 ?_
    refine rt_iconst (pc := 202) (n := -1) (v := (-1 : Int32)) (by decide) dX10_partOf_202 ?_
    obtain ⟨w8, e9, hf⟩ := ob1 hf
    refine rt_iast (pc := 203) dX10_partOf_203 e9 ?_
    refine rt_iload (pc := 204) (i := 9) (x := v4) 0 rfl dX10_partOf_204 ?_
    refine rt_istore (pc := 206) (i := 5) (x := v4) (l2 := [(5, .int v4), (9, .int v4), (0, va_rf a0), (1, .int a1), (2, .int a2), (4, .int a4), (6, .int a6), (7, .int a7)]) (by decide) (by first | rfl | (simp [rt_cat, cat_i, cat_l]; done) | (simp [rt_cat, cat_i, cat_l]; decide)) dX10_partOf_206 ?_
    refine rt_goto (pc := 208) (tgt := 316) (by decide) dX10_partOf_208 ?_
    exact rt_locals (rt_sub [2, 3, 4, 5, 0, 6, 7] rfl) (rX10_partOf_316 hd hk66 hf)
  rw [if_neg c1] at hf
  refine rt_icmp_ge_n (pc := 169) (x := a9) (z := a7) (tgt := 187) (by decide) dX10_partOf_169 c1 ?_
  refine rt_aload_n (pc := 172) (k0 := 0) (x := a0) 0 rfl dX10_partOf_172 ?_
  obtain ⟨v10, e11, hf⟩ := ob1 hf
  refine rt_gr (pc := 173) fd_X10_164 dX10_partOf_173 e11 ?_
  refine rt_iload (pc := 176) (i := 5) (x := a5) 4 rfl dX10_partOf_176 ?_
  obtain ⟨v12, e13, hf⟩ := ob1 hf
  refine rt_iald (pc := 178) dX10_partOf_178 e13 ?_
  refine rt_istore (pc := 179) (i := 5) (x := v12) (l2 := [(5, .int v12), (0, va_rf a0), (1, .int a1), (2, .int a2), (4, .int a4), (6, .int a6), (7, .int a7), (9, .int a9)]) (by decide) (by first | rfl | (simp [rt_cat, cat_i, cat_l]; done) | (simp [rt_cat, cat_i, cat_l]; decide)) dX10_partOf_179 ?_
  refine rt_iinc (pc := 181) (i := 9) (n := 1) (x := a9) (v := (a9 + 1)) (l2 := [(9, .int (a9 + 1)), (5, .int v12), (0, va_rf a0), (1, .int a1), (2, .int a2), (4, .int a4), (6, .int a6), (7, .int a7)]) 7 rfl rfl (by decide) (by first | rfl | (simp [rt_cat, cat_i, cat_l]; done) | (simp [rt_cat, cat_i, cat_l]; decide)) dX10_partOf_181 ?_
  refine rt_goto (pc := 184) (tgt := 165) (by decide) dX10_partOf_184 ?_
  exact rt_locals (rt_sub [2, 3, 4, 5, 1, 6, 7, 0] rfl) (ih _ _ _ _ _ _ _ _ _ _ hf)
noncomputable def bX10_partOf_234 (E : ah_E) (k66 : Option Nat → Int32 → Int32 → Int32 → Int32 → Int32 → ah_H → Option ah_H) : Nat → Option Nat → Int32 → Int32 → Int32 → Int32 → Int32 → Int32 → Int32 → Int32 → ah_H → Option ah_H
  | 0 => fun _ _ _ _ _ _ _ _ _ _ => none
  | n + 1 => fun a0 a1 a2 a4 a5 a6 a7 a8 a9 h =>
  if a7 ≤ a9 then
    (hp_gr h a0 11 21).bind fun v2 =>
    (hp_sti h v2 a8 a7).bind fun w4 =>
    bX10_partOf_316 E k66 a0 a1 a2 a4 a5 a6 a7 w4
  else
  (hp_gr h a0 11 22).bind fun v6 =>
  (hp_gr h a0 11 22).bind fun v8 =>
  (hp_ldi h v8 ((((128 : Int32) * a1) + a4) + a9)).bind fun v10 =>
  (hp_sti h v6 (((128 : Int32) * a8) + a9) v10).bind fun w12 =>
  (hp_gr w12 a0 11 23).bind fun v14 =>
  (hp_gr w12 a0 11 23).bind fun v16 =>
  (hp_ldl w12 v16 ((((128 : Int32) * a1) + a4) + a9)).bind fun v18 =>
  (hp_stl w12 v14 (((128 : Int32) * a8) + a9) v18).bind fun w20 =>
  bX10_partOf_234 E k66 n a0 a1 a2 a4 a5 a6 a7 a8 (a9 + 1) w20
set_option maxRecDepth 20000 in
set_option maxHeartbeats 4000000 in
theorem rX10_partOf_234 {X : ah_X} {d : Nat} (hd : 0 ≤ d) {k66 : Option Nat → Int32 → Int32 → Int32 → Int32 → Int32 → ah_H → Option ah_H} (hk66 : ∀ (x0 : Option Nat) (x1 : Int32) (x2 : Int32) (x3 : Int32) (x4 : Int32) (x5 : Int32) (h : ah_H) (h2 : ah_H), k66 x0 x1 x2 x3 x4 x5 h = some h2 → Rt X yX10_partOf cX10_partOf 10 (d + 1) 66 [(0, va_rf x0), (1, .int x1), (2, .int x2), (4, .int x3), (5, .int x4), (6, .int x5)] [] h none h2) (n : Nat) : ∀ (a0 : Option Nat) (a1 : Int32) (a2 : Int32) (a4 : Int32) (a5 : Int32) (a6 : Int32) (a7 : Int32) (a8 : Int32) (a9 : Int32) (h : ah_H) (h2 : ah_H), bX10_partOf_234 X.2.2.2 k66 n a0 a1 a2 a4 a5 a6 a7 a8 a9 h = some h2 → Rt X yX10_partOf cX10_partOf 10 (d + 1) 234 [(0, va_rf a0), (1, .int a1), (2, .int a2), (4, .int a4), (5, .int a5), (6, .int a6), (7, .int a7), (8, .int a8), (9, .int a9)] [] h none h2 := by
  induction n with
  | zero => intro a0 a1 a2 a4 a5 a6 a7 a8 a9 h h2 hf; cases hf
  | succ n ih =>
  intro a0 a1 a2 a4 a5 a6 a7 a8 a9 h h2 hf
  unfold bX10_partOf_234 at hf
  refine rt_iload (pc := 234) (i := 9) (x := a9) 8 rfl dX10_partOf_234 ?_
  refine rt_iload (pc := 236) (i := 7) (x := a7) 6 rfl dX10_partOf_236 ?_
  by_cases c1 : a7 ≤ a9
  · rw [if_pos c1] at hf
    refine rt_icmp_ge_p (pc := 238) (x := a9) (z := a7) (tgt := 307) (by decide) dX10_partOf_238 c1 ?_
    refine rt_aload_n (pc := 307) (k0 := 0) (x := a0) 0 rfl dX10_partOf_307 ?_
    obtain ⟨v2, e3, hf⟩ := ob1 hf
    refine rt_gr (pc := 308) fd_X10_129 dX10_partOf_308 e3 ?_
    refine rt_iload (pc := 311) (i := 8) (x := a8) 7 rfl dX10_partOf_311 ?_
    refine rt_iload (pc := 313) (i := 7) (x := a7) 6 rfl dX10_partOf_313 ?_
    obtain ⟨w4, e5, hf⟩ := ob1 hf
    refine rt_iast (pc := 315) dX10_partOf_315 e5 ?_
    exact rt_locals (rt_sub [0, 1, 2, 3, 4, 5, 6] rfl) (rX10_partOf_316 hd hk66 hf)
  rw [if_neg c1] at hf
  refine rt_icmp_ge_n (pc := 238) (x := a9) (z := a7) (tgt := 307) (by decide) dX10_partOf_238 c1 ?_
  refine rt_aload_n (pc := 241) (k0 := 0) (x := a0) 0 rfl dX10_partOf_241 ?_
  obtain ⟨v6, e7, hf⟩ := ob1 hf
  refine rt_gr (pc := 242) fd_X10_133 dX10_partOf_242 e7 ?_
  refine rt_sipush (pc := 245) (n := 128) (v := (128 : Int32)) (by decide) dX10_partOf_245 ?_
  refine rt_iload (pc := 248) (i := 8) (x := a8) 7 rfl dX10_partOf_248 ?_
  refine rt_imul (pc := 250) (x := (128 : Int32)) (z := a8) dX10_partOf_250 ?_
  refine rt_iload (pc := 251) (i := 9) (x := a9) 8 rfl dX10_partOf_251 ?_
  refine rt_iadd (pc := 253) (x := ((128 : Int32) * a8)) (z := a9) dX10_partOf_253 ?_
  refine rt_aload_n (pc := 254) (k0 := 0) (x := a0) 0 rfl dX10_partOf_254 ?_
  obtain ⟨v8, e9, hf⟩ := ob1 hf
  refine rt_gr (pc := 255) fd_X10_133 dX10_partOf_255 e9 ?_
  refine rt_sipush (pc := 258) (n := 128) (v := (128 : Int32)) (by decide) dX10_partOf_258 ?_
  refine rt_iload_n (pc := 261) (k0 := 1) (x := a1) 1 rfl dX10_partOf_261 ?_
  refine rt_imul (pc := 262) (x := (128 : Int32)) (z := a1) dX10_partOf_262 ?_
  refine rt_iload (pc := 263) (i := 4) (x := a4) 3 rfl dX10_partOf_263 ?_
  refine rt_iadd (pc := 265) (x := ((128 : Int32) * a1)) (z := a4) dX10_partOf_265 ?_
  refine rt_iload (pc := 266) (i := 9) (x := a9) 8 rfl dX10_partOf_266 ?_
  refine rt_iadd (pc := 268) (x := (((128 : Int32) * a1) + a4)) (z := a9) dX10_partOf_268 ?_
  obtain ⟨v10, e11, hf⟩ := ob1 hf
  refine rt_iald (pc := 269) dX10_partOf_269 e11 ?_
  obtain ⟨w12, e13, hf⟩ := ob1 hf
  refine rt_iast (pc := 270) dX10_partOf_270 e13 ?_
  refine rt_aload_n (pc := 271) (k0 := 0) (x := a0) 0 rfl dX10_partOf_271 ?_
  obtain ⟨v14, e15, hf⟩ := ob1 hf
  refine rt_gr (pc := 272) fd_X10_136 dX10_partOf_272 e15 ?_
  refine rt_sipush (pc := 275) (n := 128) (v := (128 : Int32)) (by decide) dX10_partOf_275 ?_
  refine rt_iload (pc := 278) (i := 8) (x := a8) 7 rfl dX10_partOf_278 ?_
  refine rt_imul (pc := 280) (x := (128 : Int32)) (z := a8) dX10_partOf_280 ?_
  refine rt_iload (pc := 281) (i := 9) (x := a9) 8 rfl dX10_partOf_281 ?_
  refine rt_iadd (pc := 283) (x := ((128 : Int32) * a8)) (z := a9) dX10_partOf_283 ?_
  refine rt_aload_n (pc := 284) (k0 := 0) (x := a0) 0 rfl dX10_partOf_284 ?_
  obtain ⟨v16, e17, hf⟩ := ob1 hf
  refine rt_gr (pc := 285) fd_X10_136 dX10_partOf_285 e17 ?_
  refine rt_sipush (pc := 288) (n := 128) (v := (128 : Int32)) (by decide) dX10_partOf_288 ?_
  refine rt_iload_n (pc := 291) (k0 := 1) (x := a1) 1 rfl dX10_partOf_291 ?_
  refine rt_imul (pc := 292) (x := (128 : Int32)) (z := a1) dX10_partOf_292 ?_
  refine rt_iload (pc := 293) (i := 4) (x := a4) 3 rfl dX10_partOf_293 ?_
  refine rt_iadd (pc := 295) (x := ((128 : Int32) * a1)) (z := a4) dX10_partOf_295 ?_
  refine rt_iload (pc := 296) (i := 9) (x := a9) 8 rfl dX10_partOf_296 ?_
  refine rt_iadd (pc := 298) (x := (((128 : Int32) * a1) + a4)) (z := a9) dX10_partOf_298 ?_
  obtain ⟨v18, e19, hf⟩ := ob1 hf
  refine rt_lald (pc := 299) dX10_partOf_299 e19 ?_
  obtain ⟨w20, e21, hf⟩ := ob1 hf
  refine rt_last (pc := 300) dX10_partOf_300 e21 ?_
  refine rt_iinc (pc := 301) (i := 9) (n := 1) (x := a9) (v := (a9 + 1)) (l2 := [(9, .int (a9 + 1)), (0, va_rf a0), (1, .int a1), (2, .int a2), (4, .int a4), (5, .int a5), (6, .int a6), (7, .int a7), (8, .int a8)]) 8 rfl rfl (by decide) (by first | rfl | (simp [rt_cat, cat_i, cat_l]; done) | (simp [rt_cat, cat_i, cat_l]; decide)) dX10_partOf_301 ?_
  refine rt_goto (pc := 304) (tgt := 234) (by decide) dX10_partOf_304 ?_
  exact rt_locals (rt_sub [1, 2, 3, 4, 5, 6, 7, 8, 0] rfl) (ih _ _ _ _ _ _ _ _ _ _ _ hf)
noncomputable def bX10_partOf_97 (E : ah_E) (k66 : Option Nat → Int32 → Int32 → Int32 → Int32 → Int32 → ah_H → Option ah_H) (a0 : Option Nat) (a1 : Int32) (a2 : Int32) (a4 : Int32) (a5 : Int32) (a6 : Int32) (s0 : Int32) (s1 : Int32) (h : ah_H) : Option ah_H :=
  (hp_gr h a0 11 18).bind fun v1 =>
  (hp_ldb h v1 a1).bind fun v3 =>
  ob2 (fX10_page E a0 v3 h) fun v7 w6 =>
  (hp_gr w6 a0 11 44).bind fun v9 =>
  (hp_sti w6 v9 a6 v7).bind fun w11 =>
  (hp_gr w11 a0 11 18).bind fun v13 =>
  (hp_ldb w11 v13 a1).bind fun v15 =>
  if v15 = 0 then
    (hp_gr w11 a0 11 45).bind fun v18 =>
    (hp_gr w11 a0 11 23).bind fun v20 =>
    (hp_ldl w11 v20 (((128 : Int32) * a1) + a4)).bind fun v22 =>
    (hp_stl w11 v18 a6 v22).bind fun w24 =>
    bX10_partOf_234 E k66 zf a0 a1 a2 a4 a5 a6 (s0 + s1) v7 (0 : Int32) w24
  else
  (hp_gr w11 a0 11 45).bind fun v26 =>
  (hp_gr w11 a0 11 31).bind fun v28 =>
  (hp_ldl w11 v28 a5).bind fun v30 =>
  (hp_stl w11 v26 a6 v30).bind fun w32 =>
  (hp_gr w32 a0 11 19).bind fun v34 =>
  (hp_sti w32 v34 v7 a5).bind fun w36 =>
  (hp_gr w36 a0 11 20).bind fun v38 =>
  (hp_sti w36 v38 v7 (s0 + s1)).bind fun w40 =>
  bX10_partOf_165 E k66 zf a0 a1 a2 a4 a5 a6 (s0 + s1) (1 : Int32) w40
set_option maxRecDepth 20000 in
set_option maxHeartbeats 4000000 in
theorem rX10_partOf_97 {X : ah_X} {d : Nat} (hd : 0 ≤ d) {k66 : Option Nat → Int32 → Int32 → Int32 → Int32 → Int32 → ah_H → Option ah_H} (hk66 : ∀ (x0 : Option Nat) (x1 : Int32) (x2 : Int32) (x3 : Int32) (x4 : Int32) (x5 : Int32) (h : ah_H) (h2 : ah_H), k66 x0 x1 x2 x3 x4 x5 h = some h2 → Rt X yX10_partOf cX10_partOf 10 (d + 1) 66 [(0, va_rf x0), (1, .int x1), (2, .int x2), (4, .int x3), (5, .int x4), (6, .int x5)] [] h none h2) {a0 : Option Nat} {a1 : Int32} {a2 : Int32} {a4 : Int32} {a5 : Int32} {a6 : Int32} {s0 : Int32} {s1 : Int32} {h : ah_H} {h2 : ah_H} (hf : bX10_partOf_97 X.2.2.2 k66 a0 a1 a2 a4 a5 a6 s0 s1 h = some h2) : Rt X yX10_partOf cX10_partOf 10 (d + 1) 97 [(0, va_rf a0), (1, .int a1), (2, .int a2), (4, .int a4), (5, .int a5), (6, .int a6)] [.int s1, .int s0] h none h2 := by
  unfold bX10_partOf_97 at hf
  refine rt_iadd (pc := 97) (x := s0) (z := s1) dX10_partOf_97 ?_
  refine rt_istore (pc := 98) (i := 7) (x := (s0 + s1)) (l2 := [(7, .int (s0 + s1)), (0, va_rf a0), (1, .int a1), (2, .int a2), (4, .int a4), (5, .int a5), (6, .int a6)]) (by decide) (by first | rfl | (simp [rt_cat, cat_i, cat_l]; done) | (simp [rt_cat, cat_i, cat_l]; decide)) dX10_partOf_98 ?_
  refine rt_aload_n (pc := 100) (k0 := 0) (x := a0) 1 rfl dX10_partOf_100 ?_
  refine rt_aload_n (pc := 101) (k0 := 0) (x := a0) 1 rfl dX10_partOf_101 ?_
  obtain ⟨v1, e2, hf⟩ := ob1 hf
  refine rt_gr (pc := 102) fd_X10_119 dX10_partOf_102 e2 ?_
  refine rt_iload_n (pc := 105) (k0 := 1) (x := a1) 2 rfl dX10_partOf_105 ?_
  obtain ⟨v3, e4, hf⟩ := ob1 hf
  refine rt_bald (pc := 106) dX10_partOf_106 e4 ?_
  obtain ⟨v7, w6, e5, hf⟩ := ob2_of hf
  have g8 := sX10_page d (by omega) e5
  refine rt_callV (pc := 107) (As := [.int v3]) (st := []) me_X10_page mi_X10_page wl_X10_273 dX10_partOf_107 rfl (by decide) rfl g8.1 g8.2 ?_
  refine rt_istore (pc := 110) (i := 8) (x := v7) (l2 := [(8, .int v7), (7, .int (s0 + s1)), (0, va_rf a0), (1, .int a1), (2, .int a2), (4, .int a4), (5, .int a5), (6, .int a6)]) (by decide) (by first | rfl | (simp [rt_cat, cat_i, cat_l]; done) | (simp [rt_cat, cat_i, cat_l]; decide)) dX10_partOf_110 ?_
  refine rt_aload_n (pc := 112) (k0 := 0) (x := a0) 2 rfl dX10_partOf_112 ?_
  obtain ⟨v9, e10, hf⟩ := ob1 hf
  refine rt_gr (pc := 113) fd_X10_185 dX10_partOf_113 e10 ?_
  refine rt_iload (pc := 116) (i := 6) (x := a6) 7 rfl dX10_partOf_116 ?_
  refine rt_iload (pc := 118) (i := 8) (x := v7) 0 rfl dX10_partOf_118 ?_
  obtain ⟨w11, e12, hf⟩ := ob1 hf
  refine rt_iast (pc := 120) dX10_partOf_120 e12 ?_
  refine rt_aload_n (pc := 121) (k0 := 0) (x := a0) 2 rfl dX10_partOf_121 ?_
  obtain ⟨v13, e14, hf⟩ := ob1 hf
  refine rt_gr (pc := 122) fd_X10_119 dX10_partOf_122 e14 ?_
  refine rt_iload_n (pc := 125) (k0 := 1) (x := a1) 3 rfl dX10_partOf_125 ?_
  obtain ⟨v15, e16, hf⟩ := ob1 hf
  refine rt_bald (pc := 126) dX10_partOf_126 e16 ?_
  by_cases c17 : v15 = 0
  · rw [if_pos c17] at hf
    refine rt_if_eq_p (pc := 127) (x := v15) (tgt := 211) (by decide) dX10_partOf_127 c17 ?_
    refine rt_aload_n (pc := 211) (k0 := 0) (x := a0) 2 rfl dX10_partOf_211 ?_
    obtain ⟨v18, e19, hf⟩ := ob1 hf
    refine rt_gr (pc := 212) fd_X10_188 dX10_partOf_212 e19 ?_
    refine rt_iload (pc := 215) (i := 6) (x := a6) 7 rfl dX10_partOf_215 ?_
    refine rt_aload_n (pc := 217) (k0 := 0) (x := a0) 2 rfl dX10_partOf_217 ?_
    obtain ⟨v20, e21, hf⟩ := ob1 hf
    refine rt_gr (pc := 218) fd_X10_136 dX10_partOf_218 e21 ?_
    refine rt_sipush (pc := 221) (n := 128) (v := (128 : Int32)) (by decide) dX10_partOf_221 ?_
    refine rt_iload_n (pc := 224) (k0 := 1) (x := a1) 3 rfl dX10_partOf_224 ?_
    refine rt_imul (pc := 225) (x := (128 : Int32)) (z := a1) dX10_partOf_225 ?_
    refine rt_iload (pc := 226) (i := 4) (x := a4) 5 rfl dX10_partOf_226 ?_
    refine rt_iadd (pc := 228) (x := ((128 : Int32) * a1)) (z := a4) dX10_partOf_228 ?_
    obtain ⟨v22, e23, hf⟩ := ob1 hf
    refine rt_lald (pc := 229) dX10_partOf_229 e23 ?_
    obtain ⟨w24, e25, hf⟩ := ob1 hf
    refine rt_last (pc := 230) dX10_partOf_230 e25 ?_
    refine rt_iconst (pc := 231) (n := 0) (v := (0 : Int32)) (by decide) dX10_partOf_231 ?_
    refine rt_istore (pc := 232) (i := 9) (x := (0 : Int32)) (l2 := [(9, .int (0 : Int32)), (8, .int v7), (7, .int (s0 + s1)), (0, va_rf a0), (1, .int a1), (2, .int a2), (4, .int a4), (5, .int a5), (6, .int a6)]) (by decide) (by first | rfl | (simp [rt_cat, cat_i, cat_l]; done) | (simp [rt_cat, cat_i, cat_l]; decide)) dX10_partOf_232 ?_
    exact rt_locals (rt_sub [3, 4, 5, 6, 7, 8, 2, 1, 0] rfl) (rX10_partOf_234 hd hk66 zf _ _ _ _ _ _ _ _ _ _ _ hf)
  rw [if_neg c17] at hf
  refine rt_if_eq_n (pc := 127) (x := v15) (tgt := 211) (by decide) dX10_partOf_127 c17 ?_
  refine rt_aload_n (pc := 130) (k0 := 0) (x := a0) 2 rfl dX10_partOf_130 ?_
  obtain ⟨v26, e27, hf⟩ := ob1 hf
  refine rt_gr (pc := 131) fd_X10_188 dX10_partOf_131 e27 ?_
  refine rt_iload (pc := 134) (i := 6) (x := a6) 7 rfl dX10_partOf_134 ?_
  refine rt_aload_n (pc := 136) (k0 := 0) (x := a0) 2 rfl dX10_partOf_136 ?_
  obtain ⟨v28, e29, hf⟩ := ob1 hf
  refine rt_gr (pc := 137) fd_X10_154 dX10_partOf_137 e29 ?_
  refine rt_iload (pc := 140) (i := 5) (x := a5) 6 rfl dX10_partOf_140 ?_
  obtain ⟨v30, e31, hf⟩ := ob1 hf
  refine rt_lald (pc := 142) dX10_partOf_142 e31 ?_
  obtain ⟨w32, e33, hf⟩ := ob1 hf
  refine rt_last (pc := 143) dX10_partOf_143 e33 ?_
  refine rt_aload_n (pc := 144) (k0 := 0) (x := a0) 2 rfl dX10_partOf_144 ?_
  obtain ⟨v34, e35, hf⟩ := ob1 hf
  refine rt_gr (pc := 145) fd_X10_123 dX10_partOf_145 e35 ?_
  refine rt_iload (pc := 148) (i := 8) (x := v7) 0 rfl dX10_partOf_148 ?_
  refine rt_iload (pc := 150) (i := 5) (x := a5) 6 rfl dX10_partOf_150 ?_
  obtain ⟨w36, e37, hf⟩ := ob1 hf
  refine rt_iast (pc := 152) dX10_partOf_152 e37 ?_
  refine rt_aload_n (pc := 153) (k0 := 0) (x := a0) 2 rfl dX10_partOf_153 ?_
  obtain ⟨v38, e39, hf⟩ := ob1 hf
  refine rt_gr (pc := 154) fd_X10_126 dX10_partOf_154 e39 ?_
  refine rt_iload (pc := 157) (i := 8) (x := v7) 0 rfl dX10_partOf_157 ?_
  refine rt_iload (pc := 159) (i := 7) (x := (s0 + s1)) 1 rfl dX10_partOf_159 ?_
  obtain ⟨w40, e41, hf⟩ := ob1 hf
  refine rt_iast (pc := 161) dX10_partOf_161 e41 ?_
  refine rt_iconst (pc := 162) (n := 1) (v := (1 : Int32)) (by decide) dX10_partOf_162 ?_
  refine rt_istore (pc := 163) (i := 9) (x := (1 : Int32)) (l2 := [(9, .int (1 : Int32)), (8, .int v7), (7, .int (s0 + s1)), (0, va_rf a0), (1, .int a1), (2, .int a2), (4, .int a4), (5, .int a5), (6, .int a6)]) (by decide) (by first | rfl | (simp [rt_cat, cat_i, cat_l]; done) | (simp [rt_cat, cat_i, cat_l]; decide)) dX10_partOf_163 ?_
  exact rt_locals (rt_sub [3, 4, 5, 6, 7, 8, 2, 0] rfl) (rX10_partOf_165 hd hk66 zf _ _ _ _ _ _ _ _ _ _ hf)
noncomputable def bX10_partOf_392 (E : ah_E) (k337 : Option Nat → Int32 → Int32 → ah_H → Option ah_H) (a0 : Option Nat) (a1 : Int32) (a6 : Int32) (a7 : Int32) (a8 : Int32) (h : ah_H) : Option ah_H :=
  (hp_gr h a0 11 44).bind fun v1 =>
  (hp_ldi h v1 a8).bind fun v3 =>
  (fX10_chain E a0 v3 a6 h).bind fun w6 =>
  k337 a0 a1 a7 w6
set_option maxRecDepth 20000 in
set_option maxHeartbeats 4000000 in
theorem rX10_partOf_392 {X : ah_X} {d : Nat} (hd : 0 ≤ d) {k337 : Option Nat → Int32 → Int32 → ah_H → Option ah_H} (hk337 : ∀ (x0 : Option Nat) (x1 : Int32) (x2 : Int32) (h : ah_H) (h2 : ah_H), k337 x0 x1 x2 h = some h2 → Rt X yX10_partOf cX10_partOf 10 (d + 1) 337 [(0, va_rf x0), (1, .int x1), (6, .int x2)] [] h none h2) {a0 : Option Nat} {a1 : Int32} {a6 : Int32} {a7 : Int32} {a8 : Int32} {h : ah_H} {h2 : ah_H} (hf : bX10_partOf_392 X.2.2.2 k337 a0 a1 a6 a7 a8 h = some h2) : Rt X yX10_partOf cX10_partOf 10 (d + 1) 392 [(0, va_rf a0), (1, .int a1), (6, .int a6), (7, .int a7), (8, .int a8)] [] h none h2 := by
  unfold bX10_partOf_392 at hf
  refine rt_aload_n (pc := 392) (k0 := 0) (x := a0) 0 rfl dX10_partOf_392 ?_
  refine rt_aload_n (pc := 393) (k0 := 0) (x := a0) 0 rfl dX10_partOf_393 ?_
  obtain ⟨v1, e2, hf⟩ := ob1 hf
  refine rt_gr (pc := 394) fd_X10_185 dX10_partOf_394 e2 ?_
  refine rt_iload (pc := 397) (i := 8) (x := a8) 4 rfl dX10_partOf_397 ?_
  obtain ⟨v3, e4, hf⟩ := ob1 hf
  refine rt_iald (pc := 399) dX10_partOf_399 e4 ?_
  refine rt_iload (pc := 400) (i := 6) (x := a6) 2 rfl dX10_partOf_400 ?_
  obtain ⟨w6, e5, hf⟩ := ob1 hf
  have g7 := sX10_chain d (by omega) e5
  refine rt_callV (pc := 402) (As := [.int v3, .int a6]) (st := []) me_X10_chain mi_X10_chain wl_X10_289 dX10_partOf_402 rfl (by decide) rfl g7.1 g7.2 ?_
  refine rt_iload (pc := 405) (i := 7) (x := a7) 3 rfl dX10_partOf_405 ?_
  refine rt_istore (pc := 407) (i := 6) (x := a7) (l2 := [(6, .int a7), (0, va_rf a0), (1, .int a1), (7, .int a7), (8, .int a8)]) (by decide) (by first | rfl | (simp [rt_cat, cat_i, cat_l]; done) | (simp [rt_cat, cat_i, cat_l]; decide)) dX10_partOf_407 ?_
  refine rt_goto (pc := 409) (tgt := 337) (by decide) dX10_partOf_409 ?_
  exact rt_locals (rt_sub [1, 2, 0] rfl) (hk337 _ _ _ _ _ hf)
noncomputable def bX10_partOf_355 (E : ah_E) (k337 : Option Nat → Int32 → Int32 → ah_H → Option ah_H) : Nat → Option Nat → Int32 → Int32 → Int32 → Int32 → ah_H → Option ah_H
  | 0 => fun _ _ _ _ _ _ => none
  | n + 1 => fun a0 a1 a6 a7 a8 h =>
  (hp_gi h a0 11 46).bind fun v1 =>
  if v1 ≤ (a8 + (1 : Int32)) then
    bX10_partOf_392 E k337 a0 a1 a6 a7 a8 h
  else
  (hp_gr h a0 11 45).bind fun v4 =>
  (hp_ldl h v4 (a8 + (1 : Int32))).bind fun v6 =>
  (hp_gr h a0 11 37).bind fun v8 =>
  (hp_ldl h v8 a6).bind fun v10 =>
  if v10 < v6 then
    bX10_partOf_392 E k337 a0 a1 a6 a7 a8 h
  else
  bX10_partOf_355 E k337 n a0 a1 a6 a7 (a8 + 1) h
set_option maxRecDepth 20000 in
set_option maxHeartbeats 4000000 in
theorem rX10_partOf_355 {X : ah_X} {d : Nat} (hd : 0 ≤ d) {k337 : Option Nat → Int32 → Int32 → ah_H → Option ah_H} (hk337 : ∀ (x0 : Option Nat) (x1 : Int32) (x2 : Int32) (h : ah_H) (h2 : ah_H), k337 x0 x1 x2 h = some h2 → Rt X yX10_partOf cX10_partOf 10 (d + 1) 337 [(0, va_rf x0), (1, .int x1), (6, .int x2)] [] h none h2) (n : Nat) : ∀ (a0 : Option Nat) (a1 : Int32) (a6 : Int32) (a7 : Int32) (a8 : Int32) (h : ah_H) (h2 : ah_H), bX10_partOf_355 X.2.2.2 k337 n a0 a1 a6 a7 a8 h = some h2 → Rt X yX10_partOf cX10_partOf 10 (d + 1) 355 [(0, va_rf a0), (1, .int a1), (6, .int a6), (7, .int a7), (8, .int a8)] [] h none h2 := by
  induction n with
  | zero => intro a0 a1 a6 a7 a8 h h2 hf; cases hf
  | succ n ih =>
  intro a0 a1 a6 a7 a8 h h2 hf
  unfold bX10_partOf_355 at hf
  refine rt_iload (pc := 355) (i := 8) (x := a8) 4 rfl dX10_partOf_355 ?_
  refine rt_iconst (pc := 357) (n := 1) (v := (1 : Int32)) (by decide) dX10_partOf_357 ?_
  refine rt_iadd (pc := 358) (x := a8) (z := (1 : Int32)) dX10_partOf_358 ?_
  refine rt_aload_n (pc := 359) (k0 := 0) (x := a0) 0 rfl dX10_partOf_359 ?_
  obtain ⟨v1, e2, hf⟩ := ob1 hf
  refine rt_gi (pc := 360) fd_X10_337 dX10_partOf_360 e2 ?_
  by_cases c3 : v1 ≤ (a8 + (1 : Int32))
  · rw [if_pos c3] at hf
    refine rt_icmp_ge_p (pc := 363) (x := (a8 + (1 : Int32))) (z := v1) (tgt := 392) (by decide) dX10_partOf_363 c3 ?_
    exact rX10_partOf_392 hd hk337 hf
  rw [if_neg c3] at hf
  refine rt_icmp_ge_n (pc := 363) (x := (a8 + (1 : Int32))) (z := v1) (tgt := 392) (by decide) dX10_partOf_363 c3 ?_
  refine rt_aload_n (pc := 366) (k0 := 0) (x := a0) 0 rfl dX10_partOf_366 ?_
  obtain ⟨v4, e5, hf⟩ := ob1 hf
  refine rt_gr (pc := 367) fd_X10_188 dX10_partOf_367 e5 ?_
  refine rt_iload (pc := 370) (i := 8) (x := a8) 4 rfl dX10_partOf_370 ?_
  refine rt_iconst (pc := 372) (n := 1) (v := (1 : Int32)) (by decide) dX10_partOf_372 ?_
  refine rt_iadd (pc := 373) (x := a8) (z := (1 : Int32)) dX10_partOf_373 ?_
  obtain ⟨v6, e7, hf⟩ := ob1 hf
  refine rt_lald (pc := 374) dX10_partOf_374 e7 ?_
  refine rt_aload_n (pc := 375) (k0 := 0) (x := a0) 0 rfl dX10_partOf_375 ?_
  obtain ⟨v8, e9, hf⟩ := ob1 hf
  refine rt_gr (pc := 376) fd_X10_170 dX10_partOf_376 e9 ?_
  refine rt_iload (pc := 379) (i := 6) (x := a6) 2 rfl dX10_partOf_379 ?_
  obtain ⟨v10, e11, hf⟩ := ob1 hf
  refine rt_lald (pc := 381) dX10_partOf_381 e11 ?_
  by_cases c12 : v10 < v6
  · rw [if_pos c12] at hf
    refine rt_lif_gt_p (pc := 382) (x := v6) (z := v10) (tgt := 392) (by decide) dX10_partOf_382 dX10_partOf_383 c12 ?_
    exact rX10_partOf_392 hd hk337 hf
  rw [if_neg c12] at hf
  refine rt_lif_gt_n (pc := 382) (x := v6) (z := v10) (tgt := 392) (by decide) dX10_partOf_382 dX10_partOf_383 c12 ?_
  refine rt_iinc (pc := 386) (i := 8) (n := 1) (x := a8) (v := (a8 + 1)) (l2 := [(8, .int (a8 + 1)), (0, va_rf a0), (1, .int a1), (6, .int a6), (7, .int a7)]) 4 rfl rfl (by decide) (by first | rfl | (simp [rt_cat, cat_i, cat_l]; done) | (simp [rt_cat, cat_i, cat_l]; decide)) dX10_partOf_386 ?_
  refine rt_goto (pc := 389) (tgt := 355) (by decide) dX10_partOf_389 ?_
  exact rt_locals (rt_sub [1, 2, 3, 4, 0] rfl) (ih _ _ _ _ _ _ _ hf)
noncomputable def bX10_partOf_337 (E : ah_E) : Nat → Option Nat → Int32 → Int32 → ah_H → Option ah_H
  | 0 => fun _ _ _ _ => none
  | n + 1 => fun a0 a1 a6 h =>
  if a6 = (-1 : Int32) then
    (fX10_give E a0 a1 h).bind fun w3 =>
    some w3
  else
  (hp_gr h a0 11 39).bind fun v5 =>
  (hp_ldi h v5 a6).bind fun v7 =>
  bX10_partOf_355 E (bX10_partOf_337 E n) zf a0 a1 a6 v7 (0 : Int32) h
set_option maxRecDepth 20000 in
set_option maxHeartbeats 4000000 in
theorem rX10_partOf_337 {X : ah_X} {d : Nat} (hd : 0 ≤ d) (n : Nat) : ∀ (a0 : Option Nat) (a1 : Int32) (a6 : Int32) (h : ah_H) (h2 : ah_H), bX10_partOf_337 X.2.2.2 n a0 a1 a6 h = some h2 → Rt X yX10_partOf cX10_partOf 10 (d + 1) 337 [(0, va_rf a0), (1, .int a1), (6, .int a6)] [] h none h2 := by
  induction n with
  | zero => intro a0 a1 a6 h h2 hf; cases hf
  | succ n ih =>
  intro a0 a1 a6 h h2 hf
  unfold bX10_partOf_337 at hf
  refine rt_iload (pc := 337) (i := 6) (x := a6) 2 rfl dX10_partOf_337 ?_
  refine rt_iconst (pc := 339) (n := -1) (v := (-1 : Int32)) (by decide) dX10_partOf_339 ?_
  by_cases c1 : a6 = (-1 : Int32)
  · rw [if_pos c1] at hf
    refine rt_icmp_eq_p (pc := 340) (x := a6) (z := (-1 : Int32)) (tgt := 412) (by decide) dX10_partOf_340 c1 ?_
    refine rt_aload_n (pc := 412) (k0 := 0) (x := a0) 0 rfl dX10_partOf_412 ?_
    refine rt_iload_n (pc := 413) (k0 := 1) (x := a1) 1 rfl dX10_partOf_413 ?_
    obtain ⟨w3, e2, hf⟩ := ob1 hf
    have g4 := sX10_give d (by omega) e2
    refine rt_callV (pc := 414) (As := [.int a1]) (st := []) me_X10_give mi_X10_give wl_X10_340 dX10_partOf_414 rfl (by decide) rfl g4.1 g4.2 ?_
    cases hf
    exact rt_ret (pc := 417) dX10_partOf_417 rfl
  rw [if_neg c1] at hf
  refine rt_icmp_eq_n (pc := 340) (x := a6) (z := (-1 : Int32)) (tgt := 412) (by decide) dX10_partOf_340 c1 ?_
  refine rt_aload_n (pc := 343) (k0 := 0) (x := a0) 0 rfl dX10_partOf_343 ?_
  obtain ⟨v5, e6, hf⟩ := ob1 hf
  refine rt_gr (pc := 344) fd_X10_176 dX10_partOf_344 e6 ?_
  refine rt_iload (pc := 347) (i := 6) (x := a6) 2 rfl dX10_partOf_347 ?_
  obtain ⟨v7, e8, hf⟩ := ob1 hf
  refine rt_iald (pc := 349) dX10_partOf_349 e8 ?_
  refine rt_istore (pc := 350) (i := 7) (x := v7) (l2 := [(7, .int v7), (0, va_rf a0), (1, .int a1), (6, .int a6)]) (by decide) (by first | rfl | (simp [rt_cat, cat_i, cat_l]; done) | (simp [rt_cat, cat_i, cat_l]; decide)) dX10_partOf_350 ?_
  refine rt_iconst (pc := 352) (n := 0) (v := (0 : Int32)) (by decide) dX10_partOf_352 ?_
  refine rt_istore (pc := 353) (i := 8) (x := (0 : Int32)) (l2 := [(8, .int (0 : Int32)), (7, .int v7), (0, va_rf a0), (1, .int a1), (6, .int a6)]) (by decide) (by first | rfl | (simp [rt_cat, cat_i, cat_l]; done) | (simp [rt_cat, cat_i, cat_l]; decide)) dX10_partOf_353 ?_
  exact rt_locals (rt_sub [2, 3, 4, 1, 0] rfl) (rX10_partOf_355 hd ih zf _ _ _ _ _ _ _ hf)
noncomputable def bX10_partOf_66 (E : ah_E) : Nat → Option Nat → Int32 → Int32 → Int32 → Int32 → Int32 → ah_H → Option ah_H
  | 0 => fun _ _ _ _ _ _ _ => none
  | n + 1 => fun a0 a1 a2 a4 a5 a6 h =>
  (hp_gi h a0 11 46).bind fun v1 =>
  if v1 ≤ a6 then
    (hp_gr h a0 11 24).bind fun v4 =>
    (hp_ldi h v4 a1).bind fun v6 =>
    bX10_partOf_337 E zf a0 a1 v6 h
  else
  (hp_gi h a0 11 46).bind fun v8 =>
  if v8 = 0 then none else
  (hp_gi h a0 11 46).bind fun v11 =>
  if v11 = 0 then none else
  if (a2 - a2 / v11 * v11) ≤ a6 then
    bX10_partOf_97 E (bX10_partOf_66 E n) a0 a1 a2 a4 a5 a6 (a2 / v8) (0 : Int32) h
  else
  bX10_partOf_97 E (bX10_partOf_66 E n) a0 a1 a2 a4 a5 a6 (a2 / v8) (1 : Int32) h
set_option maxRecDepth 20000 in
set_option maxHeartbeats 4000000 in
theorem rX10_partOf_66 {X : ah_X} {d : Nat} (hd : 0 ≤ d) (n : Nat) : ∀ (a0 : Option Nat) (a1 : Int32) (a2 : Int32) (a4 : Int32) (a5 : Int32) (a6 : Int32) (h : ah_H) (h2 : ah_H), bX10_partOf_66 X.2.2.2 n a0 a1 a2 a4 a5 a6 h = some h2 → Rt X yX10_partOf cX10_partOf 10 (d + 1) 66 [(0, va_rf a0), (1, .int a1), (2, .int a2), (4, .int a4), (5, .int a5), (6, .int a6)] [] h none h2 := by
  induction n with
  | zero => intro a0 a1 a2 a4 a5 a6 h h2 hf; cases hf
  | succ n ih =>
  intro a0 a1 a2 a4 a5 a6 h h2 hf
  unfold bX10_partOf_66 at hf
  refine rt_iload (pc := 66) (i := 6) (x := a6) 5 rfl dX10_partOf_66 ?_
  refine rt_aload_n (pc := 68) (k0 := 0) (x := a0) 0 rfl dX10_partOf_68 ?_
  obtain ⟨v1, e2, hf⟩ := ob1 hf
  refine rt_gi (pc := 69) fd_X10_337 dX10_partOf_69 e2 ?_
  by_cases c3 : v1 ≤ a6
  · rw [if_pos c3] at hf
    refine rt_icmp_ge_p (pc := 72) (x := a6) (z := v1) (tgt := 329) (by decide) dX10_partOf_72 c3 ?_
    refine rt_aload_n (pc := 329) (k0 := 0) (x := a0) 0 rfl dX10_partOf_329 ?_
    obtain ⟨v4, e5, hf⟩ := ob1 hf
    refine rt_gr (pc := 330) fd_X10_139 dX10_partOf_330 e5 ?_
    refine rt_iload_n (pc := 333) (k0 := 1) (x := a1) 1 rfl dX10_partOf_333 ?_
    obtain ⟨v6, e7, hf⟩ := ob1 hf
    refine rt_iald (pc := 334) dX10_partOf_334 e7 ?_
    refine rt_istore (pc := 335) (i := 6) (x := v6) (l2 := [(6, .int v6), (0, va_rf a0), (1, .int a1), (2, .int a2), (4, .int a4), (5, .int a5)]) (by decide) (by first | rfl | (simp [rt_cat, cat_i, cat_l]; done) | (simp [rt_cat, cat_i, cat_l]; decide)) dX10_partOf_335 ?_
    exact rt_locals (rt_sub [1, 2, 0] rfl) (rX10_partOf_337 hd zf _ _ _ _ _ hf)
  rw [if_neg c3] at hf
  refine rt_icmp_ge_n (pc := 72) (x := a6) (z := v1) (tgt := 329) (by decide) dX10_partOf_72 c3 ?_
  refine rt_iload_n (pc := 75) (k0 := 2) (x := a2) 2 rfl dX10_partOf_75 ?_
  refine rt_aload_n (pc := 76) (k0 := 0) (x := a0) 0 rfl dX10_partOf_76 ?_
  obtain ⟨v8, e9, hf⟩ := ob1 hf
  refine rt_gi (pc := 77) fd_X10_337 dX10_partOf_77 e9 ?_
  by_cases c10 : v8 = 0
  · rw [if_pos c10] at hf; cases hf
  rw [if_neg c10] at hf
  refine rt_idiv (pc := 80) (x := a2) (z := v8) c10 dX10_partOf_80 ?_
  refine rt_iload (pc := 81) (i := 6) (x := a6) 5 rfl dX10_partOf_81 ?_
  refine rt_iload_n (pc := 83) (k0 := 2) (x := a2) 2 rfl dX10_partOf_83 ?_
  refine rt_aload_n (pc := 84) (k0 := 0) (x := a0) 0 rfl dX10_partOf_84 ?_
  obtain ⟨v11, e12, hf⟩ := ob1 hf
  refine rt_gi (pc := 85) fd_X10_337 dX10_partOf_85 e12 ?_
  by_cases c13 : v11 = 0
  · rw [if_pos c13] at hf; cases hf
  rw [if_neg c13] at hf
  refine rt_irem (pc := 88) (x := a2) (z := v11) c13 dX10_partOf_88 ?_
  by_cases c14 : (a2 - a2 / v11 * v11) ≤ a6
  · rw [if_pos c14] at hf
    refine rt_icmp_ge_p (pc := 89) (x := a6) (z := (a2 - a2 / v11 * v11)) (tgt := 96) (by decide) dX10_partOf_89 c14 ?_
    refine rt_iconst (pc := 96) (n := 0) (v := (0 : Int32)) (by decide) dX10_partOf_96 ?_
    exact rX10_partOf_97 hd ih hf
  rw [if_neg c14] at hf
  refine rt_icmp_ge_n (pc := 89) (x := a6) (z := (a2 - a2 / v11 * v11)) (tgt := 96) (by decide) dX10_partOf_89 c14 ?_
  refine rt_iconst (pc := 92) (n := 1) (v := (1 : Int32)) (by decide) dX10_partOf_92 ?_
  refine rt_goto (pc := 93) (tgt := 97) (by decide) dX10_partOf_93 ?_
  exact rX10_partOf_97 hd ih hf
noncomputable def bX10_partOf_40 (E : ah_E) (a0 : Option Nat) (a1 : Int32) (a2 : Int32) (s0 : Int32) (h : ah_H) : Option ah_H :=
  if s0 = 0 then none else
  (hp_pv h a0 11 46 (.int (((a2 + s0) - (1 : Int32)) / s0))).bind fun w2 =>
  (hp_gr w2 a0 11 19).bind fun v4 =>
  (hp_ldi w2 v4 a1).bind fun v6 =>
  bX10_partOf_66 E zf a0 a1 a2 (0 : Int32) v6 (0 : Int32) w2
set_option maxRecDepth 20000 in
set_option maxHeartbeats 4000000 in
theorem rX10_partOf_40 {X : ah_X} {d : Nat} (hd : 0 ≤ d) {a0 : Option Nat} {a1 : Int32} {a2 : Int32} {s0 : Int32} {h : ah_H} {h2 : ah_H} (hf : bX10_partOf_40 X.2.2.2 a0 a1 a2 s0 h = some h2) : Rt X yX10_partOf cX10_partOf 10 (d + 1) 40 [(0, va_rf a0), (1, .int a1), (2, .int a2)] [.int s0] h none h2 := by
  unfold bX10_partOf_40 at hf
  refine rt_istore_n (pc := 40) (k0 := 3) (x := s0) (l2 := [(3, .int s0), (0, va_rf a0), (1, .int a1), (2, .int a2)]) (by decide) (by first | rfl | (simp [rt_cat, cat_i, cat_l]; done) | (simp [rt_cat, cat_i, cat_l]; decide)) dX10_partOf_40 ?_
  refine rt_aload_n (pc := 41) (k0 := 0) (x := a0) 1 rfl dX10_partOf_41 ?_
  refine rt_iload_n (pc := 42) (k0 := 2) (x := a2) 3 rfl dX10_partOf_42 ?_
  refine rt_iload_n (pc := 43) (k0 := 3) (x := s0) 0 rfl dX10_partOf_43 ?_
  refine rt_iadd (pc := 44) (x := a2) (z := s0) dX10_partOf_44 ?_
  refine rt_iconst (pc := 45) (n := 1) (v := (1 : Int32)) (by decide) dX10_partOf_45 ?_
  refine rt_isub (pc := 46) (x := (a2 + s0)) (z := (1 : Int32)) dX10_partOf_46 ?_
  refine rt_iload_n (pc := 47) (k0 := 3) (x := s0) 0 rfl dX10_partOf_47 ?_
  by_cases c1 : s0 = 0
  · rw [if_pos c1] at hf; cases hf
  rw [if_neg c1] at hf
  refine rt_idiv (pc := 48) (x := ((a2 + s0) - (1 : Int32))) (z := s0) c1 dX10_partOf_48 ?_
  obtain ⟨w2, e3, hf⟩ := ob1 hf
  refine rt_putf (pc := 49) (x := a0) fw_X10_337 (Or.inl rfl) (pf_i _).1 (pf_i _).2 dX10_partOf_49 e3 ?_
  refine rt_iconst (pc := 52) (n := 0) (v := (0 : Int32)) (by decide) dX10_partOf_52 ?_
  refine rt_istore (pc := 53) (i := 4) (x := (0 : Int32)) (l2 := [(4, .int (0 : Int32)), (3, .int s0), (0, va_rf a0), (1, .int a1), (2, .int a2)]) (by decide) (by first | rfl | (simp [rt_cat, cat_i, cat_l]; done) | (simp [rt_cat, cat_i, cat_l]; decide)) dX10_partOf_53 ?_
  refine rt_aload_n (pc := 55) (k0 := 0) (x := a0) 2 rfl dX10_partOf_55 ?_
  obtain ⟨v4, e5, hf⟩ := ob1 hf
  refine rt_gr (pc := 56) fd_X10_123 dX10_partOf_56 e5 ?_
  refine rt_iload_n (pc := 59) (k0 := 1) (x := a1) 3 rfl dX10_partOf_59 ?_
  obtain ⟨v6, e7, hf⟩ := ob1 hf
  refine rt_iald (pc := 60) dX10_partOf_60 e7 ?_
  refine rt_istore (pc := 61) (i := 5) (x := v6) (l2 := [(5, .int v6), (4, .int (0 : Int32)), (3, .int s0), (0, va_rf a0), (1, .int a1), (2, .int a2)]) (by decide) (by first | rfl | (simp [rt_cat, cat_i, cat_l]; done) | (simp [rt_cat, cat_i, cat_l]; decide)) dX10_partOf_61 ?_
  refine rt_iconst (pc := 63) (n := 0) (v := (0 : Int32)) (by decide) dX10_partOf_63 ?_
  refine rt_istore (pc := 64) (i := 6) (x := (0 : Int32)) (l2 := [(6, .int (0 : Int32)), (5, .int v6), (4, .int (0 : Int32)), (3, .int s0), (0, va_rf a0), (1, .int a1), (2, .int a2)]) (by decide) (by first | rfl | (simp [rt_cat, cat_i, cat_l]; done) | (simp [rt_cat, cat_i, cat_l]; decide)) dX10_partOf_64 ?_
  exact rt_locals (rt_sub [4, 5, 6, 2, 1, 0] rfl) (rX10_partOf_66 hd zf _ _ _ _ _ _ _ _ hf)
noncomputable def bX10_partOf_24 (E : ah_E) (a0 : Option Nat) (a1 : Int32) (s0 : Int32) (h : ah_H) : Option ah_H :=
  (hp_gr h a0 11 18).bind fun v1 =>
  (hp_ldb h v1 a1).bind fun v3 =>
  if v3 = 0 then
    bX10_partOf_40 E a0 a1 s0 (5 : Int32) h
  else
  bX10_partOf_40 E a0 a1 s0 (6 : Int32) h
set_option maxRecDepth 20000 in
set_option maxHeartbeats 4000000 in
theorem rX10_partOf_24 {X : ah_X} {d : Nat} (hd : 0 ≤ d) {a0 : Option Nat} {a1 : Int32} {s0 : Int32} {h : ah_H} {h2 : ah_H} (hf : bX10_partOf_24 X.2.2.2 a0 a1 s0 h = some h2) : Rt X yX10_partOf cX10_partOf 10 (d + 1) 24 [(0, va_rf a0), (1, .int a1)] [.int s0] h none h2 := by
  unfold bX10_partOf_24 at hf
  refine rt_istore_n (pc := 24) (k0 := 2) (x := s0) (l2 := [(2, .int s0), (0, va_rf a0), (1, .int a1)]) (by decide) (by first | rfl | (simp [rt_cat, cat_i, cat_l]; done) | (simp [rt_cat, cat_i, cat_l]; decide)) dX10_partOf_24 ?_
  refine rt_aload_n (pc := 25) (k0 := 0) (x := a0) 1 rfl dX10_partOf_25 ?_
  obtain ⟨v1, e2, hf⟩ := ob1 hf
  refine rt_gr (pc := 26) fd_X10_119 dX10_partOf_26 e2 ?_
  refine rt_iload_n (pc := 29) (k0 := 1) (x := a1) 2 rfl dX10_partOf_29 ?_
  obtain ⟨v3, e4, hf⟩ := ob1 hf
  refine rt_bald (pc := 30) dX10_partOf_30 e4 ?_
  by_cases c5 : v3 = 0
  · rw [if_pos c5] at hf
    refine rt_if_eq_p (pc := 31) (x := v3) (tgt := 39) (by decide) dX10_partOf_31 c5 ?_
    refine rt_iconst (pc := 39) (n := 5) (v := (5 : Int32)) (by decide) dX10_partOf_39 ?_
    exact rt_locals (rt_sub [1, 2, 0] rfl) (rX10_partOf_40 hd hf)
  rw [if_neg c5] at hf
  refine rt_if_eq_n (pc := 31) (x := v3) (tgt := 39) (by decide) dX10_partOf_31 c5 ?_
  refine rt_bipush (pc := 34) (n := 6) (v := (6 : Int32)) (by decide) dX10_partOf_34 ?_
  refine rt_goto (pc := 36) (tgt := 40) (by decide) dX10_partOf_36 ?_
  exact rt_locals (rt_sub [1, 2, 0] rfl) (rX10_partOf_40 hd hf)
noncomputable def bX10_partOf_0 (E : ah_E) (a0 : Option Nat) (a1 : Int32) (h : ah_H) : Option ah_H :=
  (hp_gr h a0 11 18).bind fun v1 =>
  (hp_ldb h v1 a1).bind fun v3 =>
  if v3 = 0 then
    (hp_gr h a0 11 21).bind fun v6 =>
    (hp_ldi h v6 a1).bind fun v8 =>
    bX10_partOf_24 E a0 a1 v8 h
  else
  (hp_gr h a0 11 20).bind fun v10 =>
  (hp_ldi h v10 a1).bind fun v12 =>
  bX10_partOf_24 E a0 a1 v12 h
set_option maxRecDepth 20000 in
set_option maxHeartbeats 4000000 in
theorem rX10_partOf_0 {X : ah_X} {d : Nat} (hd : 0 ≤ d) {a0 : Option Nat} {a1 : Int32} {h : ah_H} {h2 : ah_H} (hf : bX10_partOf_0 X.2.2.2 a0 a1 h = some h2) : Rt X yX10_partOf cX10_partOf 10 (d + 1) 0 [(0, va_rf a0), (1, .int a1)] [] h none h2 := by
  unfold bX10_partOf_0 at hf
  refine rt_aload_n (pc := 0) (k0 := 0) (x := a0) 0 rfl dX10_partOf_0 ?_
  obtain ⟨v1, e2, hf⟩ := ob1 hf
  refine rt_gr (pc := 1) fd_X10_119 dX10_partOf_1 e2 ?_
  refine rt_iload_n (pc := 4) (k0 := 1) (x := a1) 1 rfl dX10_partOf_4 ?_
  obtain ⟨v3, e4, hf⟩ := ob1 hf
  refine rt_bald (pc := 5) dX10_partOf_5 e4 ?_
  by_cases c5 : v3 = 0
  · rw [if_pos c5] at hf
    refine rt_if_eq_p (pc := 6) (x := v3) (tgt := 18) (by decide) dX10_partOf_6 c5 ?_
    refine rt_aload_n (pc := 18) (k0 := 0) (x := a0) 0 rfl dX10_partOf_18 ?_
    obtain ⟨v6, e7, hf⟩ := ob1 hf
    refine rt_gr (pc := 19) fd_X10_129 dX10_partOf_19 e7 ?_
    refine rt_iload_n (pc := 22) (k0 := 1) (x := a1) 1 rfl dX10_partOf_22 ?_
    obtain ⟨v8, e9, hf⟩ := ob1 hf
    refine rt_iald (pc := 23) dX10_partOf_23 e9 ?_
    exact rX10_partOf_24 hd hf
  rw [if_neg c5] at hf
  refine rt_if_eq_n (pc := 6) (x := v3) (tgt := 18) (by decide) dX10_partOf_6 c5 ?_
  refine rt_aload_n (pc := 9) (k0 := 0) (x := a0) 0 rfl dX10_partOf_9 ?_
  obtain ⟨v10, e11, hf⟩ := ob1 hf
  refine rt_gr (pc := 10) fd_X10_126 dX10_partOf_10 e11 ?_
  refine rt_iload_n (pc := 13) (k0 := 1) (x := a1) 1 rfl dX10_partOf_13 ?_
  obtain ⟨v12, e13, hf⟩ := ob1 hf
  refine rt_iald (pc := 14) dX10_partOf_14 e13 ?_
  refine rt_goto (pc := 15) (tgt := 24) (by decide) dX10_partOf_15 ?_
  exact rX10_partOf_24 hd hf
noncomputable def fX10_partOf (E : ah_E) (a0 : Option Nat) (a1 : Int32) (h : ah_H) : Option ah_H := if hp_rcv h a0 11 = false then none else bX10_partOf_0 E a0 a1 h
set_option maxRecDepth 20000 in
set_option maxHeartbeats 4000000 in
theorem sX10_partOf {X : ah_X} (d : Nat) (hd : 1 ≤ d) {a0 : Option Nat} {a1 : Int32} {h : ah_H} {h2 : ah_H} (hf : fX10_partOf X.2.2.2 a0 a1 h = some h2) : hp_rcv h a0 11 = true ∧ Rn X yX10_partOf cX10_partOf 10 none d [va_rf a0, .int a1] h none h2 := by
  unfold fX10_partOf at hf
  by_cases c0 : hp_rcv h a0 11 = false
  · rw [if_pos c0] at hf; cases hf
  rw [if_neg c0] at hf
  refine ⟨(Bool.not_eq_false _).mp c0, ?_⟩
  obtain ⟨d, rfl⟩ : ∃ k, d = k + 1 := ⟨d - 1, by omega⟩
  exact Rn.of2 me_X10_partOf (by simp [lg_sl, rt_cat, cat_i, cat_l]) rfl (l := [(0, va_rf a0), (1, .int a1)]) (by simp [lv_args, rt_cat, cat_i, cat_l]) (rX10_partOf_0 (by omega) hf)
noncomputable def bX10_grow_43 (E : ah_E) (k0 : Option Nat → ah_H → Option ah_H) : Nat → Option Nat → Int32 → ah_H → Option ah_H
  | 0 => fun _ _ _ => none
  | n + 1 => fun a0 a1 h =>
  (hp_gi h a0 11 46).bind fun v1 =>
  if v1 ≤ a1 then
    k0 a0 h
  else
  (hp_gr h a0 11 22).bind fun v4 =>
  (hp_gi h a0 11 30).bind fun v6 =>
  (hp_gr h a0 11 44).bind fun v8 =>
  (hp_ldi h v8 a1).bind fun v10 =>
  (hp_sti h v4 (((128 : Int32) * v6) + a1) v10).bind fun w12 =>
  (hp_gr w12 a0 11 23).bind fun v14 =>
  (hp_gi w12 a0 11 30).bind fun v16 =>
  (hp_gr w12 a0 11 45).bind fun v18 =>
  (hp_ldl w12 v18 a1).bind fun v20 =>
  (hp_stl w12 v14 (((128 : Int32) * v16) + a1) v20).bind fun w22 =>
  bX10_grow_43 E k0 n a0 (a1 + 1) w22
set_option maxRecDepth 20000 in
set_option maxHeartbeats 4000000 in
theorem rX10_grow_43 {X : ah_X} {d : Nat} (hd : 1 ≤ d) {k0 : Option Nat → ah_H → Option ah_H} (hk0 : ∀ (x0 : Option Nat) (h : ah_H) (h2 : ah_H), k0 x0 h = some h2 → Rt X yX10_grow cX10_grow 2 (d + 1) 0 [(0, va_rf x0)] [] h none h2) (n : Nat) : ∀ (a0 : Option Nat) (a1 : Int32) (h : ah_H) (h2 : ah_H), bX10_grow_43 X.2.2.2 k0 n a0 a1 h = some h2 → Rt X yX10_grow cX10_grow 2 (d + 1) 43 [(0, va_rf a0), (1, .int a1)] [] h none h2 := by
  induction n with
  | zero => intro a0 a1 h h2 hf; cases hf
  | succ n ih =>
  intro a0 a1 h h2 hf
  unfold bX10_grow_43 at hf
  refine rt_iload_n (pc := 43) (k0 := 1) (x := a1) 1 rfl dX10_grow_43 ?_
  refine rt_aload_n (pc := 44) (k0 := 0) (x := a0) 0 rfl dX10_grow_44 ?_
  obtain ⟨v1, e2, hf⟩ := ob1 hf
  refine rt_gi (pc := 45) fd_X10_337 dX10_grow_45 e2 ?_
  by_cases c3 : v1 ≤ a1
  · rw [if_pos c3] at hf
    refine rt_icmp_ge_p (pc := 48) (x := a1) (z := v1) (tgt := 99) (by decide) dX10_grow_48 c3 ?_
    refine rt_goto (pc := 99) (tgt := 0) (by decide) dX10_grow_99 ?_
    exact rt_locals (rt_sub [0] rfl) (hk0 _ _ _ hf)
  rw [if_neg c3] at hf
  refine rt_icmp_ge_n (pc := 48) (x := a1) (z := v1) (tgt := 99) (by decide) dX10_grow_48 c3 ?_
  refine rt_aload_n (pc := 51) (k0 := 0) (x := a0) 0 rfl dX10_grow_51 ?_
  obtain ⟨v4, e5, hf⟩ := ob1 hf
  refine rt_gr (pc := 52) fd_X10_133 dX10_grow_52 e5 ?_
  refine rt_sipush (pc := 55) (n := 128) (v := (128 : Int32)) (by decide) dX10_grow_55 ?_
  refine rt_aload_n (pc := 58) (k0 := 0) (x := a0) 0 rfl dX10_grow_58 ?_
  obtain ⟨v6, e7, hf⟩ := ob1 hf
  refine rt_gi (pc := 59) fd_X10_277 dX10_grow_59 e7 ?_
  refine rt_imul (pc := 62) (x := (128 : Int32)) (z := v6) dX10_grow_62 ?_
  refine rt_iload_n (pc := 63) (k0 := 1) (x := a1) 1 rfl dX10_grow_63 ?_
  refine rt_iadd (pc := 64) (x := ((128 : Int32) * v6)) (z := a1) dX10_grow_64 ?_
  refine rt_aload_n (pc := 65) (k0 := 0) (x := a0) 0 rfl dX10_grow_65 ?_
  obtain ⟨v8, e9, hf⟩ := ob1 hf
  refine rt_gr (pc := 66) fd_X10_185 dX10_grow_66 e9 ?_
  refine rt_iload_n (pc := 69) (k0 := 1) (x := a1) 1 rfl dX10_grow_69 ?_
  obtain ⟨v10, e11, hf⟩ := ob1 hf
  refine rt_iald (pc := 70) dX10_grow_70 e11 ?_
  obtain ⟨w12, e13, hf⟩ := ob1 hf
  refine rt_iast (pc := 71) dX10_grow_71 e13 ?_
  refine rt_aload_n (pc := 72) (k0 := 0) (x := a0) 0 rfl dX10_grow_72 ?_
  obtain ⟨v14, e15, hf⟩ := ob1 hf
  refine rt_gr (pc := 73) fd_X10_136 dX10_grow_73 e15 ?_
  refine rt_sipush (pc := 76) (n := 128) (v := (128 : Int32)) (by decide) dX10_grow_76 ?_
  refine rt_aload_n (pc := 79) (k0 := 0) (x := a0) 0 rfl dX10_grow_79 ?_
  obtain ⟨v16, e17, hf⟩ := ob1 hf
  refine rt_gi (pc := 80) fd_X10_277 dX10_grow_80 e17 ?_
  refine rt_imul (pc := 83) (x := (128 : Int32)) (z := v16) dX10_grow_83 ?_
  refine rt_iload_n (pc := 84) (k0 := 1) (x := a1) 1 rfl dX10_grow_84 ?_
  refine rt_iadd (pc := 85) (x := ((128 : Int32) * v16)) (z := a1) dX10_grow_85 ?_
  refine rt_aload_n (pc := 86) (k0 := 0) (x := a0) 0 rfl dX10_grow_86 ?_
  obtain ⟨v18, e19, hf⟩ := ob1 hf
  refine rt_gr (pc := 87) fd_X10_188 dX10_grow_87 e19 ?_
  refine rt_iload_n (pc := 90) (k0 := 1) (x := a1) 1 rfl dX10_grow_90 ?_
  obtain ⟨v20, e21, hf⟩ := ob1 hf
  refine rt_lald (pc := 91) dX10_grow_91 e21 ?_
  obtain ⟨w22, e23, hf⟩ := ob1 hf
  refine rt_last (pc := 92) dX10_grow_92 e23 ?_
  refine rt_iinc (pc := 93) (i := 1) (n := 1) (x := a1) (v := (a1 + 1)) (l2 := [(1, .int (a1 + 1)), (0, va_rf a0)]) 1 rfl rfl (by decide) (by first | rfl | (simp [rt_cat, cat_i, cat_l]; done) | (simp [rt_cat, cat_i, cat_l]; decide)) dX10_grow_93 ?_
  refine rt_goto (pc := 96) (tgt := 43) (by decide) dX10_grow_96 ?_
  exact rt_locals (rt_sub [1, 0] rfl) (ih _ _ _ _ hf)
noncomputable def bX10_grow_0 (E : ah_E) : Nat → Option Nat → ah_H → Option ah_H
  | 0 => fun _ _ => none
  | n + 1 => fun a0 h =>
  (hp_gi h a0 11 30).bind fun v1 =>
  ob2 (fX10_isTooBig E a0 v1 h) fun v5 w4 =>
  if v5 = 0 then
    some w4
  else
  (hp_gi w4 a0 11 30).bind fun v8 =>
  (fX10_partOf E a0 v8 w4).bind fun w11 =>
  ob2 (fX10_page E a0 (0 : Int32) w11) fun v15 w14 =>
  (hp_pv w14 a0 11 30 (.int v15)).bind fun w17 =>
  (hp_gr w17 a0 11 21).bind fun v19 =>
  (hp_gi w17 a0 11 30).bind fun v21 =>
  (hp_gi w17 a0 11 46).bind fun v23 =>
  (hp_sti w17 v19 v21 v23).bind fun w25 =>
  bX10_grow_43 E (bX10_grow_0 E n) zf a0 (0 : Int32) w25
set_option maxRecDepth 20000 in
set_option maxHeartbeats 4000000 in
theorem rX10_grow_0 {X : ah_X} {d : Nat} (hd : 1 ≤ d) (n : Nat) : ∀ (a0 : Option Nat) (h : ah_H) (h2 : ah_H), bX10_grow_0 X.2.2.2 n a0 h = some h2 → Rt X yX10_grow cX10_grow 2 (d + 1) 0 [(0, va_rf a0)] [] h none h2 := by
  induction n with
  | zero => intro a0 h h2 hf; cases hf
  | succ n ih =>
  intro a0 h h2 hf
  unfold bX10_grow_0 at hf
  refine rt_aload_n (pc := 0) (k0 := 0) (x := a0) 0 rfl dX10_grow_0 ?_
  refine rt_aload_n (pc := 1) (k0 := 0) (x := a0) 0 rfl dX10_grow_1 ?_
  obtain ⟨v1, e2, hf⟩ := ob1 hf
  refine rt_gi (pc := 2) fd_X10_277 dX10_grow_2 e2 ?_
  obtain ⟨v5, w4, e3, hf⟩ := ob2_of hf
  have g6 := sX10_isTooBig d (by omega) e3
  refine rt_callV (pc := 5) (As := [.int v1]) (st := []) me_X10_isTooBig mi_X10_isTooBig wl_X10_343 dX10_grow_5 rfl (by decide) rfl g6.1 g6.2 ?_
  by_cases c7 : v5 = 0
  · rw [if_pos c7] at hf
    refine rt_if_eq_p (pc := 8) (x := v5) (tgt := 102) (by decide) dX10_grow_8 c7 ?_
    cases hf
    exact rt_ret (pc := 102) dX10_grow_102 rfl
  rw [if_neg c7] at hf
  refine rt_if_eq_n (pc := 8) (x := v5) (tgt := 102) (by decide) dX10_grow_8 c7 ?_
  refine rt_aload_n (pc := 11) (k0 := 0) (x := a0) 0 rfl dX10_grow_11 ?_
  refine rt_aload_n (pc := 12) (k0 := 0) (x := a0) 0 rfl dX10_grow_12 ?_
  obtain ⟨v8, e9, hf⟩ := ob1 hf
  refine rt_gi (pc := 13) fd_X10_277 dX10_grow_13 e9 ?_
  obtain ⟨w11, e10, hf⟩ := ob1 hf
  have g12 := sX10_partOf d (by omega) e10
  refine rt_callV (pc := 16) (As := [.int v8]) (st := []) me_X10_partOf mi_X10_partOf wl_X10_346 dX10_grow_16 rfl (by decide) rfl g12.1 g12.2 ?_
  refine rt_aload_n (pc := 19) (k0 := 0) (x := a0) 0 rfl dX10_grow_19 ?_
  refine rt_aload_n (pc := 20) (k0 := 0) (x := a0) 0 rfl dX10_grow_20 ?_
  refine rt_iconst (pc := 21) (n := 0) (v := (0 : Int32)) (by decide) dX10_grow_21 ?_
  obtain ⟨v15, w14, e13, hf⟩ := ob2_of hf
  have g16 := sX10_page d (by omega) e13
  refine rt_callV (pc := 22) (As := [.int (0 : Int32)]) (st := [va_rf a0]) me_X10_page mi_X10_page wl_X10_273 dX10_grow_22 rfl (by simp [rt_cat, cat_i, cat_l]) rfl g16.1 g16.2 ?_
  obtain ⟨w17, e18, hf⟩ := ob1 hf
  refine rt_putf (pc := 25) (x := a0) fw_X10_277 (Or.inl rfl) (pf_i _).1 (pf_i _).2 dX10_grow_25 e18 ?_
  refine rt_aload_n (pc := 28) (k0 := 0) (x := a0) 0 rfl dX10_grow_28 ?_
  obtain ⟨v19, e20, hf⟩ := ob1 hf
  refine rt_gr (pc := 29) fd_X10_129 dX10_grow_29 e20 ?_
  refine rt_aload_n (pc := 32) (k0 := 0) (x := a0) 0 rfl dX10_grow_32 ?_
  obtain ⟨v21, e22, hf⟩ := ob1 hf
  refine rt_gi (pc := 33) fd_X10_277 dX10_grow_33 e22 ?_
  refine rt_aload_n (pc := 36) (k0 := 0) (x := a0) 0 rfl dX10_grow_36 ?_
  obtain ⟨v23, e24, hf⟩ := ob1 hf
  refine rt_gi (pc := 37) fd_X10_337 dX10_grow_37 e24 ?_
  obtain ⟨w25, e26, hf⟩ := ob1 hf
  refine rt_iast (pc := 40) dX10_grow_40 e26 ?_
  refine rt_iconst (pc := 41) (n := 0) (v := (0 : Int32)) (by decide) dX10_grow_41 ?_
  refine rt_istore_n (pc := 42) (k0 := 1) (x := (0 : Int32)) (l2 := [(1, .int (0 : Int32)), (0, va_rf a0)]) (by decide) (by first | rfl | (simp [rt_cat, cat_i, cat_l]; done) | (simp [rt_cat, cat_i, cat_l]; decide)) dX10_grow_42 ?_
  exact rt_locals (rt_sub [1, 0] rfl) (rX10_grow_43 hd ih zf _ _ _ _ hf)
noncomputable def fX10_grow (E : ah_E) (a0 : Option Nat) (h : ah_H) : Option ah_H := if hp_rcv h a0 11 = false then none else bX10_grow_0 E zf a0 h
set_option maxRecDepth 20000 in
set_option maxHeartbeats 4000000 in
theorem sX10_grow {X : ah_X} (d : Nat) (hd : 2 ≤ d) {a0 : Option Nat} {h : ah_H} {h2 : ah_H} (hf : fX10_grow X.2.2.2 a0 h = some h2) : hp_rcv h a0 11 = true ∧ Rn X yX10_grow cX10_grow 2 none d [va_rf a0] h none h2 := by
  unfold fX10_grow at hf
  by_cases c0 : hp_rcv h a0 11 = false
  · rw [if_pos c0] at hf; cases hf
  rw [if_neg c0] at hf
  refine ⟨(Bool.not_eq_false _).mp c0, ?_⟩
  obtain ⟨d, rfl⟩ : ∃ k, d = k + 1 := ⟨d - 1, by omega⟩
  exact Rn.of2 me_X10_grow (by simp [lg_sl, rt_cat, cat_i, cat_l]) rfl (l := [(0, va_rf a0)]) (by simp [lv_args, rt_cat, cat_i, cat_l]) (rt_locals (rt_sub [0] rfl) (rX10_grow_0 (by omega) zf _ _ _ hf))
noncomputable def bX10_partKid_194 (E : ah_E) (k132 : Option Nat → Int32 → Int32 → Int64 → Int32 → ah_H → Option ah_H) (a0 : Option Nat) (a1 : Int32) (a2 : Int32) (a4 : Int64) (a6 : Int32) (s0 : Option Nat) (s1 : Int32) (s2 : Int64) (h : ah_H) : Option ah_H :=
  (hp_stl h s0 s1 s2).bind fun w1 =>
  k132 a0 a1 a2 a4 (a6 + 1) w1
set_option maxRecDepth 20000 in
set_option maxHeartbeats 4000000 in
theorem rX10_partKid_194 {X : ah_X} {d : Nat} (hd : 1 ≤ d) {k132 : Option Nat → Int32 → Int32 → Int64 → Int32 → ah_H → Option ah_H} (hk132 : ∀ (x0 : Option Nat) (x1 : Int32) (x2 : Int32) (x3 : Int64) (x4 : Int32) (h : ah_H) (h2 : ah_H), k132 x0 x1 x2 x3 x4 h = some h2 → Rt X yX10_partKid cX10_partKid 7 (d + 1) 132 [(0, va_rf x0), (1, .int x1), (2, .int x2), (4, .long x3), (6, .int x4)] [] h none h2) {a0 : Option Nat} {a1 : Int32} {a2 : Int32} {a4 : Int64} {a6 : Int32} {s0 : Option Nat} {s1 : Int32} {s2 : Int64} {h : ah_H} {h2 : ah_H} (hf : bX10_partKid_194 X.2.2.2 k132 a0 a1 a2 a4 a6 s0 s1 s2 h = some h2) : Rt X yX10_partKid cX10_partKid 7 (d + 1) 194 [(0, va_rf a0), (1, .int a1), (2, .int a2), (4, .long a4), (6, .int a6)] [.long s2, .int s1, va_rf s0] h none h2 := by
  unfold bX10_partKid_194 at hf
  obtain ⟨w1, e2, hf⟩ := ob1 hf
  refine rt_last (pc := 194) dX10_partKid_194 e2 ?_
  refine rt_iinc (pc := 195) (i := 6) (n := 1) (x := a6) (v := (a6 + 1)) (l2 := [(6, .int (a6 + 1)), (0, va_rf a0), (1, .int a1), (2, .int a2), (4, .long a4)]) 4 rfl rfl (by decide) (by first | rfl | (simp [rt_cat, cat_i, cat_l]; done) | (simp [rt_cat, cat_i, cat_l]; decide)) dX10_partKid_195 ?_
  refine rt_goto (pc := 198) (tgt := 132) (by decide) dX10_partKid_198 ?_
  exact rt_locals (rt_sub [1, 2, 3, 4, 0] rfl) (hk132 _ _ _ _ _ _ _ hf)
noncomputable def bX10_partKid_132 (E : ah_E) : Nat → Option Nat → Int32 → Int32 → Int64 → Int32 → ah_H → Option ah_H
  | 0 => fun _ _ _ _ _ _ => none
  | n + 1 => fun a0 a1 a2 a4 a6 h =>
  (hp_gi h a0 11 46).bind fun v1 =>
  if v1 ≤ a6 then
    (hp_gr h a0 11 21).bind fun v4 =>
    (hp_ldi h v4 a1).bind fun v6 =>
    (hp_gi h a0 11 46).bind fun v8 =>
    (hp_sti h v4 a1 (v6 + (v8 - (1 : Int32)))).bind fun w10 =>
    (hp_gr w10 a0 11 27).bind fun v12 =>
    (hp_sti w10 v12 a1 (-1 : Int32)).bind fun w14 =>
    some w14
  else
  (hp_gr h a0 11 22).bind fun v16 =>
  (hp_gr h a0 11 44).bind fun v18 =>
  (hp_ldi h v18 a6).bind fun v20 =>
  (hp_sti h v16 ((((128 : Int32) * a1) + a2) + a6) v20).bind fun w22 =>
  (hp_gr w22 a0 11 23).bind fun v24 =>
  if a6 = 0 then
    bX10_partKid_194 E (bX10_partKid_132 E n) a0 a1 a2 a4 a6 v24 ((((128 : Int32) * a1) + a2) + a6) a4 w22
  else
  (hp_gr w22 a0 11 45).bind fun v27 =>
  (hp_ldl w22 v27 a6).bind fun v29 =>
  bX10_partKid_194 E (bX10_partKid_132 E n) a0 a1 a2 a4 a6 v24 ((((128 : Int32) * a1) + a2) + a6) v29 w22
set_option maxRecDepth 20000 in
set_option maxHeartbeats 4000000 in
theorem rX10_partKid_132 {X : ah_X} {d : Nat} (hd : 1 ≤ d) (n : Nat) : ∀ (a0 : Option Nat) (a1 : Int32) (a2 : Int32) (a4 : Int64) (a6 : Int32) (h : ah_H) (h2 : ah_H), bX10_partKid_132 X.2.2.2 n a0 a1 a2 a4 a6 h = some h2 → Rt X yX10_partKid cX10_partKid 7 (d + 1) 132 [(0, va_rf a0), (1, .int a1), (2, .int a2), (4, .long a4), (6, .int a6)] [] h none h2 := by
  induction n with
  | zero => intro a0 a1 a2 a4 a6 h h2 hf; cases hf
  | succ n ih =>
  intro a0 a1 a2 a4 a6 h h2 hf
  unfold bX10_partKid_132 at hf
  refine rt_iload (pc := 132) (i := 6) (x := a6) 4 rfl dX10_partKid_132 ?_
  refine rt_aload_n (pc := 134) (k0 := 0) (x := a0) 0 rfl dX10_partKid_134 ?_
  obtain ⟨v1, e2, hf⟩ := ob1 hf
  refine rt_gi (pc := 135) fd_X10_337 dX10_partKid_135 e2 ?_
  by_cases c3 : v1 ≤ a6
  · rw [if_pos c3] at hf
    refine rt_icmp_ge_p (pc := 138) (x := a6) (z := v1) (tgt := 201) (by decide) dX10_partKid_138 c3 ?_
    refine rt_aload_n (pc := 201) (k0 := 0) (x := a0) 0 rfl dX10_partKid_201 ?_
    obtain ⟨v4, e5, hf⟩ := ob1 hf
    refine rt_gr (pc := 202) fd_X10_129 dX10_partKid_202 e5 ?_
    refine rt_iload_n (pc := 205) (k0 := 1) (x := a1) 1 rfl dX10_partKid_205 ?_
    refine rt_dup2 (pc := 206) rfl (rt_cat _) dX10_partKid_206 ?_
    obtain ⟨v6, e7, hf⟩ := ob1 hf
    refine rt_iald (pc := 207) dX10_partKid_207 e7 ?_
    refine rt_aload_n (pc := 208) (k0 := 0) (x := a0) 0 rfl dX10_partKid_208 ?_
    obtain ⟨v8, e9, hf⟩ := ob1 hf
    refine rt_gi (pc := 209) fd_X10_337 dX10_partKid_209 e9 ?_
    refine rt_iconst (pc := 212) (n := 1) (v := (1 : Int32)) (by decide) dX10_partKid_212 ?_
    refine rt_isub (pc := 213) (x := v8) (z := (1 : Int32)) dX10_partKid_213 ?_
    refine rt_iadd (pc := 214) (x := v6) (z := (v8 - (1 : Int32))) dX10_partKid_214 ?_
    obtain ⟨w10, e11, hf⟩ := ob1 hf
    refine rt_iast (pc := 215) dX10_partKid_215 e11 ?_
    refine rt_aload_n (pc := 216) (k0 := 0) (x := a0) 0 rfl dX10_partKid_216 ?_
    obtain ⟨v12, e13, hf⟩ := ob1 hf
    refine rt_gr (pc := 217) fd_X10_148 dX10_partKid_217 e13 ?_
    refine rt_iload_n (pc := 220) (k0 := 1) (x := a1) 1 rfl dX10_partKid_220 ?_
    refine rt_iconst (pc := 221) (n := -1) (v := (-1 : Int32)) (by decide) dX10_partKid_221 ?_
    obtain ⟨w14, e15, hf⟩ := ob1 hf
    refine rt_iast (pc := 222) dX10_partKid_222 e15 ?_
    cases hf
    exact rt_ret (pc := 223) dX10_partKid_223 rfl
  rw [if_neg c3] at hf
  refine rt_icmp_ge_n (pc := 138) (x := a6) (z := v1) (tgt := 201) (by decide) dX10_partKid_138 c3 ?_
  refine rt_aload_n (pc := 141) (k0 := 0) (x := a0) 0 rfl dX10_partKid_141 ?_
  obtain ⟨v16, e17, hf⟩ := ob1 hf
  refine rt_gr (pc := 142) fd_X10_133 dX10_partKid_142 e17 ?_
  refine rt_sipush (pc := 145) (n := 128) (v := (128 : Int32)) (by decide) dX10_partKid_145 ?_
  refine rt_iload_n (pc := 148) (k0 := 1) (x := a1) 1 rfl dX10_partKid_148 ?_
  refine rt_imul (pc := 149) (x := (128 : Int32)) (z := a1) dX10_partKid_149 ?_
  refine rt_iload_n (pc := 150) (k0 := 2) (x := a2) 2 rfl dX10_partKid_150 ?_
  refine rt_iadd (pc := 151) (x := ((128 : Int32) * a1)) (z := a2) dX10_partKid_151 ?_
  refine rt_iload (pc := 152) (i := 6) (x := a6) 4 rfl dX10_partKid_152 ?_
  refine rt_iadd (pc := 154) (x := (((128 : Int32) * a1) + a2)) (z := a6) dX10_partKid_154 ?_
  refine rt_aload_n (pc := 155) (k0 := 0) (x := a0) 0 rfl dX10_partKid_155 ?_
  obtain ⟨v18, e19, hf⟩ := ob1 hf
  refine rt_gr (pc := 156) fd_X10_185 dX10_partKid_156 e19 ?_
  refine rt_iload (pc := 159) (i := 6) (x := a6) 4 rfl dX10_partKid_159 ?_
  obtain ⟨v20, e21, hf⟩ := ob1 hf
  refine rt_iald (pc := 161) dX10_partKid_161 e21 ?_
  obtain ⟨w22, e23, hf⟩ := ob1 hf
  refine rt_iast (pc := 162) dX10_partKid_162 e23 ?_
  refine rt_aload_n (pc := 163) (k0 := 0) (x := a0) 0 rfl dX10_partKid_163 ?_
  obtain ⟨v24, e25, hf⟩ := ob1 hf
  refine rt_gr (pc := 164) fd_X10_136 dX10_partKid_164 e25 ?_
  refine rt_sipush (pc := 167) (n := 128) (v := (128 : Int32)) (by decide) dX10_partKid_167 ?_
  refine rt_iload_n (pc := 170) (k0 := 1) (x := a1) 1 rfl dX10_partKid_170 ?_
  refine rt_imul (pc := 171) (x := (128 : Int32)) (z := a1) dX10_partKid_171 ?_
  refine rt_iload_n (pc := 172) (k0 := 2) (x := a2) 2 rfl dX10_partKid_172 ?_
  refine rt_iadd (pc := 173) (x := ((128 : Int32) * a1)) (z := a2) dX10_partKid_173 ?_
  refine rt_iload (pc := 174) (i := 6) (x := a6) 4 rfl dX10_partKid_174 ?_
  refine rt_iadd (pc := 176) (x := (((128 : Int32) * a1) + a2)) (z := a6) dX10_partKid_176 ?_
  refine rt_iload (pc := 177) (i := 6) (x := a6) 4 rfl dX10_partKid_177 ?_
  by_cases c26 : a6 = 0
  · rw [if_pos c26] at hf
    refine rt_if_ne_p (pc := 179) (x := a6) (tgt := 187) (by decide) dX10_partKid_179 c26 ?_
    refine rt_lload (pc := 182) (i := 4) (x := a4) 3 rfl dX10_partKid_182 ?_
    refine rt_goto (pc := 184) (tgt := 194) (by decide) dX10_partKid_184 ?_
    exact rX10_partKid_194 hd ih hf
  rw [if_neg c26] at hf
  refine rt_if_ne_n (pc := 179) (x := a6) (tgt := 187) (by decide) dX10_partKid_179 c26 ?_
  refine rt_aload_n (pc := 187) (k0 := 0) (x := a0) 0 rfl dX10_partKid_187 ?_
  obtain ⟨v27, e28, hf⟩ := ob1 hf
  refine rt_gr (pc := 188) fd_X10_188 dX10_partKid_188 e28 ?_
  refine rt_iload (pc := 191) (i := 6) (x := a6) 4 rfl dX10_partKid_191 ?_
  obtain ⟨v29, e30, hf⟩ := ob1 hf
  refine rt_lald (pc := 193) dX10_partKid_193 e30 ?_
  exact rX10_partKid_194 hd ih hf
noncomputable def bX10_partKid_51 (E : ah_E) : Nat → Option Nat → Int32 → Int32 → Int64 → Int32 → ah_H → Option ah_H
  | 0 => fun _ _ _ _ _ _ => none
  | n + 1 => fun a0 a1 a2 a4 a6 h =>
  if a6 ≤ a2 then
    bX10_partKid_132 E zf a0 a1 a2 a4 (0 : Int32) h
  else
  (hp_gr h a0 11 22).bind fun v2 =>
  (hp_gi h a0 11 46).bind fun v4 =>
  (hp_gr h a0 11 22).bind fun v6 =>
  (hp_ldi h v6 (((128 : Int32) * a1) + a6)).bind fun v8 =>
  (hp_sti h v2 (((((128 : Int32) * a1) + a6) + v4) - (1 : Int32)) v8).bind fun w10 =>
  (hp_gr w10 a0 11 23).bind fun v12 =>
  (hp_gi w10 a0 11 46).bind fun v14 =>
  (hp_gr w10 a0 11 23).bind fun v16 =>
  (hp_ldl w10 v16 (((128 : Int32) * a1) + a6)).bind fun v18 =>
  (hp_stl w10 v12 (((((128 : Int32) * a1) + a6) + v14) - (1 : Int32)) v18).bind fun w20 =>
  bX10_partKid_51 E n a0 a1 a2 a4 (a6 + (-1)) w20
set_option maxRecDepth 20000 in
set_option maxHeartbeats 4000000 in
theorem rX10_partKid_51 {X : ah_X} {d : Nat} (hd : 1 ≤ d) (n : Nat) : ∀ (a0 : Option Nat) (a1 : Int32) (a2 : Int32) (a4 : Int64) (a6 : Int32) (h : ah_H) (h2 : ah_H), bX10_partKid_51 X.2.2.2 n a0 a1 a2 a4 a6 h = some h2 → Rt X yX10_partKid cX10_partKid 7 (d + 1) 51 [(0, va_rf a0), (1, .int a1), (2, .int a2), (4, .long a4), (6, .int a6)] [] h none h2 := by
  induction n with
  | zero => intro a0 a1 a2 a4 a6 h h2 hf; cases hf
  | succ n ih =>
  intro a0 a1 a2 a4 a6 h h2 hf
  unfold bX10_partKid_51 at hf
  refine rt_iload (pc := 51) (i := 6) (x := a6) 4 rfl dX10_partKid_51 ?_
  refine rt_iload_n (pc := 53) (k0 := 2) (x := a2) 2 rfl dX10_partKid_53 ?_
  by_cases c1 : a6 ≤ a2
  · rw [if_pos c1] at hf
    refine rt_icmp_le_p (pc := 54) (x := a6) (z := a2) (tgt := 129) (by decide) dX10_partKid_54 c1 ?_
    refine rt_iconst (pc := 129) (n := 0) (v := (0 : Int32)) (by decide) dX10_partKid_129 ?_
    refine rt_istore (pc := 130) (i := 6) (x := (0 : Int32)) (l2 := [(6, .int (0 : Int32)), (0, va_rf a0), (1, .int a1), (2, .int a2), (4, .long a4)]) (by decide) (by first | rfl | (simp [rt_cat, cat_i, cat_l]; done) | (simp [rt_cat, cat_i, cat_l]; decide)) dX10_partKid_130 ?_
    exact rt_locals (rt_sub [1, 2, 3, 4, 0] rfl) (rX10_partKid_132 hd zf _ _ _ _ _ _ _ hf)
  rw [if_neg c1] at hf
  refine rt_icmp_le_n (pc := 54) (x := a6) (z := a2) (tgt := 129) (by decide) dX10_partKid_54 c1 ?_
  refine rt_aload_n (pc := 57) (k0 := 0) (x := a0) 0 rfl dX10_partKid_57 ?_
  obtain ⟨v2, e3, hf⟩ := ob1 hf
  refine rt_gr (pc := 58) fd_X10_133 dX10_partKid_58 e3 ?_
  refine rt_sipush (pc := 61) (n := 128) (v := (128 : Int32)) (by decide) dX10_partKid_61 ?_
  refine rt_iload_n (pc := 64) (k0 := 1) (x := a1) 1 rfl dX10_partKid_64 ?_
  refine rt_imul (pc := 65) (x := (128 : Int32)) (z := a1) dX10_partKid_65 ?_
  refine rt_iload (pc := 66) (i := 6) (x := a6) 4 rfl dX10_partKid_66 ?_
  refine rt_iadd (pc := 68) (x := ((128 : Int32) * a1)) (z := a6) dX10_partKid_68 ?_
  refine rt_aload_n (pc := 69) (k0 := 0) (x := a0) 0 rfl dX10_partKid_69 ?_
  obtain ⟨v4, e5, hf⟩ := ob1 hf
  refine rt_gi (pc := 70) fd_X10_337 dX10_partKid_70 e5 ?_
  refine rt_iadd (pc := 73) (x := (((128 : Int32) * a1) + a6)) (z := v4) dX10_partKid_73 ?_
  refine rt_iconst (pc := 74) (n := 1) (v := (1 : Int32)) (by decide) dX10_partKid_74 ?_
  refine rt_isub (pc := 75) (x := ((((128 : Int32) * a1) + a6) + v4)) (z := (1 : Int32)) dX10_partKid_75 ?_
  refine rt_aload_n (pc := 76) (k0 := 0) (x := a0) 0 rfl dX10_partKid_76 ?_
  obtain ⟨v6, e7, hf⟩ := ob1 hf
  refine rt_gr (pc := 77) fd_X10_133 dX10_partKid_77 e7 ?_
  refine rt_sipush (pc := 80) (n := 128) (v := (128 : Int32)) (by decide) dX10_partKid_80 ?_
  refine rt_iload_n (pc := 83) (k0 := 1) (x := a1) 1 rfl dX10_partKid_83 ?_
  refine rt_imul (pc := 84) (x := (128 : Int32)) (z := a1) dX10_partKid_84 ?_
  refine rt_iload (pc := 85) (i := 6) (x := a6) 4 rfl dX10_partKid_85 ?_
  refine rt_iadd (pc := 87) (x := ((128 : Int32) * a1)) (z := a6) dX10_partKid_87 ?_
  obtain ⟨v8, e9, hf⟩ := ob1 hf
  refine rt_iald (pc := 88) dX10_partKid_88 e9 ?_
  obtain ⟨w10, e11, hf⟩ := ob1 hf
  refine rt_iast (pc := 89) dX10_partKid_89 e11 ?_
  refine rt_aload_n (pc := 90) (k0 := 0) (x := a0) 0 rfl dX10_partKid_90 ?_
  obtain ⟨v12, e13, hf⟩ := ob1 hf
  refine rt_gr (pc := 91) fd_X10_136 dX10_partKid_91 e13 ?_
  refine rt_sipush (pc := 94) (n := 128) (v := (128 : Int32)) (by decide) dX10_partKid_94 ?_
  refine rt_iload_n (pc := 97) (k0 := 1) (x := a1) 1 rfl dX10_partKid_97 ?_
  refine rt_imul (pc := 98) (x := (128 : Int32)) (z := a1) dX10_partKid_98 ?_
  refine rt_iload (pc := 99) (i := 6) (x := a6) 4 rfl dX10_partKid_99 ?_
  refine rt_iadd (pc := 101) (x := ((128 : Int32) * a1)) (z := a6) dX10_partKid_101 ?_
  refine rt_aload_n (pc := 102) (k0 := 0) (x := a0) 0 rfl dX10_partKid_102 ?_
  obtain ⟨v14, e15, hf⟩ := ob1 hf
  refine rt_gi (pc := 103) fd_X10_337 dX10_partKid_103 e15 ?_
  refine rt_iadd (pc := 106) (x := (((128 : Int32) * a1) + a6)) (z := v14) dX10_partKid_106 ?_
  refine rt_iconst (pc := 107) (n := 1) (v := (1 : Int32)) (by decide) dX10_partKid_107 ?_
  refine rt_isub (pc := 108) (x := ((((128 : Int32) * a1) + a6) + v14)) (z := (1 : Int32)) dX10_partKid_108 ?_
  refine rt_aload_n (pc := 109) (k0 := 0) (x := a0) 0 rfl dX10_partKid_109 ?_
  obtain ⟨v16, e17, hf⟩ := ob1 hf
  refine rt_gr (pc := 110) fd_X10_136 dX10_partKid_110 e17 ?_
  refine rt_sipush (pc := 113) (n := 128) (v := (128 : Int32)) (by decide) dX10_partKid_113 ?_
  refine rt_iload_n (pc := 116) (k0 := 1) (x := a1) 1 rfl dX10_partKid_116 ?_
  refine rt_imul (pc := 117) (x := (128 : Int32)) (z := a1) dX10_partKid_117 ?_
  refine rt_iload (pc := 118) (i := 6) (x := a6) 4 rfl dX10_partKid_118 ?_
  refine rt_iadd (pc := 120) (x := ((128 : Int32) * a1)) (z := a6) dX10_partKid_120 ?_
  obtain ⟨v18, e19, hf⟩ := ob1 hf
  refine rt_lald (pc := 121) dX10_partKid_121 e19 ?_
  obtain ⟨w20, e21, hf⟩ := ob1 hf
  refine rt_last (pc := 122) dX10_partKid_122 e21 ?_
  refine rt_iinc (pc := 123) (i := 6) (n := -1) (x := a6) (v := (a6 + (-1))) (l2 := [(6, .int (a6 + (-1))), (0, va_rf a0), (1, .int a1), (2, .int a2), (4, .long a4)]) 4 rfl rfl (by decide) (by first | rfl | (simp [rt_cat, cat_i, cat_l]; done) | (simp [rt_cat, cat_i, cat_l]; decide)) dX10_partKid_123 ?_
  refine rt_goto (pc := 126) (tgt := 51) (by decide) dX10_partKid_126 ?_
  exact rt_locals (rt_sub [1, 2, 3, 4, 0] rfl) (ih _ _ _ _ _ _ _ hf)
noncomputable def bX10_partKid_0 (E : ah_E) (a0 : Option Nat) (a1 : Int32) (a2 : Int32) (h : ah_H) : Option ah_H :=
  (hp_gr h a0 11 22).bind fun v1 =>
  (hp_ldi h v1 (((128 : Int32) * a1) + a2)).bind fun v3 =>
  ob2 (fX10_isTooBig E a0 v3 h) fun v7 w6 =>
  if v7 = 0 then
    some w6
  else
  (hp_gr w6 a0 11 23).bind fun v10 =>
  (hp_ldl w6 v10 (((128 : Int32) * a1) + a2)).bind fun v12 =>
  (fX10_partOf E a0 v3 w6).bind fun w15 =>
  (hp_gr w15 a0 11 21).bind fun v17 =>
  (hp_ldi w15 v17 a1).bind fun v19 =>
  bX10_partKid_51 E zf a0 a1 a2 v12 (v19 - (1 : Int32)) w15
set_option maxRecDepth 20000 in
set_option maxHeartbeats 4000000 in
theorem rX10_partKid_0 {X : ah_X} {d : Nat} (hd : 1 ≤ d) {a0 : Option Nat} {a1 : Int32} {a2 : Int32} {h : ah_H} {h2 : ah_H} (hf : bX10_partKid_0 X.2.2.2 a0 a1 a2 h = some h2) : Rt X yX10_partKid cX10_partKid 7 (d + 1) 0 [(0, va_rf a0), (1, .int a1), (2, .int a2)] [] h none h2 := by
  unfold bX10_partKid_0 at hf
  refine rt_aload_n (pc := 0) (k0 := 0) (x := a0) 0 rfl dX10_partKid_0 ?_
  obtain ⟨v1, e2, hf⟩ := ob1 hf
  refine rt_gr (pc := 1) fd_X10_133 dX10_partKid_1 e2 ?_
  refine rt_sipush (pc := 4) (n := 128) (v := (128 : Int32)) (by decide) dX10_partKid_4 ?_
  refine rt_iload_n (pc := 7) (k0 := 1) (x := a1) 1 rfl dX10_partKid_7 ?_
  refine rt_imul (pc := 8) (x := (128 : Int32)) (z := a1) dX10_partKid_8 ?_
  refine rt_iload_n (pc := 9) (k0 := 2) (x := a2) 2 rfl dX10_partKid_9 ?_
  refine rt_iadd (pc := 10) (x := ((128 : Int32) * a1)) (z := a2) dX10_partKid_10 ?_
  obtain ⟨v3, e4, hf⟩ := ob1 hf
  refine rt_iald (pc := 11) dX10_partKid_11 e4 ?_
  refine rt_istore_n (pc := 12) (k0 := 3) (x := v3) (l2 := [(3, .int v3), (0, va_rf a0), (1, .int a1), (2, .int a2)]) (by decide) (by first | rfl | (simp [rt_cat, cat_i, cat_l]; done) | (simp [rt_cat, cat_i, cat_l]; decide)) dX10_partKid_12 ?_
  refine rt_aload_n (pc := 13) (k0 := 0) (x := a0) 1 rfl dX10_partKid_13 ?_
  refine rt_iload_n (pc := 14) (k0 := 3) (x := v3) 0 rfl dX10_partKid_14 ?_
  obtain ⟨v7, w6, e5, hf⟩ := ob2_of hf
  have g8 := sX10_isTooBig d (by omega) e5
  refine rt_callV (pc := 15) (As := [.int v3]) (st := []) me_X10_isTooBig mi_X10_isTooBig wl_X10_343 dX10_partKid_15 rfl (by decide) rfl g8.1 g8.2 ?_
  by_cases c9 : v7 = 0
  · rw [if_pos c9] at hf
    refine rt_if_ne_p (pc := 18) (x := v7) (tgt := 22) (by decide) dX10_partKid_18 c9 ?_
    cases hf
    exact rt_ret (pc := 21) dX10_partKid_21 rfl
  rw [if_neg c9] at hf
  refine rt_if_ne_n (pc := 18) (x := v7) (tgt := 22) (by decide) dX10_partKid_18 c9 ?_
  refine rt_aload_n (pc := 22) (k0 := 0) (x := a0) 1 rfl dX10_partKid_22 ?_
  obtain ⟨v10, e11, hf⟩ := ob1 hf
  refine rt_gr (pc := 23) fd_X10_136 dX10_partKid_23 e11 ?_
  refine rt_sipush (pc := 26) (n := 128) (v := (128 : Int32)) (by decide) dX10_partKid_26 ?_
  refine rt_iload_n (pc := 29) (k0 := 1) (x := a1) 2 rfl dX10_partKid_29 ?_
  refine rt_imul (pc := 30) (x := (128 : Int32)) (z := a1) dX10_partKid_30 ?_
  refine rt_iload_n (pc := 31) (k0 := 2) (x := a2) 3 rfl dX10_partKid_31 ?_
  refine rt_iadd (pc := 32) (x := ((128 : Int32) * a1)) (z := a2) dX10_partKid_32 ?_
  obtain ⟨v12, e13, hf⟩ := ob1 hf
  refine rt_lald (pc := 33) dX10_partKid_33 e13 ?_
  refine rt_lstore (pc := 34) (i := 4) (x := v12) (l2 := [(4, .long v12), (3, .int v3), (0, va_rf a0), (1, .int a1), (2, .int a2)]) (by decide) (by first | rfl | (simp [rt_cat, cat_i, cat_l]; done) | (simp [rt_cat, cat_i, cat_l]; decide)) dX10_partKid_34 ?_
  refine rt_aload_n (pc := 36) (k0 := 0) (x := a0) 2 rfl dX10_partKid_36 ?_
  refine rt_iload_n (pc := 37) (k0 := 3) (x := v3) 1 rfl dX10_partKid_37 ?_
  obtain ⟨w15, e14, hf⟩ := ob1 hf
  have g16 := sX10_partOf d (by omega) e14
  refine rt_callV (pc := 38) (As := [.int v3]) (st := []) me_X10_partOf mi_X10_partOf wl_X10_346 dX10_partKid_38 rfl (by decide) rfl g16.1 g16.2 ?_
  refine rt_aload_n (pc := 41) (k0 := 0) (x := a0) 2 rfl dX10_partKid_41 ?_
  obtain ⟨v17, e18, hf⟩ := ob1 hf
  refine rt_gr (pc := 42) fd_X10_129 dX10_partKid_42 e18 ?_
  refine rt_iload_n (pc := 45) (k0 := 1) (x := a1) 3 rfl dX10_partKid_45 ?_
  obtain ⟨v19, e20, hf⟩ := ob1 hf
  refine rt_iald (pc := 46) dX10_partKid_46 e20 ?_
  refine rt_iconst (pc := 47) (n := 1) (v := (1 : Int32)) (by decide) dX10_partKid_47 ?_
  refine rt_isub (pc := 48) (x := v19) (z := (1 : Int32)) dX10_partKid_48 ?_
  refine rt_istore (pc := 49) (i := 6) (x := (v19 - (1 : Int32))) (l2 := [(6, .int (v19 - (1 : Int32))), (4, .long v12), (3, .int v3), (0, va_rf a0), (1, .int a1), (2, .int a2)]) (by decide) (by first | rfl | (simp [rt_cat, cat_i, cat_l]; done) | (simp [rt_cat, cat_i, cat_l]; decide)) dX10_partKid_49 ?_
  exact rt_locals (rt_sub [3, 4, 5, 1, 0] rfl) (rX10_partKid_51 hd zf _ _ _ _ _ _ _ hf)
noncomputable def fX10_partKid (E : ah_E) (a0 : Option Nat) (a1 : Int32) (a2 : Int32) (h : ah_H) : Option ah_H := if hp_rcv h a0 11 = false then none else bX10_partKid_0 E a0 a1 a2 h
set_option maxRecDepth 20000 in
set_option maxHeartbeats 4000000 in
theorem sX10_partKid {X : ah_X} (d : Nat) (hd : 2 ≤ d) {a0 : Option Nat} {a1 : Int32} {a2 : Int32} {h : ah_H} {h2 : ah_H} (hf : fX10_partKid X.2.2.2 a0 a1 a2 h = some h2) : hp_rcv h a0 11 = true ∧ Rn X yX10_partKid cX10_partKid 7 none d [va_rf a0, .int a1, .int a2] h none h2 := by
  unfold fX10_partKid at hf
  by_cases c0 : hp_rcv h a0 11 = false
  · rw [if_pos c0] at hf; cases hf
  rw [if_neg c0] at hf
  refine ⟨(Bool.not_eq_false _).mp c0, ?_⟩
  obtain ⟨d, rfl⟩ : ∃ k, d = k + 1 := ⟨d - 1, by omega⟩
  exact Rn.of2 me_X10_partKid (by simp [lg_sl, rt_cat, cat_i, cat_l]) rfl (l := [(0, va_rf a0), (1, .int a1), (2, .int a2)]) (by simp [lv_args, rt_cat, cat_i, cat_l]) (rX10_partKid_0 (by omega) hf)
noncomputable def bX10_settlePage_29 (E : ah_E) (kr : Option Nat → Int32 → ah_H → Option (Int32 × ah_H)) (h : ah_H) : Option ah_H :=
  some h
set_option maxRecDepth 20000 in
set_option maxHeartbeats 4000000 in
theorem rX10_settlePage_29 {X : ah_X} {d : Nat} {dk : Nat} {kr : Option Nat → Int32 → ah_H → Option (Int32 × ah_H)} (hkr : ∀ (d : Nat), dk ≤ d → ∀ (x0 : Option Nat) (x1 : Int32) (h : ah_H) (r : Int32) (h2 : ah_H), kr x0 x1 h = some (r, h2) → hp_rcv h x0 11 = true ∧ Rn X yX10_sinks cX10_sinks 7 (some .int) d [va_rf x0, .int x1] h (some (.int r)) h2) (hd : 0 ≤ d) (hdk : dk + 0 ≤ d)  {h : ah_H} {h2 : ah_H} (hf : bX10_settlePage_29 X.2.2.2 kr  h = some h2) : Rt X yX10_settlePage cX10_settlePage 3 (d + 1) 29 [] [] h none h2 := by
  unfold bX10_settlePage_29 at hf
  cases hf
  exact rt_ret (pc := 29) dX10_settlePage_29 rfl
noncomputable def bX10_settlePage_0 (E : ah_E) (kr : Option Nat → Int32 → ah_H → Option (Int32 × ah_H)) : Nat → Option Nat → Int32 → ah_H → Option ah_H
  | 0 => fun _ _ _ => none
  | n + 1 => fun a0 a1 h =>
  (hp_gr h a0 11 18).bind fun v1 =>
  (hp_ldb h v1 a1).bind fun v3 =>
  if v3 = 0 then
    (hp_gr h a0 11 26).bind fun v6 =>
    (hp_ldi h v6 a1).bind fun v8 =>
    if v8 ≤ (8 : Int32) then
      bX10_settlePage_29 E kr  h
    else
    ob2 (kr a0 a1 h) fun v13 w12 =>
    bX10_settlePage_0 E kr n a0 a1 w12
  else
  bX10_settlePage_29 E kr  h
set_option maxRecDepth 20000 in
set_option maxHeartbeats 4000000 in
theorem rX10_settlePage_0 {X : ah_X} {d : Nat} {dk : Nat} {kr : Option Nat → Int32 → ah_H → Option (Int32 × ah_H)} (hkr : ∀ (d : Nat), dk ≤ d → ∀ (x0 : Option Nat) (x1 : Int32) (h : ah_H) (r : Int32) (h2 : ah_H), kr x0 x1 h = some (r, h2) → hp_rcv h x0 11 = true ∧ Rn X yX10_sinks cX10_sinks 7 (some .int) d [va_rf x0, .int x1] h (some (.int r)) h2) (hd : 0 ≤ d) (hdk : dk + 0 ≤ d) (n : Nat) : ∀ (a0 : Option Nat) (a1 : Int32) (h : ah_H) (h2 : ah_H), bX10_settlePage_0 X.2.2.2 kr n a0 a1 h = some h2 → Rt X yX10_settlePage cX10_settlePage 3 (d + 1) 0 [(0, va_rf a0), (1, .int a1)] [] h none h2 := by
  induction n with
  | zero => intro a0 a1 h h2 hf; cases hf
  | succ n ih =>
  intro a0 a1 h h2 hf
  unfold bX10_settlePage_0 at hf
  refine rt_aload_n (pc := 0) (k0 := 0) (x := a0) 0 rfl dX10_settlePage_0 ?_
  obtain ⟨v1, e2, hf⟩ := ob1 hf
  refine rt_gr (pc := 1) fd_X10_119 dX10_settlePage_1 e2 ?_
  refine rt_iload_n (pc := 4) (k0 := 1) (x := a1) 1 rfl dX10_settlePage_4 ?_
  obtain ⟨v3, e4, hf⟩ := ob1 hf
  refine rt_bald (pc := 5) dX10_settlePage_5 e4 ?_
  by_cases c5 : v3 = 0
  · rw [if_pos c5] at hf
    refine rt_if_ne_p (pc := 6) (x := v3) (tgt := 29) (by decide) dX10_settlePage_6 c5 ?_
    refine rt_aload_n (pc := 9) (k0 := 0) (x := a0) 0 rfl dX10_settlePage_9 ?_
    obtain ⟨v6, e7, hf⟩ := ob1 hf
    refine rt_gr (pc := 10) fd_X10_145 dX10_settlePage_10 e7 ?_
    refine rt_iload_n (pc := 13) (k0 := 1) (x := a1) 1 rfl dX10_settlePage_13 ?_
    obtain ⟨v8, e9, hf⟩ := ob1 hf
    refine rt_iald (pc := 14) dX10_settlePage_14 e9 ?_
    refine rt_bipush (pc := 15) (n := 8) (v := (8 : Int32)) (by decide) dX10_settlePage_15 ?_
    by_cases c10 : v8 ≤ (8 : Int32)
    · rw [if_pos c10] at hf
      refine rt_icmp_le_p (pc := 17) (x := v8) (z := (8 : Int32)) (tgt := 29) (by decide) dX10_settlePage_17 c10 ?_
      exact rt_locals (rt_sub [] rfl) (rX10_settlePage_29 hkr hd hdk hf)
    rw [if_neg c10] at hf
    refine rt_icmp_le_n (pc := 17) (x := v8) (z := (8 : Int32)) (tgt := 29) (by decide) dX10_settlePage_17 c10 ?_
    refine rt_aload_n (pc := 20) (k0 := 0) (x := a0) 0 rfl dX10_settlePage_20 ?_
    refine rt_iload_n (pc := 21) (k0 := 1) (x := a1) 1 rfl dX10_settlePage_21 ?_
    obtain ⟨v13, w12, e11, hf⟩ := ob2_of hf
    have g14 := hkr d (by omega) _ _ _ _ _ e11
    refine rt_callV (pc := 22) (As := [.int a1]) (st := []) me_X10_sinks mi_X10_sinks wl_X10_320 dX10_settlePage_22 rfl (by decide) rfl g14.1 g14.2 ?_
    refine rt_istore_n (pc := 25) (k0 := 2) (x := v13) (l2 := [(2, .int v13), (0, va_rf a0), (1, .int a1)]) (by decide) (by first | rfl | (simp [rt_cat, cat_i, cat_l]; done) | (simp [rt_cat, cat_i, cat_l]; decide)) dX10_settlePage_25 ?_
    refine rt_goto (pc := 26) (tgt := 0) (by decide) dX10_settlePage_26 ?_
    exact rt_locals (rt_sub [1, 2] rfl) (ih _ _ _ _ hf)
  rw [if_neg c5] at hf
  refine rt_if_ne_n (pc := 6) (x := v3) (tgt := 29) (by decide) dX10_settlePage_6 c5 ?_
  exact rt_locals (rt_sub [] rfl) (rX10_settlePage_29 hkr hd hdk hf)
noncomputable def fX10_settlePage (E : ah_E) (kr : Option Nat → Int32 → ah_H → Option (Int32 × ah_H)) (a0 : Option Nat) (a1 : Int32) (h : ah_H) : Option ah_H := if hp_rcv h a0 11 = false then none else bX10_settlePage_0 E kr zf a0 a1 h
set_option maxRecDepth 20000 in
set_option maxHeartbeats 4000000 in
theorem sX10_settlePage {X : ah_X} {dk : Nat} {kr : Option Nat → Int32 → ah_H → Option (Int32 × ah_H)} (hkr : ∀ (d : Nat), dk ≤ d → ∀ (x0 : Option Nat) (x1 : Int32) (h : ah_H) (r : Int32) (h2 : ah_H), kr x0 x1 h = some (r, h2) → hp_rcv h x0 11 = true ∧ Rn X yX10_sinks cX10_sinks 7 (some .int) d [va_rf x0, .int x1] h (some (.int r)) h2) (d : Nat) (hdk : dk + 1 ≤ d) (hd : 1 ≤ d) {a0 : Option Nat} {a1 : Int32} {h : ah_H} {h2 : ah_H} (hf : fX10_settlePage X.2.2.2 kr a0 a1 h = some h2) : hp_rcv h a0 11 = true ∧ Rn X yX10_settlePage cX10_settlePage 3 none d [va_rf a0, .int a1] h none h2 := by
  unfold fX10_settlePage at hf
  by_cases c0 : hp_rcv h a0 11 = false
  · rw [if_pos c0] at hf; cases hf
  rw [if_neg c0] at hf
  refine ⟨(Bool.not_eq_false _).mp c0, ?_⟩
  obtain ⟨d, rfl⟩ : ∃ k, d = k + 1 := ⟨d - 1, by omega⟩
  exact Rn.of2 me_X10_settlePage (by simp [lg_sl, rt_cat, cat_i, cat_l]) rfl (l := [(0, va_rf a0), (1, .int a1)]) (by simp [lv_args, rt_cat, cat_i, cat_l]) (rt_locals (rt_sub [0, 1] rfl) (rX10_settlePage_0 hkr (by omega) (by omega) zf _ _ _ _ hf))
noncomputable def bX10_giveLetters_96 (E : ah_E) (kr : Option Nat → Int32 → ah_H → Option (Int32 × ah_H)) (k3 : Option Nat → Int32 → Int32 → Int32 → ah_H → Option ah_H) (a0 : Option Nat) (a1 : Int32) (a3 : Int32) (a4 : Int32) (h : ah_H) : Option ah_H :=
  k3 a0 a1 a3 (a4 + 1) h
set_option maxRecDepth 20000 in
set_option maxHeartbeats 4000000 in
theorem rX10_giveLetters_96 {X : ah_X} {d : Nat} {dk : Nat} {kr : Option Nat → Int32 → ah_H → Option (Int32 × ah_H)} (hkr : ∀ (d : Nat), dk ≤ d → ∀ (x0 : Option Nat) (x1 : Int32) (h : ah_H) (r : Int32) (h2 : ah_H), kr x0 x1 h = some (r, h2) → hp_rcv h x0 11 = true ∧ Rn X yX10_sinks cX10_sinks 7 (some .int) d [va_rf x0, .int x1] h (some (.int r)) h2) (hd : 2 ≤ d) (hdk : dk + 1 ≤ d) {k3 : Option Nat → Int32 → Int32 → Int32 → ah_H → Option ah_H} (hk3 : ∀ (x0 : Option Nat) (x1 : Int32) (x2 : Int32) (x3 : Int32) (h : ah_H) (h2 : ah_H), k3 x0 x1 x2 x3 h = some h2 → Rt X yX10_giveLetters cX10_giveLetters 11 (d + 1) 3 [(0, va_rf x0), (1, .int x1), (3, .int x2), (4, .int x3)] [] h none h2) {a0 : Option Nat} {a1 : Int32} {a3 : Int32} {a4 : Int32} {h : ah_H} {h2 : ah_H} (hf : bX10_giveLetters_96 X.2.2.2 kr k3 a0 a1 a3 a4 h = some h2) : Rt X yX10_giveLetters cX10_giveLetters 11 (d + 1) 96 [(0, va_rf a0), (1, .int a1), (3, .int a3), (4, .int a4)] [] h none h2 := by
  unfold bX10_giveLetters_96 at hf
  refine rt_iinc (pc := 96) (i := 4) (n := 1) (x := a4) (v := (a4 + 1)) (l2 := [(4, .int (a4 + 1)), (0, va_rf a0), (1, .int a1), (3, .int a3)]) 3 rfl rfl (by decide) (by first | rfl | (simp [rt_cat, cat_i, cat_l]; done) | (simp [rt_cat, cat_i, cat_l]; decide)) dX10_giveLetters_96 ?_
  refine rt_goto (pc := 99) (tgt := 3) (by decide) dX10_giveLetters_99 ?_
  exact rt_locals (rt_sub [1, 2, 3, 0] rfl) (hk3 _ _ _ _ _ _ hf)
noncomputable def bX10_giveLetters_3 (E : ah_E) (kr : Option Nat → Int32 → ah_H → Option (Int32 × ah_H)) : Nat → Option Nat → Int32 → Int32 → Int32 → ah_H → Option ah_H
  | 0 => fun _ _ _ _ _ => none
  | n + 1 => fun a0 a1 a3 a4 h =>
  if a3 ≤ a4 then
    (fX10_settlePage E kr a0 a1 h).bind fun w3 =>
    some w3
  else
  (hp_gr h a0 11 41).bind fun v5 =>
  (hp_ldi h v5 a4).bind fun v7 =>
  (hp_gr h a0 11 36).bind fun v9 =>
  (hp_ldi h v9 v7).bind fun v11 =>
  (hp_gr h a0 11 37).bind fun v13 =>
  (hp_ldl h v13 v7).bind fun v15 =>
  (hp_gr h a0 11 38).bind fun v17 =>
  (hp_ldl h v17 v7).bind fun v19 =>
  (hp_gr h a0 11 39).bind fun v21 =>
  (hp_gi h a0 11 40).bind fun v23 =>
  (hp_sti h v21 v7 v23).bind fun w25 =>
  (hp_pv w25 a0 11 40 (.int v7)).bind fun w27 =>
  (hp_gr w27 a0 11 18).bind fun v29 =>
  (hp_ldb w27 v29 a1).bind fun v31 =>
  if v31 = 0 then
    (fX10_comes E a0 a1 v11 v15 v19 w27).bind fun w35 =>
    bX10_giveLetters_96 E kr (bX10_giveLetters_3 E kr n) a0 a1 a3 a4 w35
  else
  (fX10_actOnLeaf E a0 a1 v11 v15 v19 w27).bind fun w38 =>
  bX10_giveLetters_96 E kr (bX10_giveLetters_3 E kr n) a0 a1 a3 a4 w38
set_option maxRecDepth 20000 in
set_option maxHeartbeats 4000000 in
theorem rX10_giveLetters_3 {X : ah_X} {d : Nat} {dk : Nat} {kr : Option Nat → Int32 → ah_H → Option (Int32 × ah_H)} (hkr : ∀ (d : Nat), dk ≤ d → ∀ (x0 : Option Nat) (x1 : Int32) (h : ah_H) (r : Int32) (h2 : ah_H), kr x0 x1 h = some (r, h2) → hp_rcv h x0 11 = true ∧ Rn X yX10_sinks cX10_sinks 7 (some .int) d [va_rf x0, .int x1] h (some (.int r)) h2) (hd : 2 ≤ d) (hdk : dk + 1 ≤ d) (n : Nat) : ∀ (a0 : Option Nat) (a1 : Int32) (a3 : Int32) (a4 : Int32) (h : ah_H) (h2 : ah_H), bX10_giveLetters_3 X.2.2.2 kr n a0 a1 a3 a4 h = some h2 → Rt X yX10_giveLetters cX10_giveLetters 11 (d + 1) 3 [(0, va_rf a0), (1, .int a1), (3, .int a3), (4, .int a4)] [] h none h2 := by
  induction n with
  | zero => intro a0 a1 a3 a4 h h2 hf; cases hf
  | succ n ih =>
  intro a0 a1 a3 a4 h h2 hf
  unfold bX10_giveLetters_3 at hf
  refine rt_iload (pc := 3) (i := 4) (x := a4) 3 rfl dX10_giveLetters_3 ?_
  refine rt_iload_n (pc := 5) (k0 := 3) (x := a3) 2 rfl dX10_giveLetters_5 ?_
  by_cases c1 : a3 ≤ a4
  · rw [if_pos c1] at hf
    refine rt_icmp_ge_p (pc := 6) (x := a4) (z := a3) (tgt := 102) (by decide) dX10_giveLetters_6 c1 ?_
    refine rt_aload_n (pc := 102) (k0 := 0) (x := a0) 0 rfl dX10_giveLetters_102 ?_
    refine rt_iload_n (pc := 103) (k0 := 1) (x := a1) 1 rfl dX10_giveLetters_103 ?_
    obtain ⟨w3, e2, hf⟩ := ob1 hf
    have g4 := sX10_settlePage hkr d (by omega) (by omega) e2
    refine rt_callV (pc := 104) (As := [.int a1]) (st := []) me_X10_settlePage mi_X10_settlePage wl_X10_316 dX10_giveLetters_104 rfl (by decide) rfl g4.1 g4.2 ?_
    cases hf
    exact rt_ret (pc := 107) dX10_giveLetters_107 rfl
  rw [if_neg c1] at hf
  refine rt_icmp_ge_n (pc := 6) (x := a4) (z := a3) (tgt := 102) (by decide) dX10_giveLetters_6 c1 ?_
  refine rt_aload_n (pc := 9) (k0 := 0) (x := a0) 0 rfl dX10_giveLetters_9 ?_
  obtain ⟨v5, e6, hf⟩ := ob1 hf
  refine rt_gr (pc := 10) fd_X10_179 dX10_giveLetters_10 e6 ?_
  refine rt_iload (pc := 13) (i := 4) (x := a4) 3 rfl dX10_giveLetters_13 ?_
  obtain ⟨v7, e8, hf⟩ := ob1 hf
  refine rt_iald (pc := 15) dX10_giveLetters_15 e8 ?_
  refine rt_istore (pc := 16) (i := 5) (x := v7) (l2 := [(5, .int v7), (0, va_rf a0), (1, .int a1), (3, .int a3), (4, .int a4)]) (by decide) (by first | rfl | (simp [rt_cat, cat_i, cat_l]; done) | (simp [rt_cat, cat_i, cat_l]; decide)) dX10_giveLetters_16 ?_
  refine rt_aload_n (pc := 18) (k0 := 0) (x := a0) 1 rfl dX10_giveLetters_18 ?_
  obtain ⟨v9, e10, hf⟩ := ob1 hf
  refine rt_gr (pc := 19) fd_X10_167 dX10_giveLetters_19 e10 ?_
  refine rt_iload (pc := 22) (i := 5) (x := v7) 0 rfl dX10_giveLetters_22 ?_
  obtain ⟨v11, e12, hf⟩ := ob1 hf
  refine rt_iald (pc := 24) dX10_giveLetters_24 e12 ?_
  refine rt_istore (pc := 25) (i := 6) (x := v11) (l2 := [(6, .int v11), (5, .int v7), (0, va_rf a0), (1, .int a1), (3, .int a3), (4, .int a4)]) (by decide) (by first | rfl | (simp [rt_cat, cat_i, cat_l]; done) | (simp [rt_cat, cat_i, cat_l]; decide)) dX10_giveLetters_25 ?_
  refine rt_aload_n (pc := 27) (k0 := 0) (x := a0) 2 rfl dX10_giveLetters_27 ?_
  obtain ⟨v13, e14, hf⟩ := ob1 hf
  refine rt_gr (pc := 28) fd_X10_170 dX10_giveLetters_28 e14 ?_
  refine rt_iload (pc := 31) (i := 5) (x := v7) 1 rfl dX10_giveLetters_31 ?_
  obtain ⟨v15, e16, hf⟩ := ob1 hf
  refine rt_lald (pc := 33) dX10_giveLetters_33 e16 ?_
  refine rt_lstore (pc := 34) (i := 7) (x := v15) (l2 := [(7, .long v15), (6, .int v11), (5, .int v7), (0, va_rf a0), (1, .int a1), (3, .int a3), (4, .int a4)]) (by decide) (by first | rfl | (simp [rt_cat, cat_i, cat_l]; done) | (simp [rt_cat, cat_i, cat_l]; decide)) dX10_giveLetters_34 ?_
  refine rt_aload_n (pc := 36) (k0 := 0) (x := a0) 3 rfl dX10_giveLetters_36 ?_
  obtain ⟨v17, e18, hf⟩ := ob1 hf
  refine rt_gr (pc := 37) fd_X10_173 dX10_giveLetters_37 e18 ?_
  refine rt_iload (pc := 40) (i := 5) (x := v7) 2 rfl dX10_giveLetters_40 ?_
  obtain ⟨v19, e20, hf⟩ := ob1 hf
  refine rt_lald (pc := 42) dX10_giveLetters_42 e20 ?_
  refine rt_lstore (pc := 43) (i := 9) (x := v19) (l2 := [(9, .long v19), (7, .long v15), (6, .int v11), (5, .int v7), (0, va_rf a0), (1, .int a1), (3, .int a3), (4, .int a4)]) (by decide) (by first | rfl | (simp [rt_cat, cat_i, cat_l]; done) | (simp [rt_cat, cat_i, cat_l]; decide)) dX10_giveLetters_43 ?_
  refine rt_aload_n (pc := 45) (k0 := 0) (x := a0) 4 rfl dX10_giveLetters_45 ?_
  obtain ⟨v21, e22, hf⟩ := ob1 hf
  refine rt_gr (pc := 46) fd_X10_176 dX10_giveLetters_46 e22 ?_
  refine rt_iload (pc := 49) (i := 5) (x := v7) 3 rfl dX10_giveLetters_49 ?_
  refine rt_aload_n (pc := 51) (k0 := 0) (x := a0) 4 rfl dX10_giveLetters_51 ?_
  obtain ⟨v23, e24, hf⟩ := ob1 hf
  refine rt_gi (pc := 52) fd_X10_286 dX10_giveLetters_52 e24 ?_
  obtain ⟨w25, e26, hf⟩ := ob1 hf
  refine rt_iast (pc := 55) dX10_giveLetters_55 e26 ?_
  refine rt_aload_n (pc := 56) (k0 := 0) (x := a0) 4 rfl dX10_giveLetters_56 ?_
  refine rt_iload (pc := 57) (i := 5) (x := v7) 3 rfl dX10_giveLetters_57 ?_
  obtain ⟨w27, e28, hf⟩ := ob1 hf
  refine rt_putf (pc := 59) (x := a0) fw_X10_286 (Or.inl rfl) (pf_i _).1 (pf_i _).2 dX10_giveLetters_59 e28 ?_
  refine rt_aload_n (pc := 62) (k0 := 0) (x := a0) 4 rfl dX10_giveLetters_62 ?_
  obtain ⟨v29, e30, hf⟩ := ob1 hf
  refine rt_gr (pc := 63) fd_X10_119 dX10_giveLetters_63 e30 ?_
  refine rt_iload_n (pc := 66) (k0 := 1) (x := a1) 5 rfl dX10_giveLetters_66 ?_
  obtain ⟨v31, e32, hf⟩ := ob1 hf
  refine rt_bald (pc := 67) dX10_giveLetters_67 e32 ?_
  by_cases c33 : v31 = 0
  · rw [if_pos c33] at hf
    refine rt_if_eq_p (pc := 68) (x := v31) (tgt := 85) (by decide) dX10_giveLetters_68 c33 ?_
    refine rt_aload_n (pc := 85) (k0 := 0) (x := a0) 4 rfl dX10_giveLetters_85 ?_
    refine rt_iload_n (pc := 86) (k0 := 1) (x := a1) 5 rfl dX10_giveLetters_86 ?_
    refine rt_iload (pc := 87) (i := 6) (x := v11) 2 rfl dX10_giveLetters_87 ?_
    refine rt_lload (pc := 89) (i := 7) (x := v15) 1 rfl dX10_giveLetters_89 ?_
    refine rt_lload (pc := 91) (i := 9) (x := v19) 0 rfl dX10_giveLetters_91 ?_
    obtain ⟨w35, e34, hf⟩ := ob1 hf
    have g36 := sX10_comes d (by omega) e34
    refine rt_callV (pc := 93) (As := [.int a1, .int v11, .long v15, .long v19]) (st := []) me_X10_comes mi_X10_comes wl_X10_313 dX10_giveLetters_93 rfl (by decide) rfl g36.1 g36.2 ?_
    exact rt_locals (rt_sub [4, 5, 6, 7] rfl) (rX10_giveLetters_96 hkr hd hdk ih hf)
  rw [if_neg c33] at hf
  refine rt_if_eq_n (pc := 68) (x := v31) (tgt := 85) (by decide) dX10_giveLetters_68 c33 ?_
  refine rt_aload_n (pc := 71) (k0 := 0) (x := a0) 4 rfl dX10_giveLetters_71 ?_
  refine rt_iload_n (pc := 72) (k0 := 1) (x := a1) 5 rfl dX10_giveLetters_72 ?_
  refine rt_iload (pc := 73) (i := 6) (x := v11) 2 rfl dX10_giveLetters_73 ?_
  refine rt_lload (pc := 75) (i := 7) (x := v15) 1 rfl dX10_giveLetters_75 ?_
  refine rt_lload (pc := 77) (i := 9) (x := v19) 0 rfl dX10_giveLetters_77 ?_
  obtain ⟨w38, e37, hf⟩ := ob1 hf
  have g39 := sX10_actOnLeaf d (by omega) e37
  refine rt_callV (pc := 79) (As := [.int a1, .int v11, .long v15, .long v19]) (st := []) me_X10_actOnLeaf mi_X10_actOnLeaf wl_X10_310 dX10_giveLetters_79 rfl (by decide) rfl g39.1 g39.2 ?_
  refine rt_goto (pc := 82) (tgt := 96) (by decide) dX10_giveLetters_82 ?_
  exact rt_locals (rt_sub [4, 5, 6, 7] rfl) (rX10_giveLetters_96 hkr hd hdk ih hf)
noncomputable def bX10_giveLetters_0 (E : ah_E) (kr : Option Nat → Int32 → ah_H → Option (Int32 × ah_H)) (a0 : Option Nat) (a1 : Int32) (a2 : Int32) (a3 : Int32) (h : ah_H) : Option ah_H :=
  bX10_giveLetters_3 E kr zf a0 a1 a3 a2 h
set_option maxRecDepth 20000 in
set_option maxHeartbeats 4000000 in
theorem rX10_giveLetters_0 {X : ah_X} {d : Nat} {dk : Nat} {kr : Option Nat → Int32 → ah_H → Option (Int32 × ah_H)} (hkr : ∀ (d : Nat), dk ≤ d → ∀ (x0 : Option Nat) (x1 : Int32) (h : ah_H) (r : Int32) (h2 : ah_H), kr x0 x1 h = some (r, h2) → hp_rcv h x0 11 = true ∧ Rn X yX10_sinks cX10_sinks 7 (some .int) d [va_rf x0, .int x1] h (some (.int r)) h2) (hd : 2 ≤ d) (hdk : dk + 1 ≤ d) {a0 : Option Nat} {a1 : Int32} {a2 : Int32} {a3 : Int32} {h : ah_H} {h2 : ah_H} (hf : bX10_giveLetters_0 X.2.2.2 kr a0 a1 a2 a3 h = some h2) : Rt X yX10_giveLetters cX10_giveLetters 11 (d + 1) 0 [(0, va_rf a0), (1, .int a1), (2, .int a2), (3, .int a3)] [] h none h2 := by
  unfold bX10_giveLetters_0 at hf
  refine rt_iload_n (pc := 0) (k0 := 2) (x := a2) 2 rfl dX10_giveLetters_0 ?_
  refine rt_istore (pc := 1) (i := 4) (x := a2) (l2 := [(4, .int a2), (0, va_rf a0), (1, .int a1), (2, .int a2), (3, .int a3)]) (by decide) (by first | rfl | (simp [rt_cat, cat_i, cat_l]; done) | (simp [rt_cat, cat_i, cat_l]; decide)) dX10_giveLetters_1 ?_
  exact rt_locals (rt_sub [1, 2, 4, 0] rfl) (rX10_giveLetters_3 hkr hd hdk zf _ _ _ _ _ _ hf)
noncomputable def fX10_giveLetters (E : ah_E) (kr : Option Nat → Int32 → ah_H → Option (Int32 × ah_H)) (a0 : Option Nat) (a1 : Int32) (a2 : Int32) (a3 : Int32) (h : ah_H) : Option ah_H := if hp_rcv h a0 11 = false then none else bX10_giveLetters_0 E kr a0 a1 a2 a3 h
set_option maxRecDepth 20000 in
set_option maxHeartbeats 4000000 in
theorem sX10_giveLetters {X : ah_X} {dk : Nat} {kr : Option Nat → Int32 → ah_H → Option (Int32 × ah_H)} (hkr : ∀ (d : Nat), dk ≤ d → ∀ (x0 : Option Nat) (x1 : Int32) (h : ah_H) (r : Int32) (h2 : ah_H), kr x0 x1 h = some (r, h2) → hp_rcv h x0 11 = true ∧ Rn X yX10_sinks cX10_sinks 7 (some .int) d [va_rf x0, .int x1] h (some (.int r)) h2) (d : Nat) (hdk : dk + 2 ≤ d) (hd : 3 ≤ d) {a0 : Option Nat} {a1 : Int32} {a2 : Int32} {a3 : Int32} {h : ah_H} {h2 : ah_H} (hf : fX10_giveLetters X.2.2.2 kr a0 a1 a2 a3 h = some h2) : hp_rcv h a0 11 = true ∧ Rn X yX10_giveLetters cX10_giveLetters 11 none d [va_rf a0, .int a1, .int a2, .int a3] h none h2 := by
  unfold fX10_giveLetters at hf
  by_cases c0 : hp_rcv h a0 11 = false
  · rw [if_pos c0] at hf; cases hf
  rw [if_neg c0] at hf
  refine ⟨(Bool.not_eq_false _).mp c0, ?_⟩
  obtain ⟨d, rfl⟩ : ∃ k, d = k + 1 := ⟨d - 1, by omega⟩
  exact Rn.of2 me_X10_giveLetters (by simp [lg_sl, rt_cat, cat_i, cat_l]) rfl (l := [(0, va_rf a0), (1, .int a1), (2, .int a2), (3, .int a3)]) (by simp [lv_args, rt_cat, cat_i, cat_l]) (rX10_giveLetters_0 hkr (by omega) (by omega) hf)
noncomputable def bX10_sinks_98 (E : ah_E) (kr : Option Nat → Int32 → ah_H → Option (Int32 × ah_H)) (k71 : Option Nat → Int32 → Int32 → Int32 → ah_H → Option (Int32 × ah_H)) (a0 : Option Nat) (a1 : Int32) (a2 : Int32) (a3 : Int32) (h : ah_H) : Option (Int32 × ah_H) :=
  k71 a0 a1 a2 (a3 + 1) h
set_option maxRecDepth 20000 in
set_option maxHeartbeats 4000000 in
theorem rX10_sinks_98 {X : ah_X} {d : Nat} {dk : Nat} {kr : Option Nat → Int32 → ah_H → Option (Int32 × ah_H)} (hkr : ∀ (d : Nat), dk ≤ d → ∀ (x0 : Option Nat) (x1 : Int32) (h : ah_H) (r : Int32) (h2 : ah_H), kr x0 x1 h = some (r, h2) → hp_rcv h x0 11 = true ∧ Rn X yX10_sinks cX10_sinks 7 (some .int) d [va_rf x0, .int x1] h (some (.int r)) h2) (hd : 3 ≤ d) (hdk : dk + 2 ≤ d) {k71 : Option Nat → Int32 → Int32 → Int32 → ah_H → Option (Int32 × ah_H)} (hk71 : ∀ (x0 : Option Nat) (x1 : Int32) (x2 : Int32) (x3 : Int32) (h : ah_H) (r : Int32) (h2 : ah_H), k71 x0 x1 x2 x3 h = some (r, h2) → Rt X yX10_sinks cX10_sinks 7 (d + 1) 71 [(0, va_rf x0), (1, .int x1), (2, .int x2), (3, .int x3)] [] h (some (.int r)) h2) {a0 : Option Nat} {a1 : Int32} {a2 : Int32} {a3 : Int32} {h : ah_H} {r : Int32} {h2 : ah_H} (hf : bX10_sinks_98 X.2.2.2 kr k71 a0 a1 a2 a3 h = some (r, h2)) : Rt X yX10_sinks cX10_sinks 7 (d + 1) 98 [(0, va_rf a0), (1, .int a1), (2, .int a2), (3, .int a3)] [] h (some (.int r)) h2 := by
  unfold bX10_sinks_98 at hf
  refine rt_iinc (pc := 98) (i := 3) (n := 1) (x := a3) (v := (a3 + 1)) (l2 := [(3, .int (a3 + 1)), (0, va_rf a0), (1, .int a1), (2, .int a2)]) 3 rfl rfl (by decide) (by first | rfl | (simp [rt_cat, cat_i, cat_l]; done) | (simp [rt_cat, cat_i, cat_l]; decide)) dX10_sinks_98 ?_
  refine rt_goto (pc := 101) (tgt := 71) (by decide) dX10_sinks_101 ?_
  exact rt_locals (rt_sub [1, 2, 3, 0] rfl) (hk71 _ _ _ _ _ _ _ hf)
noncomputable def bX10_sinks_208 (E : ah_E) (kr : Option Nat → Int32 → ah_H → Option (Int32 × ah_H)) (k146 : Option Nat → Int32 → Int32 → Int32 → Int32 → Int32 → ah_H → Option (Int32 × ah_H)) (a0 : Option Nat) (a1 : Int32) (a2 : Int32) (a3 : Int32) (a4 : Int32) (a6 : Int32) (h : ah_H) : Option (Int32 × ah_H) :=
  k146 a0 a1 a2 a3 a4 a6 h
set_option maxRecDepth 20000 in
set_option maxHeartbeats 4000000 in
theorem rX10_sinks_208 {X : ah_X} {d : Nat} {dk : Nat} {kr : Option Nat → Int32 → ah_H → Option (Int32 × ah_H)} (hkr : ∀ (d : Nat), dk ≤ d → ∀ (x0 : Option Nat) (x1 : Int32) (h : ah_H) (r : Int32) (h2 : ah_H), kr x0 x1 h = some (r, h2) → hp_rcv h x0 11 = true ∧ Rn X yX10_sinks cX10_sinks 7 (some .int) d [va_rf x0, .int x1] h (some (.int r)) h2) (hd : 3 ≤ d) (hdk : dk + 2 ≤ d) {k146 : Option Nat → Int32 → Int32 → Int32 → Int32 → Int32 → ah_H → Option (Int32 × ah_H)} (hk146 : ∀ (x0 : Option Nat) (x1 : Int32) (x2 : Int32) (x3 : Int32) (x4 : Int32) (x5 : Int32) (h : ah_H) (r : Int32) (h2 : ah_H), k146 x0 x1 x2 x3 x4 x5 h = some (r, h2) → Rt X yX10_sinks cX10_sinks 7 (d + 1) 146 [(0, va_rf x0), (1, .int x1), (2, .int x2), (3, .int x3), (4, .int x4), (5, .int x5)] [] h (some (.int r)) h2) {a0 : Option Nat} {a1 : Int32} {a2 : Int32} {a3 : Int32} {a4 : Int32} {a6 : Int32} {h : ah_H} {r : Int32} {h2 : ah_H} (hf : bX10_sinks_208 X.2.2.2 kr k146 a0 a1 a2 a3 a4 a6 h = some (r, h2)) : Rt X yX10_sinks cX10_sinks 7 (d + 1) 208 [(0, va_rf a0), (1, .int a1), (2, .int a2), (3, .int a3), (4, .int a4), (6, .int a6)] [] h (some (.int r)) h2 := by
  unfold bX10_sinks_208 at hf
  refine rt_iload (pc := 208) (i := 6) (x := a6) 5 rfl dX10_sinks_208 ?_
  refine rt_istore (pc := 210) (i := 5) (x := a6) (l2 := [(5, .int a6), (0, va_rf a0), (1, .int a1), (2, .int a2), (3, .int a3), (4, .int a4), (6, .int a6)]) (by decide) (by first | rfl | (simp [rt_cat, cat_i, cat_l]; done) | (simp [rt_cat, cat_i, cat_l]; decide)) dX10_sinks_210 ?_
  refine rt_goto (pc := 212) (tgt := 146) (by decide) dX10_sinks_212 ?_
  exact rt_locals (rt_sub [1, 2, 3, 4, 5, 0] rfl) (hk146 _ _ _ _ _ _ _ _ _ hf)
noncomputable def bX10_sinks_146 (E : ah_E) (kr : Option Nat → Int32 → ah_H → Option (Int32 × ah_H)) : Nat → Option Nat → Int32 → Int32 → Int32 → Int32 → Int32 → ah_H → Option (Int32 × ah_H)
  | 0 => fun _ _ _ _ _ _ _ => none
  | n + 1 => fun a0 a1 a2 a3 a4 a5 h =>
  if a5 = (-1 : Int32) then
    (hp_gr h a0 11 27).bind fun v2 =>
    (hp_sti h v2 a1 (-1 : Int32)).bind fun w4 =>
    (hp_gr w4 a0 11 22).bind fun v6 =>
    (hp_ldi w4 v6 (((128 : Int32) * a1) + a2)).bind fun v8 =>
    (hp_gi w4 a0 11 42).bind fun v10 =>
    (fX10_giveLetters E kr a0 v8 a4 v10 w4).bind fun w13 =>
    (hp_pv w13 a0 11 42 (.int a4)).bind fun w15 =>
    (fX10_partKid E a0 a1 a2 w15).bind fun w18 =>
    some (a3, w18)
  else
  (hp_gr h a0 11 39).bind fun v20 =>
  (hp_ldi h v20 a5).bind fun v22 =>
  (hp_gr h a0 11 37).bind fun v24 =>
  (hp_ldl h v24 a5).bind fun v26 =>
  ob2 (fX10_kidFor E a0 a1 v26 h) fun v30 w29 =>
  if v30 = a2 then
    (hp_gr w29 a0 11 41).bind fun v33 =>
    (hp_gi w29 a0 11 42).bind fun v35 =>
    (hp_sti w29 v33 v35 a5).bind fun w37 =>
    (hp_gi w37 a0 11 42).bind fun v39 =>
    (hp_pv w37 a0 11 42 (.int (v39 + (1 : Int32)))).bind fun w41 =>
    bX10_sinks_208 E kr (bX10_sinks_146 E kr n) a0 a1 a2 a3 a4 v22 w41
  else
  (fX10_chain E a0 a1 a5 w29).bind fun w44 =>
  bX10_sinks_208 E kr (bX10_sinks_146 E kr n) a0 a1 a2 a3 a4 v22 w44
set_option maxRecDepth 20000 in
set_option maxHeartbeats 4000000 in
theorem rX10_sinks_146 {X : ah_X} {d : Nat} {dk : Nat} {kr : Option Nat → Int32 → ah_H → Option (Int32 × ah_H)} (hkr : ∀ (d : Nat), dk ≤ d → ∀ (x0 : Option Nat) (x1 : Int32) (h : ah_H) (r : Int32) (h2 : ah_H), kr x0 x1 h = some (r, h2) → hp_rcv h x0 11 = true ∧ Rn X yX10_sinks cX10_sinks 7 (some .int) d [va_rf x0, .int x1] h (some (.int r)) h2) (hd : 3 ≤ d) (hdk : dk + 2 ≤ d) (n : Nat) : ∀ (a0 : Option Nat) (a1 : Int32) (a2 : Int32) (a3 : Int32) (a4 : Int32) (a5 : Int32) (h : ah_H) (r : Int32) (h2 : ah_H), bX10_sinks_146 X.2.2.2 kr n a0 a1 a2 a3 a4 a5 h = some (r, h2) → Rt X yX10_sinks cX10_sinks 7 (d + 1) 146 [(0, va_rf a0), (1, .int a1), (2, .int a2), (3, .int a3), (4, .int a4), (5, .int a5)] [] h (some (.int r)) h2 := by
  induction n with
  | zero => intro a0 a1 a2 a3 a4 a5 h r h2 hf; cases hf
  | succ n ih =>
  intro a0 a1 a2 a3 a4 a5 h r h2 hf
  unfold bX10_sinks_146 at hf
  refine rt_iload (pc := 146) (i := 5) (x := a5) 5 rfl dX10_sinks_146 ?_
  refine rt_iconst (pc := 148) (n := -1) (v := (-1 : Int32)) (by decide) dX10_sinks_148 ?_
  by_cases c1 : a5 = (-1 : Int32)
  · rw [if_pos c1] at hf
    refine rt_icmp_eq_p (pc := 149) (x := a5) (z := (-1 : Int32)) (tgt := 215) (by decide) dX10_sinks_149 c1 ?_
    refine rt_aload_n (pc := 215) (k0 := 0) (x := a0) 0 rfl dX10_sinks_215 ?_
    obtain ⟨v2, e3, hf⟩ := ob1 hf
    refine rt_gr (pc := 216) fd_X10_148 dX10_sinks_216 e3 ?_
    refine rt_iload_n (pc := 219) (k0 := 1) (x := a1) 1 rfl dX10_sinks_219 ?_
    refine rt_iconst (pc := 220) (n := -1) (v := (-1 : Int32)) (by decide) dX10_sinks_220 ?_
    obtain ⟨w4, e5, hf⟩ := ob1 hf
    refine rt_iast (pc := 221) dX10_sinks_221 e5 ?_
    refine rt_aload_n (pc := 222) (k0 := 0) (x := a0) 0 rfl dX10_sinks_222 ?_
    obtain ⟨v6, e7, hf⟩ := ob1 hf
    refine rt_gr (pc := 223) fd_X10_133 dX10_sinks_223 e7 ?_
    refine rt_sipush (pc := 226) (n := 128) (v := (128 : Int32)) (by decide) dX10_sinks_226 ?_
    refine rt_iload_n (pc := 229) (k0 := 1) (x := a1) 1 rfl dX10_sinks_229 ?_
    refine rt_imul (pc := 230) (x := (128 : Int32)) (z := a1) dX10_sinks_230 ?_
    refine rt_iload_n (pc := 231) (k0 := 2) (x := a2) 2 rfl dX10_sinks_231 ?_
    refine rt_iadd (pc := 232) (x := ((128 : Int32) * a1)) (z := a2) dX10_sinks_232 ?_
    obtain ⟨v8, e9, hf⟩ := ob1 hf
    refine rt_iald (pc := 233) dX10_sinks_233 e9 ?_
    refine rt_istore (pc := 234) (i := 6) (x := v8) (l2 := [(6, .int v8), (0, va_rf a0), (1, .int a1), (2, .int a2), (3, .int a3), (4, .int a4), (5, .int a5)]) (by decide) (by first | rfl | (simp [rt_cat, cat_i, cat_l]; done) | (simp [rt_cat, cat_i, cat_l]; decide)) dX10_sinks_234 ?_
    refine rt_aload_n (pc := 236) (k0 := 0) (x := a0) 1 rfl dX10_sinks_236 ?_
    refine rt_iload (pc := 237) (i := 6) (x := v8) 0 rfl dX10_sinks_237 ?_
    refine rt_iload (pc := 239) (i := 4) (x := a4) 5 rfl dX10_sinks_239 ?_
    refine rt_aload_n (pc := 241) (k0 := 0) (x := a0) 1 rfl dX10_sinks_241 ?_
    obtain ⟨v10, e11, hf⟩ := ob1 hf
    refine rt_gi (pc := 242) fd_X10_327 dX10_sinks_242 e11 ?_
    obtain ⟨w13, e12, hf⟩ := ob1 hf
    have g14 := sX10_giveLetters hkr d (by omega) (by omega) e12
    refine rt_callV (pc := 245) (As := [.int v8, .int a4, .int v10]) (st := []) me_X10_giveLetters mi_X10_giveLetters wl_X10_330 dX10_sinks_245 rfl (by decide) rfl g14.1 g14.2 ?_
    refine rt_aload_n (pc := 248) (k0 := 0) (x := a0) 1 rfl dX10_sinks_248 ?_
    refine rt_iload (pc := 249) (i := 4) (x := a4) 5 rfl dX10_sinks_249 ?_
    obtain ⟨w15, e16, hf⟩ := ob1 hf
    refine rt_putf (pc := 251) (x := a0) fw_X10_327 (Or.inl rfl) (pf_i _).1 (pf_i _).2 dX10_sinks_251 e16 ?_
    refine rt_aload_n (pc := 254) (k0 := 0) (x := a0) 1 rfl dX10_sinks_254 ?_
    refine rt_iload_n (pc := 255) (k0 := 1) (x := a1) 2 rfl dX10_sinks_255 ?_
    refine rt_iload_n (pc := 256) (k0 := 2) (x := a2) 3 rfl dX10_sinks_256 ?_
    obtain ⟨w18, e17, hf⟩ := ob1 hf
    have g19 := sX10_partKid d (by omega) e17
    refine rt_callV (pc := 257) (As := [.int a1, .int a2]) (st := []) me_X10_partKid mi_X10_partKid wl_X10_334 dX10_sinks_257 rfl (by decide) rfl g19.1 g19.2 ?_
    refine rt_iload_n (pc := 260) (k0 := 3) (x := a3) 4 rfl dX10_sinks_260 ?_
    cases hf
    exact rt_ret (pc := 261) dX10_sinks_261 rfl
  rw [if_neg c1] at hf
  refine rt_icmp_eq_n (pc := 149) (x := a5) (z := (-1 : Int32)) (tgt := 215) (by decide) dX10_sinks_149 c1 ?_
  refine rt_aload_n (pc := 152) (k0 := 0) (x := a0) 0 rfl dX10_sinks_152 ?_
  obtain ⟨v20, e21, hf⟩ := ob1 hf
  refine rt_gr (pc := 153) fd_X10_176 dX10_sinks_153 e21 ?_
  refine rt_iload (pc := 156) (i := 5) (x := a5) 5 rfl dX10_sinks_156 ?_
  obtain ⟨v22, e23, hf⟩ := ob1 hf
  refine rt_iald (pc := 158) dX10_sinks_158 e23 ?_
  refine rt_istore (pc := 159) (i := 6) (x := v22) (l2 := [(6, .int v22), (0, va_rf a0), (1, .int a1), (2, .int a2), (3, .int a3), (4, .int a4), (5, .int a5)]) (by decide) (by first | rfl | (simp [rt_cat, cat_i, cat_l]; done) | (simp [rt_cat, cat_i, cat_l]; decide)) dX10_sinks_159 ?_
  refine rt_aload_n (pc := 161) (k0 := 0) (x := a0) 1 rfl dX10_sinks_161 ?_
  refine rt_iload_n (pc := 162) (k0 := 1) (x := a1) 2 rfl dX10_sinks_162 ?_
  refine rt_aload_n (pc := 163) (k0 := 0) (x := a0) 1 rfl dX10_sinks_163 ?_
  obtain ⟨v24, e25, hf⟩ := ob1 hf
  refine rt_gr (pc := 164) fd_X10_170 dX10_sinks_164 e25 ?_
  refine rt_iload (pc := 167) (i := 5) (x := a5) 6 rfl dX10_sinks_167 ?_
  obtain ⟨v26, e27, hf⟩ := ob1 hf
  refine rt_lald (pc := 169) dX10_sinks_169 e27 ?_
  obtain ⟨v30, w29, e28, hf⟩ := ob2_of hf
  have g31 := sX10_kidFor d (by omega) e28
  refine rt_callV (pc := 170) (As := [.int a1, .long v26]) (st := []) me_X10_kidFor mi_X10_kidFor wl_X10_307 dX10_sinks_170 rfl (by decide) rfl g31.1 g31.2 ?_
  refine rt_iload_n (pc := 173) (k0 := 2) (x := a2) 3 rfl dX10_sinks_173 ?_
  by_cases c32 : v30 = a2
  · rw [if_pos c32] at hf
    refine rt_icmp_ne_p (pc := 174) (x := v30) (z := a2) (tgt := 201) (by decide) dX10_sinks_174 c32 ?_
    refine rt_aload_n (pc := 177) (k0 := 0) (x := a0) 1 rfl dX10_sinks_177 ?_
    obtain ⟨v33, e34, hf⟩ := ob1 hf
    refine rt_gr (pc := 178) fd_X10_179 dX10_sinks_178 e34 ?_
    refine rt_aload_n (pc := 181) (k0 := 0) (x := a0) 1 rfl dX10_sinks_181 ?_
    obtain ⟨v35, e36, hf⟩ := ob1 hf
    refine rt_gi (pc := 182) fd_X10_327 dX10_sinks_182 e36 ?_
    refine rt_iload (pc := 185) (i := 5) (x := a5) 6 rfl dX10_sinks_185 ?_
    obtain ⟨w37, e38, hf⟩ := ob1 hf
    refine rt_iast (pc := 187) dX10_sinks_187 e38 ?_
    refine rt_aload_n (pc := 188) (k0 := 0) (x := a0) 1 rfl dX10_sinks_188 ?_
    refine rt_dup (pc := 189) (rt_cat _) dX10_sinks_189 ?_
    obtain ⟨v39, e40, hf⟩ := ob1 hf
    refine rt_gi (pc := 190) fd_X10_327 dX10_sinks_190 e40 ?_
    refine rt_iconst (pc := 193) (n := 1) (v := (1 : Int32)) (by decide) dX10_sinks_193 ?_
    refine rt_iadd (pc := 194) (x := v39) (z := (1 : Int32)) dX10_sinks_194 ?_
    obtain ⟨w41, e42, hf⟩ := ob1 hf
    refine rt_putf (pc := 195) (x := a0) fw_X10_327 (Or.inl rfl) (pf_i _).1 (pf_i _).2 dX10_sinks_195 e42 ?_
    refine rt_goto (pc := 198) (tgt := 208) (by decide) dX10_sinks_198 ?_
    exact rt_locals (rt_sub [1, 2, 3, 4, 5, 0] rfl) (rX10_sinks_208 hkr hd hdk ih hf)
  rw [if_neg c32] at hf
  refine rt_icmp_ne_n (pc := 174) (x := v30) (z := a2) (tgt := 201) (by decide) dX10_sinks_174 c32 ?_
  refine rt_aload_n (pc := 201) (k0 := 0) (x := a0) 1 rfl dX10_sinks_201 ?_
  refine rt_iload_n (pc := 202) (k0 := 1) (x := a1) 2 rfl dX10_sinks_202 ?_
  refine rt_iload (pc := 203) (i := 5) (x := a5) 6 rfl dX10_sinks_203 ?_
  obtain ⟨w44, e43, hf⟩ := ob1 hf
  have g45 := sX10_chain d (by omega) e43
  refine rt_callV (pc := 205) (As := [.int a1, .int a5]) (st := []) me_X10_chain mi_X10_chain wl_X10_289 dX10_sinks_205 rfl (by decide) rfl g45.1 g45.2 ?_
  exact rt_locals (rt_sub [1, 2, 3, 4, 5, 0] rfl) (rX10_sinks_208 hkr hd hdk ih hf)
noncomputable def bX10_sinks_71 (E : ah_E) (kr : Option Nat → Int32 → ah_H → Option (Int32 × ah_H)) : Nat → Option Nat → Int32 → Int32 → Int32 → ah_H → Option (Int32 × ah_H)
  | 0 => fun _ _ _ _ _ => none
  | n + 1 => fun a0 a1 a2 a3 h =>
  (hp_gr h a0 11 21).bind fun v1 =>
  (hp_ldi h v1 a1).bind fun v3 =>
  if v3 ≤ a3 then
    (hp_gr h a0 11 43).bind fun v6 =>
    (hp_ldi h v6 a2).bind fun v8 =>
    (hp_gi h a0 11 42).bind fun v10 =>
    (hp_gr h a0 11 24).bind fun v12 =>
    (hp_ldi h v12 a1).bind fun v14 =>
    (hp_gr h a0 11 24).bind fun v16 =>
    (hp_sti h v16 a1 (-1 : Int32)).bind fun w18 =>
    (hp_gr w18 a0 11 25).bind fun v20 =>
    (hp_sti w18 v20 a1 (-1 : Int32)).bind fun w22 =>
    (hp_gr w22 a0 11 26).bind fun v24 =>
    (hp_sti w22 v24 a1 (0 : Int32)).bind fun w26 =>
    bX10_sinks_146 E kr zf a0 a1 a2 v8 v10 v14 w26
  else
  (hp_gr h a0 11 43).bind fun v28 =>
  (hp_ldi h v28 a3).bind fun v30 =>
  (hp_gr h a0 11 43).bind fun v32 =>
  (hp_ldi h v32 a2).bind fun v34 =>
  if v30 ≤ v34 then
    bX10_sinks_98 E kr (bX10_sinks_71 E kr n) a0 a1 a2 a3 h
  else
  bX10_sinks_98 E kr (bX10_sinks_71 E kr n) a0 a1 a3 a3 h
set_option maxRecDepth 20000 in
set_option maxHeartbeats 4000000 in
theorem rX10_sinks_71 {X : ah_X} {d : Nat} {dk : Nat} {kr : Option Nat → Int32 → ah_H → Option (Int32 × ah_H)} (hkr : ∀ (d : Nat), dk ≤ d → ∀ (x0 : Option Nat) (x1 : Int32) (h : ah_H) (r : Int32) (h2 : ah_H), kr x0 x1 h = some (r, h2) → hp_rcv h x0 11 = true ∧ Rn X yX10_sinks cX10_sinks 7 (some .int) d [va_rf x0, .int x1] h (some (.int r)) h2) (hd : 3 ≤ d) (hdk : dk + 2 ≤ d) (n : Nat) : ∀ (a0 : Option Nat) (a1 : Int32) (a2 : Int32) (a3 : Int32) (h : ah_H) (r : Int32) (h2 : ah_H), bX10_sinks_71 X.2.2.2 kr n a0 a1 a2 a3 h = some (r, h2) → Rt X yX10_sinks cX10_sinks 7 (d + 1) 71 [(0, va_rf a0), (1, .int a1), (2, .int a2), (3, .int a3)] [] h (some (.int r)) h2 := by
  induction n with
  | zero => intro a0 a1 a2 a3 h r h2 hf; cases hf
  | succ n ih =>
  intro a0 a1 a2 a3 h r h2 hf
  unfold bX10_sinks_71 at hf
  refine rt_iload_n (pc := 71) (k0 := 3) (x := a3) 3 rfl dX10_sinks_71 ?_
  refine rt_aload_n (pc := 72) (k0 := 0) (x := a0) 0 rfl dX10_sinks_72 ?_
  obtain ⟨v1, e2, hf⟩ := ob1 hf
  refine rt_gr (pc := 73) fd_X10_129 dX10_sinks_73 e2 ?_
  refine rt_iload_n (pc := 76) (k0 := 1) (x := a1) 1 rfl dX10_sinks_76 ?_
  obtain ⟨v3, e4, hf⟩ := ob1 hf
  refine rt_iald (pc := 77) dX10_sinks_77 e4 ?_
  by_cases c5 : v3 ≤ a3
  · rw [if_pos c5] at hf
    refine rt_icmp_ge_p (pc := 78) (x := a3) (z := v3) (tgt := 104) (by decide) dX10_sinks_78 c5 ?_
    refine rt_aload_n (pc := 104) (k0 := 0) (x := a0) 0 rfl dX10_sinks_104 ?_
    obtain ⟨v6, e7, hf⟩ := ob1 hf
    refine rt_gr (pc := 105) fd_X10_182 dX10_sinks_105 e7 ?_
    refine rt_iload_n (pc := 108) (k0 := 2) (x := a2) 2 rfl dX10_sinks_108 ?_
    obtain ⟨v8, e9, hf⟩ := ob1 hf
    refine rt_iald (pc := 109) dX10_sinks_109 e9 ?_
    refine rt_istore_n (pc := 110) (k0 := 3) (x := v8) (l2 := [(3, .int v8), (0, va_rf a0), (1, .int a1), (2, .int a2)]) (by decide) (by first | rfl | (simp [rt_cat, cat_i, cat_l]; done) | (simp [rt_cat, cat_i, cat_l]; decide)) dX10_sinks_110 ?_
    refine rt_aload_n (pc := 111) (k0 := 0) (x := a0) 1 rfl dX10_sinks_111 ?_
    obtain ⟨v10, e11, hf⟩ := ob1 hf
    refine rt_gi (pc := 112) fd_X10_327 dX10_sinks_112 e11 ?_
    refine rt_istore (pc := 115) (i := 4) (x := v10) (l2 := [(4, .int v10), (3, .int v8), (0, va_rf a0), (1, .int a1), (2, .int a2)]) (by decide) (by first | rfl | (simp [rt_cat, cat_i, cat_l]; done) | (simp [rt_cat, cat_i, cat_l]; decide)) dX10_sinks_115 ?_
    refine rt_aload_n (pc := 117) (k0 := 0) (x := a0) 2 rfl dX10_sinks_117 ?_
    obtain ⟨v12, e13, hf⟩ := ob1 hf
    refine rt_gr (pc := 118) fd_X10_139 dX10_sinks_118 e13 ?_
    refine rt_iload_n (pc := 121) (k0 := 1) (x := a1) 3 rfl dX10_sinks_121 ?_
    obtain ⟨v14, e15, hf⟩ := ob1 hf
    refine rt_iald (pc := 122) dX10_sinks_122 e15 ?_
    refine rt_istore (pc := 123) (i := 5) (x := v14) (l2 := [(5, .int v14), (4, .int v10), (3, .int v8), (0, va_rf a0), (1, .int a1), (2, .int a2)]) (by decide) (by first | rfl | (simp [rt_cat, cat_i, cat_l]; done) | (simp [rt_cat, cat_i, cat_l]; decide)) dX10_sinks_123 ?_
    refine rt_aload_n (pc := 125) (k0 := 0) (x := a0) 3 rfl dX10_sinks_125 ?_
    obtain ⟨v16, e17, hf⟩ := ob1 hf
    refine rt_gr (pc := 126) fd_X10_139 dX10_sinks_126 e17 ?_
    refine rt_iload_n (pc := 129) (k0 := 1) (x := a1) 4 rfl dX10_sinks_129 ?_
    refine rt_iconst (pc := 130) (n := -1) (v := (-1 : Int32)) (by decide) dX10_sinks_130 ?_
    obtain ⟨w18, e19, hf⟩ := ob1 hf
    refine rt_iast (pc := 131) dX10_sinks_131 e19 ?_
    refine rt_aload_n (pc := 132) (k0 := 0) (x := a0) 3 rfl dX10_sinks_132 ?_
    obtain ⟨v20, e21, hf⟩ := ob1 hf
    refine rt_gr (pc := 133) fd_X10_142 dX10_sinks_133 e21 ?_
    refine rt_iload_n (pc := 136) (k0 := 1) (x := a1) 4 rfl dX10_sinks_136 ?_
    refine rt_iconst (pc := 137) (n := -1) (v := (-1 : Int32)) (by decide) dX10_sinks_137 ?_
    obtain ⟨w22, e23, hf⟩ := ob1 hf
    refine rt_iast (pc := 138) dX10_sinks_138 e23 ?_
    refine rt_aload_n (pc := 139) (k0 := 0) (x := a0) 3 rfl dX10_sinks_139 ?_
    obtain ⟨v24, e25, hf⟩ := ob1 hf
    refine rt_gr (pc := 140) fd_X10_145 dX10_sinks_140 e25 ?_
    refine rt_iload_n (pc := 143) (k0 := 1) (x := a1) 4 rfl dX10_sinks_143 ?_
    refine rt_iconst (pc := 144) (n := 0) (v := (0 : Int32)) (by decide) dX10_sinks_144 ?_
    obtain ⟨w26, e27, hf⟩ := ob1 hf
    refine rt_iast (pc := 145) dX10_sinks_145 e27 ?_
    exact rt_locals (rt_sub [3, 4, 5, 2, 1, 0] rfl) (rX10_sinks_146 hkr hd hdk zf _ _ _ _ _ _ _ _ _ hf)
  rw [if_neg c5] at hf
  refine rt_icmp_ge_n (pc := 78) (x := a3) (z := v3) (tgt := 104) (by decide) dX10_sinks_78 c5 ?_
  refine rt_aload_n (pc := 81) (k0 := 0) (x := a0) 0 rfl dX10_sinks_81 ?_
  obtain ⟨v28, e29, hf⟩ := ob1 hf
  refine rt_gr (pc := 82) fd_X10_182 dX10_sinks_82 e29 ?_
  refine rt_iload_n (pc := 85) (k0 := 3) (x := a3) 3 rfl dX10_sinks_85 ?_
  obtain ⟨v30, e31, hf⟩ := ob1 hf
  refine rt_iald (pc := 86) dX10_sinks_86 e31 ?_
  refine rt_aload_n (pc := 87) (k0 := 0) (x := a0) 0 rfl dX10_sinks_87 ?_
  obtain ⟨v32, e33, hf⟩ := ob1 hf
  refine rt_gr (pc := 88) fd_X10_182 dX10_sinks_88 e33 ?_
  refine rt_iload_n (pc := 91) (k0 := 2) (x := a2) 2 rfl dX10_sinks_91 ?_
  obtain ⟨v34, e35, hf⟩ := ob1 hf
  refine rt_iald (pc := 92) dX10_sinks_92 e35 ?_
  by_cases c36 : v30 ≤ v34
  · rw [if_pos c36] at hf
    refine rt_icmp_le_p (pc := 93) (x := v30) (z := v34) (tgt := 98) (by decide) dX10_sinks_93 c36 ?_
    exact rX10_sinks_98 hkr hd hdk ih hf
  rw [if_neg c36] at hf
  refine rt_icmp_le_n (pc := 93) (x := v30) (z := v34) (tgt := 98) (by decide) dX10_sinks_93 c36 ?_
  refine rt_iload_n (pc := 96) (k0 := 3) (x := a3) 3 rfl dX10_sinks_96 ?_
  refine rt_istore_n (pc := 97) (k0 := 2) (x := a3) (l2 := [(2, .int a3), (0, va_rf a0), (1, .int a1), (3, .int a3)]) (by decide) (by first | rfl | (simp [rt_cat, cat_i, cat_l]; done) | (simp [rt_cat, cat_i, cat_l]; decide)) dX10_sinks_97 ?_
  exact rt_locals (rt_sub [1, 2, 0, 3] rfl) (rX10_sinks_98 hkr hd hdk ih hf)
noncomputable def bX10_sinks_32 (E : ah_E) (kr : Option Nat → Int32 → ah_H → Option (Int32 × ah_H)) : Nat → Option Nat → Int32 → Int32 → ah_H → Option (Int32 × ah_H)
  | 0 => fun _ _ _ _ => none
  | n + 1 => fun a0 a1 a2 h =>
  if a2 = (-1 : Int32) then
    bX10_sinks_71 E kr zf a0 a1 (0 : Int32) (1 : Int32) h
  else
  (hp_gr h a0 11 43).bind fun v2 =>
  (hp_gr h a0 11 37).bind fun v4 =>
  (hp_ldl h v4 a2).bind fun v6 =>
  ob2 (fX10_kidFor E a0 a1 v6 h) fun v10 w9 =>
  (hp_ldi w9 v2 v10).bind fun v12 =>
  (hp_sti w9 v2 v10 (v12 + (1 : Int32))).bind fun w14 =>
  (hp_gr w14 a0 11 39).bind fun v16 =>
  (hp_ldi w14 v16 a2).bind fun v18 =>
  bX10_sinks_32 E kr n a0 a1 v18 w14
set_option maxRecDepth 20000 in
set_option maxHeartbeats 4000000 in
theorem rX10_sinks_32 {X : ah_X} {d : Nat} {dk : Nat} {kr : Option Nat → Int32 → ah_H → Option (Int32 × ah_H)} (hkr : ∀ (d : Nat), dk ≤ d → ∀ (x0 : Option Nat) (x1 : Int32) (h : ah_H) (r : Int32) (h2 : ah_H), kr x0 x1 h = some (r, h2) → hp_rcv h x0 11 = true ∧ Rn X yX10_sinks cX10_sinks 7 (some .int) d [va_rf x0, .int x1] h (some (.int r)) h2) (hd : 3 ≤ d) (hdk : dk + 2 ≤ d) (n : Nat) : ∀ (a0 : Option Nat) (a1 : Int32) (a2 : Int32) (h : ah_H) (r : Int32) (h2 : ah_H), bX10_sinks_32 X.2.2.2 kr n a0 a1 a2 h = some (r, h2) → Rt X yX10_sinks cX10_sinks 7 (d + 1) 32 [(0, va_rf a0), (1, .int a1), (2, .int a2)] [] h (some (.int r)) h2 := by
  induction n with
  | zero => intro a0 a1 a2 h r h2 hf; cases hf
  | succ n ih =>
  intro a0 a1 a2 h r h2 hf
  unfold bX10_sinks_32 at hf
  refine rt_iload_n (pc := 32) (k0 := 2) (x := a2) 2 rfl dX10_sinks_32 ?_
  refine rt_iconst (pc := 33) (n := -1) (v := (-1 : Int32)) (by decide) dX10_sinks_33 ?_
  by_cases c1 : a2 = (-1 : Int32)
  · rw [if_pos c1] at hf
    refine rt_icmp_eq_p (pc := 34) (x := a2) (z := (-1 : Int32)) (tgt := 67) (by decide) dX10_sinks_34 c1 ?_
    refine rt_iconst (pc := 67) (n := 0) (v := (0 : Int32)) (by decide) dX10_sinks_67 ?_
    refine rt_istore_n (pc := 68) (k0 := 2) (x := (0 : Int32)) (l2 := [(2, .int (0 : Int32)), (0, va_rf a0), (1, .int a1)]) (by decide) (by first | rfl | (simp [rt_cat, cat_i, cat_l]; done) | (simp [rt_cat, cat_i, cat_l]; decide)) dX10_sinks_68 ?_
    refine rt_iconst (pc := 69) (n := 1) (v := (1 : Int32)) (by decide) dX10_sinks_69 ?_
    refine rt_istore_n (pc := 70) (k0 := 3) (x := (1 : Int32)) (l2 := [(3, .int (1 : Int32)), (2, .int (0 : Int32)), (0, va_rf a0), (1, .int a1)]) (by decide) (by first | rfl | (simp [rt_cat, cat_i, cat_l]; done) | (simp [rt_cat, cat_i, cat_l]; decide)) dX10_sinks_70 ?_
    exact rt_locals (rt_sub [2, 3, 1, 0] rfl) (rX10_sinks_71 hkr hd hdk zf _ _ _ _ _ _ _ hf)
  rw [if_neg c1] at hf
  refine rt_icmp_eq_n (pc := 34) (x := a2) (z := (-1 : Int32)) (tgt := 67) (by decide) dX10_sinks_34 c1 ?_
  refine rt_aload_n (pc := 37) (k0 := 0) (x := a0) 0 rfl dX10_sinks_37 ?_
  obtain ⟨v2, e3, hf⟩ := ob1 hf
  refine rt_gr (pc := 38) fd_X10_182 dX10_sinks_38 e3 ?_
  refine rt_aload_n (pc := 41) (k0 := 0) (x := a0) 0 rfl dX10_sinks_41 ?_
  refine rt_iload_n (pc := 42) (k0 := 1) (x := a1) 1 rfl dX10_sinks_42 ?_
  refine rt_aload_n (pc := 43) (k0 := 0) (x := a0) 0 rfl dX10_sinks_43 ?_
  obtain ⟨v4, e5, hf⟩ := ob1 hf
  refine rt_gr (pc := 44) fd_X10_170 dX10_sinks_44 e5 ?_
  refine rt_iload_n (pc := 47) (k0 := 2) (x := a2) 2 rfl dX10_sinks_47 ?_
  obtain ⟨v6, e7, hf⟩ := ob1 hf
  refine rt_lald (pc := 48) dX10_sinks_48 e7 ?_
  obtain ⟨v10, w9, e8, hf⟩ := ob2_of hf
  have g11 := sX10_kidFor d (by omega) e8
  refine rt_callV (pc := 49) (As := [.int a1, .long v6]) (st := [va_rf v2]) me_X10_kidFor mi_X10_kidFor wl_X10_307 dX10_sinks_49 rfl (by simp [rt_cat, cat_i, cat_l]) rfl g11.1 g11.2 ?_
  refine rt_dup2 (pc := 52) rfl (rt_cat _) dX10_sinks_52 ?_
  obtain ⟨v12, e13, hf⟩ := ob1 hf
  refine rt_iald (pc := 53) dX10_sinks_53 e13 ?_
  refine rt_iconst (pc := 54) (n := 1) (v := (1 : Int32)) (by decide) dX10_sinks_54 ?_
  refine rt_iadd (pc := 55) (x := v12) (z := (1 : Int32)) dX10_sinks_55 ?_
  obtain ⟨w14, e15, hf⟩ := ob1 hf
  refine rt_iast (pc := 56) dX10_sinks_56 e15 ?_
  refine rt_aload_n (pc := 57) (k0 := 0) (x := a0) 0 rfl dX10_sinks_57 ?_
  obtain ⟨v16, e17, hf⟩ := ob1 hf
  refine rt_gr (pc := 58) fd_X10_176 dX10_sinks_58 e17 ?_
  refine rt_iload_n (pc := 61) (k0 := 2) (x := a2) 2 rfl dX10_sinks_61 ?_
  obtain ⟨v18, e19, hf⟩ := ob1 hf
  refine rt_iald (pc := 62) dX10_sinks_62 e19 ?_
  refine rt_istore_n (pc := 63) (k0 := 2) (x := v18) (l2 := [(2, .int v18), (0, va_rf a0), (1, .int a1)]) (by decide) (by first | rfl | (simp [rt_cat, cat_i, cat_l]; done) | (simp [rt_cat, cat_i, cat_l]; decide)) dX10_sinks_63 ?_
  refine rt_goto (pc := 64) (tgt := 32) (by decide) dX10_sinks_64 ?_
  exact rt_locals (rt_sub [1, 2, 0] rfl) (ih _ _ _ _ _ _ hf)
noncomputable def bX10_sinks_2 (E : ah_E) (kr : Option Nat → Int32 → ah_H → Option (Int32 × ah_H)) : Nat → Option Nat → Int32 → Int32 → ah_H → Option (Int32 × ah_H)
  | 0 => fun _ _ _ _ => none
  | n + 1 => fun a0 a1 a2 h =>
  (hp_gr h a0 11 21).bind fun v1 =>
  (hp_ldi h v1 a1).bind fun v3 =>
  if v3 ≤ a2 then
    (hp_gr h a0 11 24).bind fun v6 =>
    (hp_ldi h v6 a1).bind fun v8 =>
    bX10_sinks_32 E kr zf a0 a1 v8 h
  else
  (hp_gr h a0 11 43).bind fun v10 =>
  (hp_sti h v10 a2 (0 : Int32)).bind fun w12 =>
  bX10_sinks_2 E kr n a0 a1 (a2 + 1) w12
set_option maxRecDepth 20000 in
set_option maxHeartbeats 4000000 in
theorem rX10_sinks_2 {X : ah_X} {d : Nat} {dk : Nat} {kr : Option Nat → Int32 → ah_H → Option (Int32 × ah_H)} (hkr : ∀ (d : Nat), dk ≤ d → ∀ (x0 : Option Nat) (x1 : Int32) (h : ah_H) (r : Int32) (h2 : ah_H), kr x0 x1 h = some (r, h2) → hp_rcv h x0 11 = true ∧ Rn X yX10_sinks cX10_sinks 7 (some .int) d [va_rf x0, .int x1] h (some (.int r)) h2) (hd : 3 ≤ d) (hdk : dk + 2 ≤ d) (n : Nat) : ∀ (a0 : Option Nat) (a1 : Int32) (a2 : Int32) (h : ah_H) (r : Int32) (h2 : ah_H), bX10_sinks_2 X.2.2.2 kr n a0 a1 a2 h = some (r, h2) → Rt X yX10_sinks cX10_sinks 7 (d + 1) 2 [(0, va_rf a0), (1, .int a1), (2, .int a2)] [] h (some (.int r)) h2 := by
  induction n with
  | zero => intro a0 a1 a2 h r h2 hf; cases hf
  | succ n ih =>
  intro a0 a1 a2 h r h2 hf
  unfold bX10_sinks_2 at hf
  refine rt_iload_n (pc := 2) (k0 := 2) (x := a2) 2 rfl dX10_sinks_2 ?_
  refine rt_aload_n (pc := 3) (k0 := 0) (x := a0) 0 rfl dX10_sinks_3 ?_
  obtain ⟨v1, e2, hf⟩ := ob1 hf
  refine rt_gr (pc := 4) fd_X10_129 dX10_sinks_4 e2 ?_
  refine rt_iload_n (pc := 7) (k0 := 1) (x := a1) 1 rfl dX10_sinks_7 ?_
  obtain ⟨v3, e4, hf⟩ := ob1 hf
  refine rt_iald (pc := 8) dX10_sinks_8 e4 ?_
  by_cases c5 : v3 ≤ a2
  · rw [if_pos c5] at hf
    refine rt_icmp_ge_p (pc := 9) (x := a2) (z := v3) (tgt := 25) (by decide) dX10_sinks_9 c5 ?_
    refine rt_aload_n (pc := 25) (k0 := 0) (x := a0) 0 rfl dX10_sinks_25 ?_
    obtain ⟨v6, e7, hf⟩ := ob1 hf
    refine rt_gr (pc := 26) fd_X10_139 dX10_sinks_26 e7 ?_
    refine rt_iload_n (pc := 29) (k0 := 1) (x := a1) 1 rfl dX10_sinks_29 ?_
    obtain ⟨v8, e9, hf⟩ := ob1 hf
    refine rt_iald (pc := 30) dX10_sinks_30 e9 ?_
    refine rt_istore_n (pc := 31) (k0 := 2) (x := v8) (l2 := [(2, .int v8), (0, va_rf a0), (1, .int a1)]) (by decide) (by first | rfl | (simp [rt_cat, cat_i, cat_l]; done) | (simp [rt_cat, cat_i, cat_l]; decide)) dX10_sinks_31 ?_
    exact rt_locals (rt_sub [1, 2, 0] rfl) (rX10_sinks_32 hkr hd hdk zf _ _ _ _ _ _ hf)
  rw [if_neg c5] at hf
  refine rt_icmp_ge_n (pc := 9) (x := a2) (z := v3) (tgt := 25) (by decide) dX10_sinks_9 c5 ?_
  refine rt_aload_n (pc := 12) (k0 := 0) (x := a0) 0 rfl dX10_sinks_12 ?_
  obtain ⟨v10, e11, hf⟩ := ob1 hf
  refine rt_gr (pc := 13) fd_X10_182 dX10_sinks_13 e11 ?_
  refine rt_iload_n (pc := 16) (k0 := 2) (x := a2) 2 rfl dX10_sinks_16 ?_
  refine rt_iconst (pc := 17) (n := 0) (v := (0 : Int32)) (by decide) dX10_sinks_17 ?_
  obtain ⟨w12, e13, hf⟩ := ob1 hf
  refine rt_iast (pc := 18) dX10_sinks_18 e13 ?_
  refine rt_iinc (pc := 19) (i := 2) (n := 1) (x := a2) (v := (a2 + 1)) (l2 := [(2, .int (a2 + 1)), (0, va_rf a0), (1, .int a1)]) 2 rfl rfl (by decide) (by first | rfl | (simp [rt_cat, cat_i, cat_l]; done) | (simp [rt_cat, cat_i, cat_l]; decide)) dX10_sinks_19 ?_
  refine rt_goto (pc := 22) (tgt := 2) (by decide) dX10_sinks_22 ?_
  exact rt_locals (rt_sub [1, 2, 0] rfl) (ih _ _ _ _ _ _ hf)
noncomputable def bX10_sinks_0 (E : ah_E) (kr : Option Nat → Int32 → ah_H → Option (Int32 × ah_H)) (a0 : Option Nat) (a1 : Int32) (h : ah_H) : Option (Int32 × ah_H) :=
  bX10_sinks_2 E kr zf a0 a1 (0 : Int32) h
set_option maxRecDepth 20000 in
set_option maxHeartbeats 4000000 in
theorem rX10_sinks_0 {X : ah_X} {d : Nat} {dk : Nat} {kr : Option Nat → Int32 → ah_H → Option (Int32 × ah_H)} (hkr : ∀ (d : Nat), dk ≤ d → ∀ (x0 : Option Nat) (x1 : Int32) (h : ah_H) (r : Int32) (h2 : ah_H), kr x0 x1 h = some (r, h2) → hp_rcv h x0 11 = true ∧ Rn X yX10_sinks cX10_sinks 7 (some .int) d [va_rf x0, .int x1] h (some (.int r)) h2) (hd : 3 ≤ d) (hdk : dk + 2 ≤ d) {a0 : Option Nat} {a1 : Int32} {h : ah_H} {r : Int32} {h2 : ah_H} (hf : bX10_sinks_0 X.2.2.2 kr a0 a1 h = some (r, h2)) : Rt X yX10_sinks cX10_sinks 7 (d + 1) 0 [(0, va_rf a0), (1, .int a1)] [] h (some (.int r)) h2 := by
  unfold bX10_sinks_0 at hf
  refine rt_iconst (pc := 0) (n := 0) (v := (0 : Int32)) (by decide) dX10_sinks_0 ?_
  refine rt_istore_n (pc := 1) (k0 := 2) (x := (0 : Int32)) (l2 := [(2, .int (0 : Int32)), (0, va_rf a0), (1, .int a1)]) (by decide) (by first | rfl | (simp [rt_cat, cat_i, cat_l]; done) | (simp [rt_cat, cat_i, cat_l]; decide)) dX10_sinks_1 ?_
  exact rt_locals (rt_sub [1, 2, 0] rfl) (rX10_sinks_2 hkr hd hdk zf _ _ _ _ _ _ hf)
noncomputable def gX10_sinks (E : ah_E) (kr : Option Nat → Int32 → ah_H → Option (Int32 × ah_H)) (a0 : Option Nat) (a1 : Int32) (h : ah_H) : Option (Int32 × ah_H) := if hp_rcv h a0 11 = false then none else bX10_sinks_0 E kr a0 a1 h
set_option maxRecDepth 20000 in
set_option maxHeartbeats 4000000 in
theorem tX10_sinks {X : ah_X} {dk : Nat} {kr : Option Nat → Int32 → ah_H → Option (Int32 × ah_H)} (hkr : ∀ (d : Nat), dk ≤ d → ∀ (x0 : Option Nat) (x1 : Int32) (h : ah_H) (r : Int32) (h2 : ah_H), kr x0 x1 h = some (r, h2) → hp_rcv h x0 11 = true ∧ Rn X yX10_sinks cX10_sinks 7 (some .int) d [va_rf x0, .int x1] h (some (.int r)) h2) (d : Nat) (hdk : dk + 3 ≤ d) (hd : 4 ≤ d) {a0 : Option Nat} {a1 : Int32} {h : ah_H} {r : Int32} {h2 : ah_H} (hf : gX10_sinks X.2.2.2 kr a0 a1 h = some (r, h2)) : hp_rcv h a0 11 = true ∧ Rn X yX10_sinks cX10_sinks 7 (some .int) d [va_rf a0, .int a1] h (some (.int r)) h2 := by
  unfold gX10_sinks at hf
  by_cases c0 : hp_rcv h a0 11 = false
  · rw [if_pos c0] at hf; cases hf
  rw [if_neg c0] at hf
  refine ⟨(Bool.not_eq_false _).mp c0, ?_⟩
  obtain ⟨d, rfl⟩ : ∃ k, d = k + 1 := ⟨d - 1, by omega⟩
  exact Rn.of2 me_X10_sinks (by simp [lg_sl, rt_cat, cat_i, cat_l]) (ok_i _) (l := [(0, va_rf a0), (1, .int a1)]) (by simp [lv_args, rt_cat, cat_i, cat_l]) (rX10_sinks_0 hkr (by omega) (by omega) hf)
noncomputable def fX10_sinks (E : ah_E) : Nat → Option Nat → Int32 → ah_H → Option (Int32 × ah_H)
  | 0 => fun _ _ _ => none
  | n + 1 => fun a0 a1 h => gX10_sinks E (fX10_sinks E n) a0 a1 h
set_option maxRecDepth 20000 in
set_option maxHeartbeats 4000000 in
theorem sX10_sinks {X : ah_X} (n : Nat) : ∀ (d : Nat), 4 + 3 * n ≤ d → ∀ (a0 : Option Nat) (a1 : Int32) (h : ah_H) (r : Int32) (h2 : ah_H), fX10_sinks X.2.2.2 n a0 a1 h = some (r, h2) → hp_rcv h a0 11 = true ∧ Rn X yX10_sinks cX10_sinks 7 (some .int) d [va_rf a0, .int a1] h (some (.int r)) h2 := by
  induction n with
  | zero => intro d hd a0 a1 h r h2 hf; cases hf
  | succ n ih =>
    intro d hd a0 a1 h r h2 hf
    exact tX10_sinks (dk := 4 + 3 * n) ih d (by omega) (by omega) hf
noncomputable def bX10_giveRoot_47 (E : ah_E) (a0 : Option Nat) (h : ah_H) : Option ah_H :=
  (fX10_grow E a0 h).bind fun w2 =>
  some w2
set_option maxRecDepth 20000 in
set_option maxHeartbeats 4000000 in
theorem rX10_giveRoot_47 {X : ah_X} {d : Nat} (hd : 140 ≤ d) {a0 : Option Nat} {h : ah_H} {h2 : ah_H} (hf : bX10_giveRoot_47 X.2.2.2 a0 h = some h2) : Rt X yX10_giveRoot cX10_giveRoot 6 (d + 1) 47 [(0, va_rf a0)] [] h none h2 := by
  unfold bX10_giveRoot_47 at hf
  refine rt_aload_n (pc := 47) (k0 := 0) (x := a0) 0 rfl dX10_giveRoot_47 ?_
  obtain ⟨w2, e1, hf⟩ := ob1 hf
  have g3 := sX10_grow d (by omega) e1
  refine rt_callV (pc := 48) (As := []) (st := []) me_X10_grow mi_X10_grow wl_X10_324 dX10_giveRoot_48 rfl (by decide) rfl g3.1 g3.2 ?_
  cases hf
  exact rt_ret (pc := 51) dX10_giveRoot_51 rfl
noncomputable def bX10_giveRoot_0 (E : ah_E) (a0 : Option Nat) (a1 : Int32) (a2 : Int64) (a4 : Int64) (h : ah_H) : Option ah_H :=
  (hp_gr h a0 11 18).bind fun v1 =>
  (hp_gi h a0 11 30).bind fun v3 =>
  (hp_ldb h v1 v3).bind fun v5 =>
  if v5 = 0 then
    (hp_gi h a0 11 30).bind fun v8 =>
    (fX10_comes E a0 v8 a1 a2 a4 h).bind fun w11 =>
    (hp_gi w11 a0 11 30).bind fun v13 =>
    (fX10_settlePage E (fX10_sinks E zd) a0 v13 w11).bind fun w16 =>
    bX10_giveRoot_47 E a0 w16
  else
  (hp_gi h a0 11 30).bind fun v18 =>
  (fX10_actOnLeaf E a0 v18 a1 a2 a4 h).bind fun w21 =>
  bX10_giveRoot_47 E a0 w21
set_option maxRecDepth 20000 in
set_option maxHeartbeats 4000000 in
theorem rX10_giveRoot_0 {X : ah_X} {d : Nat} (hd : 140 ≤ d) {a0 : Option Nat} {a1 : Int32} {a2 : Int64} {a4 : Int64} {h : ah_H} {h2 : ah_H} (hf : bX10_giveRoot_0 X.2.2.2 a0 a1 a2 a4 h = some h2) : Rt X yX10_giveRoot cX10_giveRoot 6 (d + 1) 0 [(0, va_rf a0), (1, .int a1), (2, .long a2), (4, .long a4)] [] h none h2 := by
  unfold bX10_giveRoot_0 at hf
  refine rt_aload_n (pc := 0) (k0 := 0) (x := a0) 0 rfl dX10_giveRoot_0 ?_
  obtain ⟨v1, e2, hf⟩ := ob1 hf
  refine rt_gr (pc := 1) fd_X10_119 dX10_giveRoot_1 e2 ?_
  refine rt_aload_n (pc := 4) (k0 := 0) (x := a0) 0 rfl dX10_giveRoot_4 ?_
  obtain ⟨v3, e4, hf⟩ := ob1 hf
  refine rt_gi (pc := 5) fd_X10_277 dX10_giveRoot_5 e4 ?_
  obtain ⟨v5, e6, hf⟩ := ob1 hf
  refine rt_bald (pc := 8) dX10_giveRoot_8 e6 ?_
  by_cases c7 : v5 = 0
  · rw [if_pos c7] at hf
    refine rt_if_eq_p (pc := 9) (x := v5) (tgt := 27) (by decide) dX10_giveRoot_9 c7 ?_
    refine rt_aload_n (pc := 27) (k0 := 0) (x := a0) 0 rfl dX10_giveRoot_27 ?_
    refine rt_aload_n (pc := 28) (k0 := 0) (x := a0) 0 rfl dX10_giveRoot_28 ?_
    obtain ⟨v8, e9, hf⟩ := ob1 hf
    refine rt_gi (pc := 29) fd_X10_277 dX10_giveRoot_29 e9 ?_
    refine rt_iload_n (pc := 32) (k0 := 1) (x := a1) 1 rfl dX10_giveRoot_32 ?_
    refine rt_lload_n (pc := 33) (k0 := 2) (x := a2) 2 rfl dX10_giveRoot_33 ?_
    refine rt_lload (pc := 34) (i := 4) (x := a4) 3 rfl dX10_giveRoot_34 ?_
    obtain ⟨w11, e10, hf⟩ := ob1 hf
    have g12 := sX10_comes d (by omega) e10
    refine rt_callV (pc := 36) (As := [.int v8, .int a1, .long a2, .long a4]) (st := []) me_X10_comes mi_X10_comes wl_X10_313 dX10_giveRoot_36 rfl (by decide) rfl g12.1 g12.2 ?_
    refine rt_aload_n (pc := 39) (k0 := 0) (x := a0) 0 rfl dX10_giveRoot_39 ?_
    refine rt_aload_n (pc := 40) (k0 := 0) (x := a0) 0 rfl dX10_giveRoot_40 ?_
    obtain ⟨v13, e14, hf⟩ := ob1 hf
    refine rt_gi (pc := 41) fd_X10_277 dX10_giveRoot_41 e14 ?_
    obtain ⟨w16, e15, hf⟩ := ob1 hf
    have g17 := sX10_settlePage (sX10_sinks zd) d (by unfold zd; omega) (by omega) e15
    refine rt_callV (pc := 44) (As := [.int v13]) (st := []) me_X10_settlePage mi_X10_settlePage wl_X10_316 dX10_giveRoot_44 rfl (by decide) rfl g17.1 g17.2 ?_
    exact rt_locals (rt_sub [0] rfl) (rX10_giveRoot_47 hd hf)
  rw [if_neg c7] at hf
  refine rt_if_eq_n (pc := 9) (x := v5) (tgt := 27) (by decide) dX10_giveRoot_9 c7 ?_
  refine rt_aload_n (pc := 12) (k0 := 0) (x := a0) 0 rfl dX10_giveRoot_12 ?_
  refine rt_aload_n (pc := 13) (k0 := 0) (x := a0) 0 rfl dX10_giveRoot_13 ?_
  obtain ⟨v18, e19, hf⟩ := ob1 hf
  refine rt_gi (pc := 14) fd_X10_277 dX10_giveRoot_14 e19 ?_
  refine rt_iload_n (pc := 17) (k0 := 1) (x := a1) 1 rfl dX10_giveRoot_17 ?_
  refine rt_lload_n (pc := 18) (k0 := 2) (x := a2) 2 rfl dX10_giveRoot_18 ?_
  refine rt_lload (pc := 19) (i := 4) (x := a4) 3 rfl dX10_giveRoot_19 ?_
  obtain ⟨w21, e20, hf⟩ := ob1 hf
  have g22 := sX10_actOnLeaf d (by omega) e20
  refine rt_callV (pc := 21) (As := [.int v18, .int a1, .long a2, .long a4]) (st := []) me_X10_actOnLeaf mi_X10_actOnLeaf wl_X10_310 dX10_giveRoot_21 rfl (by decide) rfl g22.1 g22.2 ?_
  refine rt_goto (pc := 24) (tgt := 47) (by decide) dX10_giveRoot_24 ?_
  exact rt_locals (rt_sub [0] rfl) (rX10_giveRoot_47 hd hf)
noncomputable def fX10_giveRoot (E : ah_E) (a0 : Option Nat) (a1 : Int32) (a2 : Int64) (a4 : Int64) (h : ah_H) : Option ah_H := if hp_rcv h a0 11 = false then none else bX10_giveRoot_0 E a0 a1 a2 a4 h
set_option maxRecDepth 20000 in
set_option maxHeartbeats 4000000 in
theorem sX10_giveRoot {X : ah_X} (d : Nat) (hd : 141 ≤ d) {a0 : Option Nat} {a1 : Int32} {a2 : Int64} {a4 : Int64} {h : ah_H} {h2 : ah_H} (hf : fX10_giveRoot X.2.2.2 a0 a1 a2 a4 h = some h2) : hp_rcv h a0 11 = true ∧ Rn X yX10_giveRoot cX10_giveRoot 6 none d [va_rf a0, .int a1, .long a2, .long a4] h none h2 := by
  unfold fX10_giveRoot at hf
  by_cases c0 : hp_rcv h a0 11 = false
  · rw [if_pos c0] at hf; cases hf
  rw [if_neg c0] at hf
  refine ⟨(Bool.not_eq_false _).mp c0, ?_⟩
  obtain ⟨d, rfl⟩ : ∃ k, d = k + 1 := ⟨d - 1, by omega⟩
  exact Rn.of2 me_X10_giveRoot (by simp [lg_sl, rt_cat, cat_i, cat_l]) rfl (l := [(0, va_rf a0), (1, .int a1), (2, .long a2), (4, .long a4)]) (by simp [lv_args, rt_cat, cat_i, cat_l]) (rX10_giveRoot_0 (by omega) hf)
noncomputable def bX10_write_143 (E : ah_E) (a5 : Int32) (h : ah_H) : Option (Int32 × ah_H) :=
  some (a5, h)
set_option maxRecDepth 20000 in
set_option maxHeartbeats 4000000 in
theorem rX10_write_143 {X : ah_X} {d : Nat} {a5 : Int32} {h : ah_H} {r : Int32} {h2 : ah_H} (hf : bX10_write_143 X.2.2.2 a5 h = some (r, h2)) : Rt X yX10_write cX10_write 7 d 143 [(5, .int a5)] [] h (some (.int r)) h2 := by
  unfold bX10_write_143 at hf
  refine rt_iload (pc := 143) (i := 5) (x := a5) 0 rfl dX10_write_143 ?_
  cases hf
  exact rt_ret (pc := 145) dX10_write_145 rfl
noncomputable def bX10_write_90 (E : ah_E) : Nat → Option Nat → Int32 → Int32 → Int32 → ah_H → Option (Int32 × ah_H)
  | 0 => fun _ _ _ _ _ => none
  | n + 1 => fun a0 a1 a5 a6 h =>
  (hp_gr h a0 11 11).bind fun v1 =>
  (hp_ldi h v1 a5).bind fun v3 =>
  if v3 ≤ a6 then
    if a1 = (4 : Int32) then
      bX10_write_143 E a5 h
    else
    if a1 = (5 : Int32) then
      bX10_write_143 E a5 h
    else
    (hp_pv h a0 11 2 (.int (0 : Int32))).bind fun w8 =>
    bX10_write_143 E a5 w8
  else
  (hp_gr h a0 11 12).bind fun v10 =>
  (hp_gr h a0 11 1).bind fun v12 =>
  (hp_ldb h v12 a6).bind fun v14 =>
  (hp_stb h v10 (((40 : Int32) * a5) + a6) v14).bind fun w16 =>
  bX10_write_90 E n a0 a1 a5 (a6 + 1) w16
set_option maxRecDepth 20000 in
set_option maxHeartbeats 4000000 in
theorem rX10_write_90 {X : ah_X} {d : Nat} (n : Nat) : ∀ (a0 : Option Nat) (a1 : Int32) (a5 : Int32) (a6 : Int32) (h : ah_H) (r : Int32) (h2 : ah_H), bX10_write_90 X.2.2.2 n a0 a1 a5 a6 h = some (r, h2) → Rt X yX10_write cX10_write 7 d 90 [(0, va_rf a0), (1, .int a1), (5, .int a5), (6, .int a6)] [] h (some (.int r)) h2 := by
  induction n with
  | zero => intro a0 a1 a5 a6 h r h2 hf; cases hf
  | succ n ih =>
  intro a0 a1 a5 a6 h r h2 hf
  unfold bX10_write_90 at hf
  refine rt_iload (pc := 90) (i := 6) (x := a6) 3 rfl dX10_write_90 ?_
  refine rt_aload_n (pc := 92) (k0 := 0) (x := a0) 0 rfl dX10_write_92 ?_
  obtain ⟨v1, e2, hf⟩ := ob1 hf
  refine rt_gr (pc := 93) fd_X10_49 dX10_write_93 e2 ?_
  refine rt_iload (pc := 96) (i := 5) (x := a5) 2 rfl dX10_write_96 ?_
  obtain ⟨v3, e4, hf⟩ := ob1 hf
  refine rt_iald (pc := 98) dX10_write_98 e4 ?_
  by_cases c5 : v3 ≤ a6
  · rw [if_pos c5] at hf
    refine rt_icmp_ge_p (pc := 99) (x := a6) (z := v3) (tgt := 128) (by decide) dX10_write_99 c5 ?_
    refine rt_iload_n (pc := 128) (k0 := 1) (x := a1) 1 rfl dX10_write_128 ?_
    refine rt_iconst (pc := 129) (n := 4) (v := (4 : Int32)) (by decide) dX10_write_129 ?_
    by_cases c6 : a1 = (4 : Int32)
    · rw [if_pos c6] at hf
      refine rt_icmp_eq_p (pc := 130) (x := a1) (z := (4 : Int32)) (tgt := 143) (by decide) dX10_write_130 c6 ?_
      exact rt_locals (rt_sub [2] rfl) (rX10_write_143 hf)
    rw [if_neg c6] at hf
    refine rt_icmp_eq_n (pc := 130) (x := a1) (z := (4 : Int32)) (tgt := 143) (by decide) dX10_write_130 c6 ?_
    refine rt_iload_n (pc := 133) (k0 := 1) (x := a1) 1 rfl dX10_write_133 ?_
    refine rt_iconst (pc := 134) (n := 5) (v := (5 : Int32)) (by decide) dX10_write_134 ?_
    by_cases c7 : a1 = (5 : Int32)
    · rw [if_pos c7] at hf
      refine rt_icmp_eq_p (pc := 135) (x := a1) (z := (5 : Int32)) (tgt := 143) (by decide) dX10_write_135 c7 ?_
      exact rt_locals (rt_sub [2] rfl) (rX10_write_143 hf)
    rw [if_neg c7] at hf
    refine rt_icmp_eq_n (pc := 135) (x := a1) (z := (5 : Int32)) (tgt := 143) (by decide) dX10_write_135 c7 ?_
    refine rt_aload_n (pc := 138) (k0 := 0) (x := a0) 0 rfl dX10_write_138 ?_
    refine rt_iconst (pc := 139) (n := 0) (v := (0 : Int32)) (by decide) dX10_write_139 ?_
    obtain ⟨w8, e9, hf⟩ := ob1 hf
    refine rt_putf (pc := 140) (x := a0) fw_X10_9 (Or.inl rfl) (pf_i _).1 (pf_i _).2 dX10_write_140 e9 ?_
    exact rt_locals (rt_sub [2] rfl) (rX10_write_143 hf)
  rw [if_neg c5] at hf
  refine rt_icmp_ge_n (pc := 99) (x := a6) (z := v3) (tgt := 128) (by decide) dX10_write_99 c5 ?_
  refine rt_aload_n (pc := 102) (k0 := 0) (x := a0) 0 rfl dX10_write_102 ?_
  obtain ⟨v10, e11, hf⟩ := ob1 hf
  refine rt_gr (pc := 103) fd_X10_43 dX10_write_103 e11 ?_
  refine rt_bipush (pc := 106) (n := 40) (v := (40 : Int32)) (by decide) dX10_write_106 ?_
  refine rt_iload (pc := 108) (i := 5) (x := a5) 2 rfl dX10_write_108 ?_
  refine rt_imul (pc := 110) (x := (40 : Int32)) (z := a5) dX10_write_110 ?_
  refine rt_iload (pc := 111) (i := 6) (x := a6) 3 rfl dX10_write_111 ?_
  refine rt_iadd (pc := 113) (x := ((40 : Int32) * a5)) (z := a6) dX10_write_113 ?_
  refine rt_aload_n (pc := 114) (k0 := 0) (x := a0) 0 rfl dX10_write_114 ?_
  obtain ⟨v12, e13, hf⟩ := ob1 hf
  refine rt_gr (pc := 115) fd_X10_12 dX10_write_115 e13 ?_
  refine rt_iload (pc := 118) (i := 6) (x := a6) 3 rfl dX10_write_118 ?_
  obtain ⟨v14, e15, hf⟩ := ob1 hf
  refine rt_bald (pc := 120) dX10_write_120 e15 ?_
  obtain ⟨w16, e17, hf⟩ := ob1 hf
  refine rt_bast (pc := 121) dX10_write_121 e17 ?_
  refine rt_iinc (pc := 122) (i := 6) (n := 1) (x := a6) (v := (a6 + 1)) (l2 := [(6, .int (a6 + 1)), (0, va_rf a0), (1, .int a1), (5, .int a5)]) 3 rfl rfl (by decide) (by first | rfl | (simp [rt_cat, cat_i, cat_l]; done) | (simp [rt_cat, cat_i, cat_l]; decide)) dX10_write_122 ?_
  refine rt_goto (pc := 125) (tgt := 90) (by decide) dX10_write_125 ?_
  exact rt_locals (rt_sub [1, 2, 3, 0] rfl) (ih _ _ _ _ _ _ _ hf)
noncomputable def bX10_write_75 (E : ah_E) (a0 : Option Nat) (a1 : Int32) (a5 : Int32) (s0 : Option Nat) (s1 : Int32) (s2 : Int32) (h : ah_H) : Option (Int32 × ah_H) :=
  (hp_sti h s0 s1 s2).bind fun w1 =>
  (hp_gr w1 a0 11 13).bind fun v3 =>
  (hp_gi w1 a0 11 15).bind fun v5 =>
  (hp_sti w1 v3 a5 v5).bind fun w7 =>
  bX10_write_90 E zf a0 a1 a5 (0 : Int32) w7
set_option maxRecDepth 20000 in
set_option maxHeartbeats 4000000 in
theorem rX10_write_75 {X : ah_X} {d : Nat} {a0 : Option Nat} {a1 : Int32} {a5 : Int32} {s0 : Option Nat} {s1 : Int32} {s2 : Int32} {h : ah_H} {r : Int32} {h2 : ah_H} (hf : bX10_write_75 X.2.2.2 a0 a1 a5 s0 s1 s2 h = some (r, h2)) : Rt X yX10_write cX10_write 7 d 75 [(0, va_rf a0), (1, .int a1), (5, .int a5)] [.int s2, .int s1, va_rf s0] h (some (.int r)) h2 := by
  unfold bX10_write_75 at hf
  obtain ⟨w1, e2, hf⟩ := ob1 hf
  refine rt_iast (pc := 75) dX10_write_75 e2 ?_
  refine rt_aload_n (pc := 76) (k0 := 0) (x := a0) 0 rfl dX10_write_76 ?_
  obtain ⟨v3, e4, hf⟩ := ob1 hf
  refine rt_gr (pc := 77) fd_X10_69 dX10_write_77 e4 ?_
  refine rt_iload (pc := 80) (i := 5) (x := a5) 2 rfl dX10_write_80 ?_
  refine rt_aload_n (pc := 82) (k0 := 0) (x := a0) 0 rfl dX10_write_82 ?_
  obtain ⟨v5, e6, hf⟩ := ob1 hf
  refine rt_gi (pc := 83) fd_X10_63 dX10_write_83 e6 ?_
  obtain ⟨w7, e8, hf⟩ := ob1 hf
  refine rt_iast (pc := 86) dX10_write_86 e8 ?_
  refine rt_iconst (pc := 87) (n := 0) (v := (0 : Int32)) (by decide) dX10_write_87 ?_
  refine rt_istore (pc := 88) (i := 6) (x := (0 : Int32)) (l2 := [(6, .int (0 : Int32)), (0, va_rf a0), (1, .int a1), (5, .int a5)]) (by decide) (by first | rfl | (simp [rt_cat, cat_i, cat_l]; done) | (simp [rt_cat, cat_i, cat_l]; decide)) dX10_write_88 ?_
  exact rt_locals (rt_sub [1, 2, 3, 0] rfl) (rX10_write_90 zf _ _ _ _ _ _ _ hf)
noncomputable def bX10_write_67 (E : ah_E) (a0 : Option Nat) (a1 : Int32) (a5 : Int32) (s0 : Option Nat) (s1 : Int32) (h : ah_H) : Option (Int32 × ah_H) :=
  bX10_write_75 E a0 a1 a5 s0 s1 (0 : Int32) h
set_option maxRecDepth 20000 in
set_option maxHeartbeats 4000000 in
theorem rX10_write_67 {X : ah_X} {d : Nat} {a0 : Option Nat} {a1 : Int32} {a5 : Int32} {s0 : Option Nat} {s1 : Int32} {h : ah_H} {r : Int32} {h2 : ah_H} (hf : bX10_write_67 X.2.2.2 a0 a1 a5 s0 s1 h = some (r, h2)) : Rt X yX10_write cX10_write 7 d 67 [(0, va_rf a0), (1, .int a1), (5, .int a5)] [.int s1, va_rf s0] h (some (.int r)) h2 := by
  unfold bX10_write_67 at hf
  refine rt_iconst (pc := 67) (n := 0) (v := (0 : Int32)) (by decide) dX10_write_67 ?_
  refine rt_goto (pc := 68) (tgt := 75) (by decide) dX10_write_68 ?_
  exact rX10_write_75 hf
noncomputable def bX10_write_0 (E : ah_E) (a0 : Option Nat) (a1 : Int32) (a2 : Int64) (a4 : Int32) (h : ah_H) : Option (Int32 × ah_H) :=
  (hp_gi h a0 11 14).bind fun v1 =>
  (hp_gi h a0 11 14).bind fun v3 =>
  (hp_pv h a0 11 14 (.int (v3 + (1 : Int32)))).bind fun w5 =>
  (hp_gi w5 a0 11 15).bind fun v7 =>
  (hp_pv w5 a0 11 15 (.int (v7 + (1 : Int32)))).bind fun w9 =>
  (hp_gr w9 a0 11 8).bind fun v11 =>
  (hp_sti w9 v11 v1 a1).bind fun w13 =>
  (hp_gr w13 a0 11 9).bind fun v15 =>
  (hp_stl w13 v15 v1 a2).bind fun w17 =>
  (hp_gr w17 a0 11 10).bind fun v19 =>
  (hp_sti w17 v19 v1 a4).bind fun w21 =>
  (hp_gr w21 a0 11 11).bind fun v23 =>
  if a1 = (4 : Int32) then
    bX10_write_67 E a0 a1 v1 v23 v1 w21
  else
  if a1 = (5 : Int32) then
    bX10_write_67 E a0 a1 v1 v23 v1 w21
  else
  (hp_gi w21 a0 11 2).bind fun v27 =>
  bX10_write_75 E a0 a1 v1 v23 v1 v27 w21
set_option maxRecDepth 20000 in
set_option maxHeartbeats 4000000 in
theorem rX10_write_0 {X : ah_X} {d : Nat} {a0 : Option Nat} {a1 : Int32} {a2 : Int64} {a4 : Int32} {h : ah_H} {r : Int32} {h2 : ah_H} (hf : bX10_write_0 X.2.2.2 a0 a1 a2 a4 h = some (r, h2)) : Rt X yX10_write cX10_write 7 d 0 [(0, va_rf a0), (1, .int a1), (2, .long a2), (4, .int a4)] [] h (some (.int r)) h2 := by
  unfold bX10_write_0 at hf
  refine rt_aload_n (pc := 0) (k0 := 0) (x := a0) 0 rfl dX10_write_0 ?_
  obtain ⟨v1, e2, hf⟩ := ob1 hf
  refine rt_gi (pc := 1) fd_X10_60 dX10_write_1 e2 ?_
  refine rt_istore (pc := 4) (i := 5) (x := v1) (l2 := [(5, .int v1), (0, va_rf a0), (1, .int a1), (2, .long a2), (4, .int a4)]) (by decide) (by first | rfl | (simp [rt_cat, cat_i, cat_l]; done) | (simp [rt_cat, cat_i, cat_l]; decide)) dX10_write_4 ?_
  refine rt_aload_n (pc := 6) (k0 := 0) (x := a0) 1 rfl dX10_write_6 ?_
  refine rt_dup (pc := 7) (rt_cat _) dX10_write_7 ?_
  obtain ⟨v3, e4, hf⟩ := ob1 hf
  refine rt_gi (pc := 8) fd_X10_60 dX10_write_8 e4 ?_
  refine rt_iconst (pc := 11) (n := 1) (v := (1 : Int32)) (by decide) dX10_write_11 ?_
  refine rt_iadd (pc := 12) (x := v3) (z := (1 : Int32)) dX10_write_12 ?_
  obtain ⟨w5, e6, hf⟩ := ob1 hf
  refine rt_putf (pc := 13) (x := a0) fw_X10_60 (Or.inl rfl) (pf_i _).1 (pf_i _).2 dX10_write_13 e6 ?_
  refine rt_aload_n (pc := 16) (k0 := 0) (x := a0) 1 rfl dX10_write_16 ?_
  refine rt_dup (pc := 17) (rt_cat _) dX10_write_17 ?_
  obtain ⟨v7, e8, hf⟩ := ob1 hf
  refine rt_gi (pc := 18) fd_X10_63 dX10_write_18 e8 ?_
  refine rt_iconst (pc := 21) (n := 1) (v := (1 : Int32)) (by decide) dX10_write_21 ?_
  refine rt_iadd (pc := 22) (x := v7) (z := (1 : Int32)) dX10_write_22 ?_
  obtain ⟨w9, e10, hf⟩ := ob1 hf
  refine rt_putf (pc := 23) (x := a0) fw_X10_63 (Or.inl rfl) (pf_i _).1 (pf_i _).2 dX10_write_23 e10 ?_
  refine rt_aload_n (pc := 26) (k0 := 0) (x := a0) 1 rfl dX10_write_26 ?_
  obtain ⟨v11, e12, hf⟩ := ob1 hf
  refine rt_gr (pc := 27) fd_X10_46 dX10_write_27 e12 ?_
  refine rt_iload (pc := 30) (i := 5) (x := v1) 0 rfl dX10_write_30 ?_
  refine rt_iload_n (pc := 32) (k0 := 1) (x := a1) 2 rfl dX10_write_32 ?_
  obtain ⟨w13, e14, hf⟩ := ob1 hf
  refine rt_iast (pc := 33) dX10_write_33 e14 ?_
  refine rt_aload_n (pc := 34) (k0 := 0) (x := a0) 1 rfl dX10_write_34 ?_
  obtain ⟨v15, e16, hf⟩ := ob1 hf
  refine rt_gr (pc := 35) fd_X10_66 dX10_write_35 e16 ?_
  refine rt_iload (pc := 38) (i := 5) (x := v1) 0 rfl dX10_write_38 ?_
  refine rt_lload_n (pc := 40) (k0 := 2) (x := a2) 3 rfl dX10_write_40 ?_
  obtain ⟨w17, e18, hf⟩ := ob1 hf
  refine rt_last (pc := 41) dX10_write_41 e18 ?_
  refine rt_aload_n (pc := 42) (k0 := 0) (x := a0) 1 rfl dX10_write_42 ?_
  obtain ⟨v19, e20, hf⟩ := ob1 hf
  refine rt_gr (pc := 43) fd_X10_37 dX10_write_43 e20 ?_
  refine rt_iload (pc := 46) (i := 5) (x := v1) 0 rfl dX10_write_46 ?_
  refine rt_iload (pc := 48) (i := 4) (x := a4) 4 rfl dX10_write_48 ?_
  obtain ⟨w21, e22, hf⟩ := ob1 hf
  refine rt_iast (pc := 50) dX10_write_50 e22 ?_
  refine rt_aload_n (pc := 51) (k0 := 0) (x := a0) 1 rfl dX10_write_51 ?_
  obtain ⟨v23, e24, hf⟩ := ob1 hf
  refine rt_gr (pc := 52) fd_X10_49 dX10_write_52 e24 ?_
  refine rt_iload (pc := 55) (i := 5) (x := v1) 0 rfl dX10_write_55 ?_
  refine rt_iload_n (pc := 57) (k0 := 1) (x := a1) 2 rfl dX10_write_57 ?_
  refine rt_iconst (pc := 58) (n := 4) (v := (4 : Int32)) (by decide) dX10_write_58 ?_
  by_cases c25 : a1 = (4 : Int32)
  · rw [if_pos c25] at hf
    refine rt_icmp_eq_p (pc := 59) (x := a1) (z := (4 : Int32)) (tgt := 67) (by decide) dX10_write_59 c25 ?_
    exact rt_locals (rt_sub [1, 2, 0] rfl) (rX10_write_67 hf)
  rw [if_neg c25] at hf
  refine rt_icmp_eq_n (pc := 59) (x := a1) (z := (4 : Int32)) (tgt := 67) (by decide) dX10_write_59 c25 ?_
  refine rt_iload_n (pc := 62) (k0 := 1) (x := a1) 2 rfl dX10_write_62 ?_
  refine rt_iconst (pc := 63) (n := 5) (v := (5 : Int32)) (by decide) dX10_write_63 ?_
  by_cases c26 : a1 = (5 : Int32)
  · rw [if_pos c26] at hf
    refine rt_icmp_ne_p (pc := 64) (x := a1) (z := (5 : Int32)) (tgt := 71) (by decide) dX10_write_64 c26 ?_
    exact rt_locals (rt_sub [1, 2, 0] rfl) (rX10_write_67 hf)
  rw [if_neg c26] at hf
  refine rt_icmp_ne_n (pc := 64) (x := a1) (z := (5 : Int32)) (tgt := 71) (by decide) dX10_write_64 c26 ?_
  refine rt_aload_n (pc := 71) (k0 := 0) (x := a0) 1 rfl dX10_write_71 ?_
  obtain ⟨v27, e28, hf⟩ := ob1 hf
  refine rt_gi (pc := 72) fd_X10_9 dX10_write_72 e28 ?_
  exact rt_locals (rt_sub [1, 2, 0] rfl) (rX10_write_75 hf)
noncomputable def fX10_write (E : ah_E) (a0 : Option Nat) (a1 : Int32) (a2 : Int64) (a4 : Int32) (h : ah_H) : Option (Int32 × ah_H) := if hp_rcv h a0 11 = false then none else bX10_write_0 E a0 a1 a2 a4 h
set_option maxRecDepth 20000 in
set_option maxHeartbeats 4000000 in
theorem sX10_write {X : ah_X} (d : Nat) (hd : 0 ≤ d) {a0 : Option Nat} {a1 : Int32} {a2 : Int64} {a4 : Int32} {h : ah_H} {r : Int32} {h2 : ah_H} (hf : fX10_write X.2.2.2 a0 a1 a2 a4 h = some (r, h2)) : hp_rcv h a0 11 = true ∧ Rn X yX10_write cX10_write 7 (some .int) d [va_rf a0, .int a1, .long a2, .int a4] h (some (.int r)) h2 := by
  unfold fX10_write at hf
  by_cases c0 : hp_rcv h a0 11 = false
  · rw [if_pos c0] at hf; cases hf
  rw [if_neg c0] at hf
  refine ⟨(Bool.not_eq_false _).mp c0, ?_⟩
  exact Rn.of2 me_X10_write (by simp [lg_sl, rt_cat, cat_i, cat_l]) (ok_i _) (l := [(0, va_rf a0), (1, .int a1), (2, .long a2), (4, .int a4)]) (by simp [lv_args, rt_cat, cat_i, cat_l]) (rX10_write_0 hf)
