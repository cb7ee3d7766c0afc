noncomputable def bX10_append_0 (E : ah_E) (a0 : Option Nat) (a1 : Int64) (h : ah_H) : Option (Int32 × ah_H) :=
  (hp_gi h a0 11 51).bind fun v1 =>
  if v1 = 0 then
    (hp_gi h a0 11 2).bind fun v4 =>
    if v4 ≤ (20 : Int32) then
      ob2 (fX10_write E a0 (2 : Int32) a1 (0 : Int32) h) fun v9 w8 =>
      ob2 (fX10_actsOnMap E a0 v9 w8) fun v13 w12 =>
      (fX10_giveRoot E a0 v9 a1 a1 w12).bind fun w16 =>
      (hp_gr w16 a0 11 4).bind fun v18 =>
      ob2 (fX10_place E a0 a1 w16) fun v22 w21 =>
      (hp_ldi w21 v18 v22).bind fun v24 =>
      some (v24, w21)
    else
    some ((-2 : Int32), h)
  else
  some ((-4 : Int32), h)
set_option maxRecDepth 20000 in
set_option maxHeartbeats 4000000 in
theorem rX10_append_0 {X : ah_X} {d : Nat} (hd : 141 ≤ d) {a0 : Option Nat} {a1 : Int64} {h : ah_H} {r : Int32} {h2 : ah_H} (hf : bX10_append_0 X.2.2.2 a0 a1 h = some (r, h2)) : Rt X yX10_append cX10_append 5 (d + 1) 0 [(0, va_rf a0), (1, .long a1)] [] h (some (.int r)) h2 := by
  unfold bX10_append_0 at hf
  refine rt_aload_n (pc := 0) (k0 := 0) (x := a0) 0 rfl dX10_append_0 ?_
  obtain ⟨v1, e2, hf⟩ := ob1 hf
  refine rt_gi (pc := 1) fd_X10_90 dX10_append_1 e2 ?_
  by_cases c3 : v1 = 0
  · rw [if_pos c3] at hf
    refine rt_if_eq_p (pc := 4) (x := v1) (tgt := 10) (by decide) dX10_append_4 c3 ?_
    refine rt_aload_n (pc := 10) (k0 := 0) (x := a0) 0 rfl dX10_append_10 ?_
    obtain ⟨v4, e5, hf⟩ := ob1 hf
    refine rt_gi (pc := 11) fd_X10_9 dX10_append_11 e5 ?_
    refine rt_bipush (pc := 14) (n := 20) (v := (20 : Int32)) (by decide) dX10_append_14 ?_
    by_cases c6 : v4 ≤ (20 : Int32)
    · rw [if_pos c6] at hf
      refine rt_icmp_le_p (pc := 16) (x := v4) (z := (20 : Int32)) (tgt := 22) (by decide) dX10_append_16 c6 ?_
      refine rt_aload_n (pc := 22) (k0 := 0) (x := a0) 0 rfl dX10_append_22 ?_
      refine rt_iconst (pc := 23) (n := 2) (v := (2 : Int32)) (by decide) dX10_append_23 ?_
      refine rt_lload_n (pc := 24) (k0 := 1) (x := a1) 1 rfl dX10_append_24 ?_
      refine rt_iconst (pc := 25) (n := 0) (v := (0 : Int32)) (by decide) dX10_append_25 ?_
      obtain ⟨v9, w8, e7, hf⟩ := ob2_of hf
      have g10 := sX10_write d (by omega) e7
      refine rt_callV (pc := 26) (As := [.int (2 : Int32), .long a1, .int (0 : Int32)]) (st := []) me_X10_write mi_X10_write wl_X10_94 dX10_append_26 rfl (by decide) rfl g10.1 g10.2 ?_
      refine rt_istore_n (pc := 29) (k0 := 3) (x := v9) (l2 := [(3, .int v9), (0, va_rf a0), (1, .long a1)]) (by decide) (by first | rfl | (simp [rt_cat, cat_i, cat_l]; done) | (simp [rt_cat, cat_i, cat_l]; decide)) dX10_append_29 ?_
      refine rt_aload_n (pc := 30) (k0 := 0) (x := a0) 1 rfl dX10_append_30 ?_
      refine rt_iload_n (pc := 31) (k0 := 3) (x := v9) 0 rfl dX10_append_31 ?_
      obtain ⟨v13, w12, e11, hf⟩ := ob2_of hf
      have g14 := sX10_actsOnMap d (by omega) e11
      refine rt_callV (pc := 32) (As := [.int v9]) (st := []) me_X10_actsOnMap mi_X10_actsOnMap wl_X10_98 dX10_append_32 rfl (by decide) rfl g14.1 g14.2 ?_
      refine rt_istore (pc := 35) (i := 4) (x := v13) (l2 := [(4, .int v13), (3, .int v9), (0, va_rf a0), (1, .long a1)]) (by decide) (by first | rfl | (simp [rt_cat, cat_i, cat_l]; done) | (simp [rt_cat, cat_i, cat_l]; decide)) dX10_append_35 ?_
      refine rt_aload_n (pc := 37) (k0 := 0) (x := a0) 2 rfl dX10_append_37 ?_
      refine rt_iload_n (pc := 38) (k0 := 3) (x := v9) 1 rfl dX10_append_38 ?_
      refine rt_lload_n (pc := 39) (k0 := 1) (x := a1) 3 rfl dX10_append_39 ?_
      refine rt_lload_n (pc := 40) (k0 := 1) (x := a1) 3 rfl dX10_append_40 ?_
      obtain ⟨w16, e15, hf⟩ := ob1 hf
      have g17 := sX10_giveRoot d (by omega) e15
      refine rt_callV (pc := 41) (As := [.int v9, .long a1, .long a1]) (st := []) me_X10_giveRoot mi_X10_giveRoot wl_X10_101 dX10_append_41 rfl (by decide) rfl g17.1 g17.2 ?_
      refine rt_aload_n (pc := 44) (k0 := 0) (x := a0) 2 rfl dX10_append_44 ?_
      obtain ⟨v18, e19, hf⟩ := ob1 hf
      refine rt_gr (pc := 45) fd_X10_27 dX10_append_45 e19 ?_
      refine rt_aload_n (pc := 48) (k0 := 0) (x := a0) 2 rfl dX10_append_48 ?_
      refine rt_lload_n (pc := 49) (k0 := 1) (x := a1) 3 rfl dX10_append_49 ?_
      obtain ⟨v22, w21, e20, hf⟩ := ob2_of hf
      have g23 := sX10_place d (by omega) e20
      refine rt_callV (pc := 50) (As := [.long a1]) (st := [va_rf v18]) me_X10_place mi_X10_place wl_X10_72 dX10_append_50 rfl (by simp [rt_cat, cat_i, cat_l]) rfl g23.1 g23.2 ?_
      obtain ⟨v24, e25, hf⟩ := ob1 hf
      refine rt_iald (pc := 53) dX10_append_53 e25 ?_
      cases hf
      exact rt_ret (pc := 54) dX10_append_54 rfl
    rw [if_neg c6] at hf
    refine rt_icmp_le_n (pc := 16) (x := v4) (z := (20 : Int32)) (tgt := 22) (by decide) dX10_append_16 c6 ?_
    refine rt_bipush (pc := 19) (n := -2) (v := (-2 : Int32)) (by decide) dX10_append_19 ?_
    cases hf
    exact rt_ret (pc := 21) dX10_append_21 rfl
  rw [if_neg c3] at hf
  refine rt_if_eq_n (pc := 4) (x := v1) (tgt := 10) (by decide) dX10_append_4 c3 ?_
  refine rt_bipush (pc := 7) (n := -4) (v := (-4 : Int32)) (by decide) dX10_append_7 ?_
  cases hf
  exact rt_ret (pc := 9) dX10_append_9 rfl
noncomputable def fX10_append (E : ah_E) (a0 : Option Nat) (a1 : Int64) (h : ah_H) : Option (Int32 × ah_H) := if hp_rcv h a0 11 = false then none else bX10_append_0 E a0 a1 h
set_option maxRecDepth 20000 in
set_option maxHeartbeats 4000000 in
theorem sX10_append {X : ah_X} (d : Nat) (hd : 142 ≤ d) {a0 : Option Nat} {a1 : Int64} {h : ah_H} {r : Int32} {h2 : ah_H} (hf : fX10_append X.2.2.2 a0 a1 h = some (r, h2)) : hp_rcv h a0 11 = true ∧ Rn X yX10_append cX10_append 5 (some .int) d [va_rf a0, .long a1] h (some (.int r)) h2 := by
  unfold fX10_append at hf
  by_cases c0 : hp_rcv h a0 11 = false
  · rw [if_pos c0] at hf; cases hf
  rw [if_neg c0] at hf
  refine ⟨(Bool.not_eq_false _).mp c0, ?_⟩
  obtain ⟨d, rfl⟩ : ∃ k, d = k + 1 := ⟨d - 1, by omega⟩
  exact Rn.of2 me_X10_append (by simp [lg_sl, rt_cat, cat_i, cat_l]) (ok_i _) (l := [(0, va_rf a0), (1, .long a1)]) (by simp [lv_args, rt_cat, cat_i, cat_l]) (rX10_append_0 (by omega) hf)
noncomputable def bX10_bend_9 (E : ah_E) (h : ah_H) : Option (Int32 × ah_H) :=
  some ((-1 : Int32), h)
set_option maxRecDepth 20000 in
set_option maxHeartbeats 4000000 in
theorem rX10_bend_9 {X : ah_X} {d : Nat}  {h : ah_H} {r : Int32} {h2 : ah_H} (hf : bX10_bend_9 X.2.2.2  h = some (r, h2)) : Rt X yX10_bend cX10_bend 3 d 9 [] [] h (some (.int r)) h2 := by
  unfold bX10_bend_9 at hf
  refine rt_iconst (pc := 9) (n := -1) (v := (-1 : Int32)) (by decide) dX10_bend_9 ?_
  cases hf
  exact rt_ret (pc := 10) dX10_bend_10 rfl
noncomputable def bX10_bend_25 (E : ah_E) (a0 : Option Nat) (a1 : Int32) (s0 : Int32) (h : ah_H) : Option (Int32 × ah_H) :=
  (hp_gr h a0 11 62).bind fun v1 =>
  (hp_sti h v1 a1 (0 : Int32)).bind fun w3 =>
  some (s0, w3)
set_option maxRecDepth 20000 in
set_option maxHeartbeats 4000000 in
theorem rX10_bend_25 {X : ah_X} {d : Nat} {a0 : Option Nat} {a1 : Int32} {s0 : Int32} {h : ah_H} {r : Int32} {h2 : ah_H} (hf : bX10_bend_25 X.2.2.2 a0 a1 s0 h = some (r, h2)) : Rt X yX10_bend cX10_bend 3 d 25 [(0, va_rf a0), (1, .int a1)] [.int s0] h (some (.int r)) h2 := by
  unfold bX10_bend_25 at hf
  refine rt_istore_n (pc := 25) (k0 := 2) (x := s0) (l2 := [(2, .int s0), (0, va_rf a0), (1, .int a1)]) (by decide) (by first | rfl | (simp [rt_cat, cat_i, cat_l]; done) | (simp [rt_cat, cat_i, cat_l]; decide)) dX10_bend_25 ?_
  refine rt_aload_n (pc := 26) (k0 := 0) (x := a0) 1 rfl dX10_bend_26 ?_
  obtain ⟨v1, e2, hf⟩ := ob1 hf
  refine rt_gr (pc := 27) fd_X10_231 dX10_bend_27 e2 ?_
  refine rt_iload_n (pc := 30) (k0 := 1) (x := a1) 2 rfl dX10_bend_30 ?_
  refine rt_iconst (pc := 31) (n := 0) (v := (0 : Int32)) (by decide) dX10_bend_31 ?_
  obtain ⟨w3, e4, hf⟩ := ob1 hf
  refine rt_iast (pc := 32) dX10_bend_32 e4 ?_
  refine rt_iload_n (pc := 33) (k0 := 2) (x := s0) 0 rfl dX10_bend_33 ?_
  cases hf
  exact rt_ret (pc := 34) dX10_bend_34 rfl
noncomputable def bX10_bend_0 (E : ah_E) (a0 : Option Nat) (a1 : Int32) (h : ah_H) : Option (Int32 × ah_H) :=
  if a1 < 0 then
    bX10_bend_9 E  h
  else
  if a1 ≤ (1 : Int32) then
    (hp_gr h a0 11 62).bind fun v3 =>
    (hp_ldi h v3 a1).bind fun v5 =>
    if v5 ≤ 0 then
      bX10_bend_25 E a0 a1 (0 : Int32) h
    else
    bX10_bend_25 E a0 a1 (1 : Int32) h
  else
  bX10_bend_9 E  h
set_option maxRecDepth 20000 in
set_option maxHeartbeats 4000000 in
theorem rX10_bend_0 {X : ah_X} {d : Nat} {a0 : Option Nat} {a1 : Int32} {h : ah_H} {r : Int32} {h2 : ah_H} (hf : bX10_bend_0 X.2.2.2 a0 a1 h = some (r, h2)) : Rt X yX10_bend cX10_bend 3 d 0 [(0, va_rf a0), (1, .int a1)] [] h (some (.int r)) h2 := by
  unfold bX10_bend_0 at hf
  refine rt_iload_n (pc := 0) (k0 := 1) (x := a1) 1 rfl dX10_bend_0 ?_
  by_cases c1 : a1 < 0
  · rw [if_pos c1] at hf
    refine rt_if_lt_p (pc := 1) (x := a1) (tgt := 9) (by decide) dX10_bend_1 c1 ?_
    exact rt_locals (rt_sub [] rfl) (rX10_bend_9 hf)
  rw [if_neg c1] at hf
  refine rt_if_lt_n (pc := 1) (x := a1) (tgt := 9) (by decide) dX10_bend_1 c1 ?_
  refine rt_iload_n (pc := 4) (k0 := 1) (x := a1) 1 rfl dX10_bend_4 ?_
  refine rt_iconst (pc := 5) (n := 1) (v := (1 : Int32)) (by decide) dX10_bend_5 ?_
  by_cases c2 : a1 ≤ (1 : Int32)
  · rw [if_pos c2] at hf
    refine rt_icmp_le_p (pc := 6) (x := a1) (z := (1 : Int32)) (tgt := 11) (by decide) dX10_bend_6 c2 ?_
    refine rt_aload_n (pc := 11) (k0 := 0) (x := a0) 0 rfl dX10_bend_11 ?_
    obtain ⟨v3, e4, hf⟩ := ob1 hf
    refine rt_gr (pc := 12) fd_X10_231 dX10_bend_12 e4 ?_
    refine rt_iload_n (pc := 15) (k0 := 1) (x := a1) 1 rfl dX10_bend_15 ?_
    obtain ⟨v5, e6, hf⟩ := ob1 hf
    refine rt_iald (pc := 16) dX10_bend_16 e6 ?_
    by_cases c7 : v5 ≤ 0
    · rw [if_pos c7] at hf
      refine rt_if_le_p (pc := 17) (x := v5) (tgt := 24) (by decide) dX10_bend_17 c7 ?_
      refine rt_iconst (pc := 24) (n := 0) (v := (0 : Int32)) (by decide) dX10_bend_24 ?_
      exact rX10_bend_25 hf
    rw [if_neg c7] at hf
    refine rt_if_le_n (pc := 17) (x := v5) (tgt := 24) (by decide) dX10_bend_17 c7 ?_
    refine rt_iconst (pc := 20) (n := 1) (v := (1 : Int32)) (by decide) dX10_bend_20 ?_
    refine rt_goto (pc := 21) (tgt := 25) (by decide) dX10_bend_21 ?_
    exact rX10_bend_25 hf
  rw [if_neg c2] at hf
  refine rt_icmp_le_n (pc := 6) (x := a1) (z := (1 : Int32)) (tgt := 11) (by decide) dX10_bend_6 c2 ?_
  exact rt_locals (rt_sub [] rfl) (rX10_bend_9 hf)
noncomputable def fX10_bend (E : ah_E) (a0 : Option Nat) (a1 : Int32) (h : ah_H) : Option (Int32 × ah_H) := if hp_rcv h a0 11 = false then none else bX10_bend_0 E a0 a1 h
set_option maxRecDepth 20000 in
set_option maxHeartbeats 4000000 in
theorem sX10_bend {X : ah_X} (d : Nat) (hd : 0 ≤ d) {a0 : Option Nat} {a1 : Int32} {h : ah_H} {r : Int32} {h2 : ah_H} (hf : fX10_bend X.2.2.2 a0 a1 h = some (r, h2)) : hp_rcv h a0 11 = true ∧ Rn X yX10_bend cX10_bend 3 (some .int) d [va_rf a0, .int a1] h (some (.int r)) h2 := by
  unfold fX10_bend at hf
  by_cases c0 : hp_rcv h a0 11 = false
  · rw [if_pos c0] at hf; cases hf
  rw [if_neg c0] at hf
  refine ⟨(Bool.not_eq_false _).mp c0, ?_⟩
  exact Rn.of2 me_X10_bend (by simp [lg_sl, rt_cat, cat_i, cat_l]) (ok_i _) (l := [(0, va_rf a0), (1, .int a1)]) (by simp [lv_args, rt_cat, cat_i, cat_l]) (rX10_bend_0 hf)
noncomputable def bX10_visit_47 (E : ah_E) (kr : Option Nat → Int32 → Int32 → Int32 → ah_H → Option ah_H) : Nat → Option Nat → Int32 → Int32 → ah_H → Option ah_H
  | 0 => fun _ _ _ _ => none
  | n + 1 => fun a0 a1 a4 h =>
  (hp_gr h a0 11 21).bind fun v1 =>
  (hp_ldi h v1 a1).bind fun v3 =>
  if v3 ≤ a4 then
    some h
  else
  (hp_gr h a0 11 22).bind fun v6 =>
  (hp_ldi h v6 (((128 : Int32) * a1) + a4)).bind fun v8 =>
  (kr a0 v8 a1 a4 h).bind fun w11 =>
  bX10_visit_47 E kr n a0 a1 (a4 + 1) w11
set_option maxRecDepth 20000 in
set_option maxHeartbeats 4000000 in
theorem rX10_visit_47 {X : ah_X} {d : Nat} {dk : Nat} {kr : Option Nat → Int32 → Int32 → Int32 → ah_H → Option ah_H} (hkr : ∀ (d : Nat), dk ≤ d → ∀ (x0 : Option Nat) (x1 : Int32) (x2 : Int32) (x3 : Int32) (h : ah_H) (h2 : ah_H), kr x0 x1 x2 x3 h = some h2 → hp_rcv h x0 11 = true ∧ Rn X yX10_visit cX10_visit 5 none d [va_rf x0, .int x1, .int x2, .int x3] h none h2) (hd : 0 ≤ d) (hdk : dk + 0 ≤ d) (n : Nat) : ∀ (a0 : Option Nat) (a1 : Int32) (a4 : Int32) (h : ah_H) (h2 : ah_H), bX10_visit_47 X.2.2.2 kr n a0 a1 a4 h = some h2 → Rt X yX10_visit cX10_visit 5 (d + 1) 47 [(0, va_rf a0), (1, .int a1), (4, .int a4)] [] h none h2 := by
  induction n with
  | zero => intro a0 a1 a4 h h2 hf; cases hf
  | succ n ih =>
  intro a0 a1 a4 h h2 hf
  unfold bX10_visit_47 at hf
  refine rt_iload (pc := 47) (i := 4) (x := a4) 2 rfl dX10_visit_47 ?_
  refine rt_aload_n (pc := 49) (k0 := 0) (x := a0) 0 rfl dX10_visit_49 ?_
  obtain ⟨v1, e2, hf⟩ := ob1 hf
  refine rt_gr (pc := 50) fd_X10_129 dX10_visit_50 e2 ?_
  refine rt_iload_n (pc := 53) (k0 := 1) (x := a1) 1 rfl dX10_visit_53 ?_
  obtain ⟨v3, e4, hf⟩ := ob1 hf
  refine rt_iald (pc := 54) dX10_visit_54 e4 ?_
  by_cases c5 : v3 ≤ a4
  · rw [if_pos c5] at hf
    refine rt_icmp_ge_p (pc := 55) (x := a4) (z := v3) (tgt := 84) (by decide) dX10_visit_55 c5 ?_
    cases hf
    exact rt_ret (pc := 84) dX10_visit_84 rfl
  rw [if_neg c5] at hf
  refine rt_icmp_ge_n (pc := 55) (x := a4) (z := v3) (tgt := 84) (by decide) dX10_visit_55 c5 ?_
  refine rt_aload_n (pc := 58) (k0 := 0) (x := a0) 0 rfl dX10_visit_58 ?_
  refine rt_aload_n (pc := 59) (k0 := 0) (x := a0) 0 rfl dX10_visit_59 ?_
  obtain ⟨v6, e7, hf⟩ := ob1 hf
  refine rt_gr (pc := 60) fd_X10_133 dX10_visit_60 e7 ?_
  refine rt_sipush (pc := 63) (n := 128) (v := (128 : Int32)) (by decide) dX10_visit_63 ?_
  refine rt_iload_n (pc := 66) (k0 := 1) (x := a1) 1 rfl dX10_visit_66 ?_
  refine rt_imul (pc := 67) (x := (128 : Int32)) (z := a1) dX10_visit_67 ?_
  refine rt_iload (pc := 68) (i := 4) (x := a4) 2 rfl dX10_visit_68 ?_
  refine rt_iadd (pc := 70) (x := ((128 : Int32) * a1)) (z := a4) dX10_visit_70 ?_
  obtain ⟨v8, e9, hf⟩ := ob1 hf
  refine rt_iald (pc := 71) dX10_visit_71 e9 ?_
  refine rt_iload_n (pc := 72) (k0 := 1) (x := a1) 1 rfl dX10_visit_72 ?_
  refine rt_iload (pc := 73) (i := 4) (x := a4) 2 rfl dX10_visit_73 ?_
  obtain ⟨w11, e10, hf⟩ := ob1 hf
  have g12 := hkr d (by omega) _ _ _ _ _ _ e10
  refine rt_callV (pc := 75) (As := [.int v8, .int a1, .int a4]) (st := []) me_X10_visit mi_X10_visit wl_X10_352 dX10_visit_75 rfl (by decide) rfl g12.1 g12.2 ?_
  refine rt_iinc (pc := 78) (i := 4) (n := 1) (x := a4) (v := (a4 + 1)) (l2 := [(4, .int (a4 + 1)), (0, va_rf a0), (1, .int a1)]) 2 rfl rfl (by decide) (by first | rfl | (simp [rt_cat, cat_i, cat_l]; done) | (simp [rt_cat, cat_i, cat_l]; decide)) dX10_visit_78 ?_
  refine rt_goto (pc := 81) (tgt := 47) (by decide) dX10_visit_81 ?_
  exact rt_locals (rt_sub [1, 2, 0] rfl) (ih _ _ _ _ _ hf)
noncomputable def bX10_visit_0 (E : ah_E) (kr : Option Nat → Int32 → Int32 → Int32 → ah_H → Option ah_H) (a0 : Option Nat) (a1 : Int32) (a2 : Int32) (a3 : Int32) (h : ah_H) : Option ah_H :=
  (hp_gr h a0 11 47).bind fun v1 =>
  (hp_gi h a0 11 50).bind fun v3 =>
  (hp_sti h v1 v3 a1).bind fun w5 =>
  (hp_gi w5 a0 11 50).bind fun v7 =>
  (hp_pv w5 a0 11 50 (.int (v7 + (1 : Int32)))).bind fun w9 =>
  (hp_gr w9 a0 11 48).bind fun v11 =>
  (hp_sti w9 v11 a1 a2).bind fun w13 =>
  (hp_gr w13 a0 11 49).bind fun v15 =>
  (hp_sti w13 v15 a1 a3).bind fun w17 =>
  (hp_gr w17 a0 11 18).bind fun v19 =>
  (hp_ldb w17 v19 a1).bind fun v21 =>
  if v21 = 0 then
    bX10_visit_47 E kr zf a0 a1 (0 : Int32) w17
  else
  some w17
set_option maxRecDepth 20000 in
set_option maxHeartbeats 4000000 in
theorem rX10_visit_0 {X : ah_X} {d : Nat} {dk : Nat} {kr : Option Nat → Int32 → Int32 → Int32 → ah_H → Option ah_H} (hkr : ∀ (d : Nat), dk ≤ d → ∀ (x0 : Option Nat) (x1 : Int32) (x2 : Int32) (x3 : Int32) (h : ah_H) (h2 : ah_H), kr x0 x1 x2 x3 h = some h2 → hp_rcv h x0 11 = true ∧ Rn X yX10_visit cX10_visit 5 none d [va_rf x0, .int x1, .int x2, .int x3] h none h2) (hd : 0 ≤ d) (hdk : dk + 0 ≤ d) {a0 : Option Nat} {a1 : Int32} {a2 : Int32} {a3 : Int32} {h : ah_H} {h2 : ah_H} (hf : bX10_visit_0 X.2.2.2 kr a0 a1 a2 a3 h = some h2) : Rt X yX10_visit cX10_visit 5 (d + 1) 0 [(0, va_rf a0), (1, .int a1), (2, .int a2), (3, .int a3)] [] h none h2 := by
  unfold bX10_visit_0 at hf
  refine rt_aload_n (pc := 0) (k0 := 0) (x := a0) 0 rfl dX10_visit_0 ?_
  obtain ⟨v1, e2, hf⟩ := ob1 hf
  refine rt_gr (pc := 1) fd_X10_191 dX10_visit_1 e2 ?_
  refine rt_aload_n (pc := 4) (k0 := 0) (x := a0) 0 rfl dX10_visit_4 ?_
  obtain ⟨v3, e4, hf⟩ := ob1 hf
  refine rt_gi (pc := 5) fd_X10_349 dX10_visit_5 e4 ?_
  refine rt_iload_n (pc := 8) (k0 := 1) (x := a1) 1 rfl dX10_visit_8 ?_
  obtain ⟨w5, e6, hf⟩ := ob1 hf
  refine rt_iast (pc := 9) dX10_visit_9 e6 ?_
  refine rt_aload_n (pc := 10) (k0 := 0) (x := a0) 0 rfl dX10_visit_10 ?_
  refine rt_dup (pc := 11) (rt_cat _) dX10_visit_11 ?_
  obtain ⟨v7, e8, hf⟩ := ob1 hf
  refine rt_gi (pc := 12) fd_X10_349 dX10_visit_12 e8 ?_
  refine rt_iconst (pc := 15) (n := 1) (v := (1 : Int32)) (by decide) dX10_visit_15 ?_
  refine rt_iadd (pc := 16) (x := v7) (z := (1 : Int32)) dX10_visit_16 ?_
  obtain ⟨w9, e10, hf⟩ := ob1 hf
  refine rt_putf (pc := 17) (x := a0) fw_X10_349 (Or.inl rfl) (pf_i _).1 (pf_i _).2 dX10_visit_17 e10 ?_
  refine rt_aload_n (pc := 20) (k0 := 0) (x := a0) 0 rfl dX10_visit_20 ?_
  obtain ⟨v11, e12, hf⟩ := ob1 hf
  refine rt_gr (pc := 21) fd_X10_194 dX10_visit_21 e12 ?_
  refine rt_iload_n (pc := 24) (k0 := 1) (x := a1) 1 rfl dX10_visit_24 ?_
  refine rt_iload_n (pc := 25) (k0 := 2) (x := a2) 2 rfl dX10_visit_25 ?_
  obtain ⟨w13, e14, hf⟩ := ob1 hf
  refine rt_iast (pc := 26) dX10_visit_26 e14 ?_
  refine rt_aload_n (pc := 27) (k0 := 0) (x := a0) 0 rfl dX10_visit_27 ?_
  obtain ⟨v15, e16, hf⟩ := ob1 hf
  refine rt_gr (pc := 28) fd_X10_197 dX10_visit_28 e16 ?_
  refine rt_iload_n (pc := 31) (k0 := 1) (x := a1) 1 rfl dX10_visit_31 ?_
  refine rt_iload_n (pc := 32) (k0 := 3) (x := a3) 3 rfl dX10_visit_32 ?_
  obtain ⟨w17, e18, hf⟩ := ob1 hf
  refine rt_iast (pc := 33) dX10_visit_33 e18 ?_
  refine rt_aload_n (pc := 34) (k0 := 0) (x := a0) 0 rfl dX10_visit_34 ?_
  obtain ⟨v19, e20, hf⟩ := ob1 hf
  refine rt_gr (pc := 35) fd_X10_119 dX10_visit_35 e20 ?_
  refine rt_iload_n (pc := 38) (k0 := 1) (x := a1) 1 rfl dX10_visit_38 ?_
  obtain ⟨v21, e22, hf⟩ := ob1 hf
  refine rt_bald (pc := 39) dX10_visit_39 e22 ?_
  by_cases c23 : v21 = 0
  · rw [if_pos c23] at hf
    refine rt_if_eq_p (pc := 40) (x := v21) (tgt := 44) (by decide) dX10_visit_40 c23 ?_
    refine rt_iconst (pc := 44) (n := 0) (v := (0 : Int32)) (by decide) dX10_visit_44 ?_
    refine rt_istore (pc := 45) (i := 4) (x := (0 : Int32)) (l2 := [(4, .int (0 : Int32)), (0, va_rf a0), (1, .int a1), (2, .int a2), (3, .int a3)]) (by decide) (by first | rfl | (simp [rt_cat, cat_i, cat_l]; done) | (simp [rt_cat, cat_i, cat_l]; decide)) dX10_visit_45 ?_
    exact rt_locals (rt_sub [1, 2, 0] rfl) (rX10_visit_47 hkr hd hdk zf _ _ _ _ _ hf)
  rw [if_neg c23] at hf
  refine rt_if_eq_n (pc := 40) (x := v21) (tgt := 44) (by decide) dX10_visit_40 c23 ?_
  cases hf
  exact rt_ret (pc := 43) dX10_visit_43 rfl
noncomputable def gX10_visit (E : ah_E) (kr : Option Nat → Int32 → Int32 → Int32 → ah_H → Option ah_H) (a0 : Option Nat) (a1 : Int32) (a2 : Int32) (a3 : Int32) (h : ah_H) : Option ah_H := if hp_rcv h a0 11 = false then none else bX10_visit_0 E kr a0 a1 a2 a3 h
set_option maxRecDepth 20000 in
set_option maxHeartbeats 4000000 in
theorem tX10_visit {X : ah_X} {dk : Nat} {kr : Option Nat → Int32 → Int32 → Int32 → ah_H → Option ah_H} (hkr : ∀ (d : Nat), dk ≤ d → ∀ (x0 : Option Nat) (x1 : Int32) (x2 : Int32) (x3 : Int32) (h : ah_H) (h2 : ah_H), kr x0 x1 x2 x3 h = some h2 → hp_rcv h x0 11 = true ∧ Rn X yX10_visit cX10_visit 5 none d [va_rf x0, .int x1, .int x2, .int x3] h none h2) (d : Nat) (hdk : dk + 1 ≤ d) (hd : 1 ≤ d) {a0 : Option Nat} {a1 : Int32} {a2 : Int32} {a3 : Int32} {h : ah_H} {h2 : ah_H} (hf : gX10_visit X.2.2.2 kr a0 a1 a2 a3 h = some h2) : hp_rcv h a0 11 = true ∧ Rn X yX10_visit cX10_visit 5 none d [va_rf a0, .int a1, .int a2, .int a3] h none h2 := by
  unfold gX10_visit at hf
  by_cases c0 : hp_rcv h a0 11 = false
  · rw [if_pos c0] at hf; cases hf
  rw [if_neg c0] at hf
  refine ⟨(Bool.not_eq_false _).mp c0, ?_⟩
  obtain ⟨d, rfl⟩ : ∃ k, d = k + 1 := ⟨d - 1, by omega⟩
  exact Rn.of2 me_X10_visit (by simp [lg_sl, rt_cat, cat_i, cat_l]) rfl (l := [(0, va_rf a0), (1, .int a1), (2, .int a2), (3, .int a3)]) (by simp [lv_args, rt_cat, cat_i, cat_l]) (rX10_visit_0 hkr (by omega) (by omega) hf)
noncomputable def fX10_visit (E : ah_E) : Nat → Option Nat → Int32 → Int32 → Int32 → ah_H → Option ah_H
  | 0 => fun _ _ _ _ _ => none
  | n + 1 => fun a0 a1 a2 a3 h => gX10_visit E (fX10_visit E n) a0 a1 a2 a3 h
set_option maxRecDepth 20000 in
set_option maxHeartbeats 4000000 in
theorem sX10_visit {X : ah_X} (n : Nat) : ∀ (d : Nat), 1 + 1 * n ≤ d → ∀ (a0 : Option Nat) (a1 : Int32) (a2 : Int32) (a3 : Int32) (h : ah_H) (h2 : ah_H), fX10_visit X.2.2.2 n a0 a1 a2 a3 h = some h2 → hp_rcv h a0 11 = true ∧ Rn X yX10_visit cX10_visit 5 none d [va_rf a0, .int a1, .int a2, .int a3] h none h2 := by
  induction n with
  | zero => intro d hd a0 a1 a2 a3 h h2 hf; cases hf
  | succ n ih =>
    intro d hd a0 a1 a2 a3 h h2 hf
    exact tX10_visit (dk := 1 + 1 * n) ih d (by omega) (by omega) hf
noncomputable def bX10_number_0 (E : ah_E) (a0 : Option Nat) (h : ah_H) : Option ah_H :=
  (hp_pv h a0 11 50 (.int (0 : Int32))).bind fun w1 =>
  (hp_gi w1 a0 11 30).bind fun v3 =>
  (fX10_visit E zd a0 v3 (-1 : Int32) (0 : Int32) w1).bind fun w6 =>
  some w6
set_option maxRecDepth 20000 in
set_option maxHeartbeats 4000000 in
theorem rX10_number_0 {X : ah_X} {d : Nat} (hd : 46 ≤ d) {a0 : Option Nat} {h : ah_H} {h2 : ah_H} (hf : bX10_number_0 X.2.2.2 a0 h = some h2) : Rt X yX10_number cX10_number 1 (d + 1) 0 [(0, va_rf a0)] [] h none h2 := by
  unfold bX10_number_0 at hf
  refine rt_aload_n (pc := 0) (k0 := 0) (x := a0) 0 rfl dX10_number_0 ?_
  refine rt_iconst (pc := 1) (n := 0) (v := (0 : Int32)) (by decide) dX10_number_1 ?_
  obtain ⟨w1, e2, hf⟩ := ob1 hf
  refine rt_putf (pc := 2) (x := a0) fw_X10_349 (Or.inl rfl) (pf_i _).1 (pf_i _).2 dX10_number_2 e2 ?_
  refine rt_aload_n (pc := 5) (k0 := 0) (x := a0) 0 rfl dX10_number_5 ?_
  refine rt_aload_n (pc := 6) (k0 := 0) (x := a0) 0 rfl dX10_number_6 ?_
  obtain ⟨v3, e4, hf⟩ := ob1 hf
  refine rt_gi (pc := 7) fd_X10_277 dX10_number_7 e4 ?_
  refine rt_iconst (pc := 10) (n := -1) (v := (-1 : Int32)) (by decide) dX10_number_10 ?_
  refine rt_iconst (pc := 11) (n := 0) (v := (0 : Int32)) (by decide) dX10_number_11 ?_
  obtain ⟨w6, e5, hf⟩ := ob1 hf
  have g7 := sX10_visit zd d (by unfold zd; omega) _ _ _ _ _ _ e5
  refine rt_callV (pc := 12) (As := [.int v3, .int (-1 : Int32), .int (0 : Int32)]) (st := []) me_X10_visit mi_X10_visit wl_X10_352 dX10_number_12 rfl (by decide) rfl g7.1 g7.2 ?_
  cases hf
  exact rt_ret (pc := 15) dX10_number_15 rfl
noncomputable def fX10_number (E : ah_E) (a0 : Option Nat) (h : ah_H) : Option ah_H := if hp_rcv h a0 11 = false then none else bX10_number_0 E a0 h
set_option maxRecDepth 20000 in
set_option maxHeartbeats 4000000 in
theorem sX10_number {X : ah_X} (d : Nat) (hd : 47 ≤ d) {a0 : Option Nat} {h : ah_H} {h2 : ah_H} (hf : fX10_number X.2.2.2 a0 h = some h2) : hp_rcv h a0 11 = true ∧ Rn X yX10_number cX10_number 1 none d [va_rf a0] h none h2 := by
  unfold fX10_number at hf
  by_cases c0 : hp_rcv h a0 11 = false
  · rw [if_pos c0] at hf; cases hf
  rw [if_neg c0] at hf
  refine ⟨(Bool.not_eq_false _).mp c0, ?_⟩
  obtain ⟨d, rfl⟩ : ∃ k, d = k + 1 := ⟨d - 1, by omega⟩
  exact Rn.of2 me_X10_number (by simp [lg_sl, rt_cat, cat_i, cat_l]) rfl (l := [(0, va_rf a0)]) (by simp [lv_args, rt_cat, cat_i, cat_l]) (rX10_number_0 (by omega) hf)
noncomputable def bX10_border_31 (E : ah_E) (h : ah_H) : Option (Int32 × ah_H) :=
  some ((-1 : Int32), h)
set_option maxRecDepth 20000 in
set_option maxHeartbeats 4000000 in
theorem rX10_border_31 {X : ah_X} {d : Nat} (hd : 47 ≤ d)  {h : ah_H} {r : Int32} {h2 : ah_H} (hf : bX10_border_31 X.2.2.2  h = some (r, h2)) : Rt X yX10_border cX10_border 6 (d + 1) 31 [] [] h (some (.int r)) h2 := by
  unfold bX10_border_31 at hf
  refine rt_iconst (pc := 31) (n := -1) (v := (-1 : Int32)) (by decide) dX10_border_31 ?_
  cases hf
  exact rt_ret (pc := 32) dX10_border_32 rfl
noncomputable def bX10_border_145 (E : ah_E) (s0 : Option Nat) (s1 : Int64) (h : ah_H) : Option (Int32 × ah_H) :=
  (hp_pv h s0 11 7 (.long s1)).bind fun w1 =>
  some ((1 : Int32), w1)
set_option maxRecDepth 20000 in
set_option maxHeartbeats 4000000 in
theorem rX10_border_145 {X : ah_X} {d : Nat} (hd : 47 ≤ d) {s0 : Option Nat} {s1 : Int64} {h : ah_H} {r : Int32} {h2 : ah_H} (hf : bX10_border_145 X.2.2.2 s0 s1 h = some (r, h2)) : Rt X yX10_border cX10_border 6 (d + 1) 145 [] [.long s1, va_rf s0] h (some (.int r)) h2 := by
  unfold bX10_border_145 at hf
  obtain ⟨w1, e2, hf⟩ := ob1 hf
  refine rt_putf (pc := 145) (x := s0) fw_X10_107 (Or.inl rfl) (pf_l _).1 (pf_l _).2 dX10_border_145 e2 ?_
  refine rt_iconst (pc := 148) (n := 1) (v := (1 : Int32)) (by decide) dX10_border_148 ?_
  cases hf
  exact rt_ret (pc := 149) dX10_border_149 rfl
noncomputable def bX10_border_113 (E : ah_E) (a0 : Option Nat) (a2 : Int32) (a3 : Int32) (a4 : Int32) (h : ah_H) : Option (Int32 × ah_H) :=
  (hp_gr h a0 11 18).bind fun v1 =>
  (hp_ldb h v1 a3).bind fun v3 =>
  if v3 = 0 then
    (hp_gr h a0 11 23).bind fun v6 =>
    (hp_ldl h v6 (((128 : Int32) * a3) + a2)).bind fun v8 =>
    bX10_border_145 E a0 v8 h
  else
  (hp_gr h a0 11 31).bind fun v10 =>
  (hp_ldl h v10 a4).bind fun v12 =>
  bX10_border_145 E a0 v12 h
set_option maxRecDepth 20000 in
set_option maxHeartbeats 4000000 in
theorem rX10_border_113 {X : ah_X} {d : Nat} (hd : 47 ≤ d) {a0 : Option Nat} {a2 : Int32} {a3 : Int32} {a4 : Int32} {h : ah_H} {r : Int32} {h2 : ah_H} (hf : bX10_border_113 X.2.2.2 a0 a2 a3 a4 h = some (r, h2)) : Rt X yX10_border cX10_border 6 (d + 1) 113 [(0, va_rf a0), (2, .int a2), (3, .int a3), (4, .int a4)] [] h (some (.int r)) h2 := by
  unfold bX10_border_113 at hf
  refine rt_aload_n (pc := 113) (k0 := 0) (x := a0) 0 rfl dX10_border_113 ?_
  refine rt_aload_n (pc := 114) (k0 := 0) (x := a0) 0 rfl dX10_border_114 ?_
  obtain ⟨v1, e2, hf⟩ := ob1 hf
  refine rt_gr (pc := 115) fd_X10_119 dX10_border_115 e2 ?_
  refine rt_iload_n (pc := 118) (k0 := 3) (x := a3) 2 rfl dX10_border_118 ?_
  obtain ⟨v3, e4, hf⟩ := ob1 hf
  refine rt_bald (pc := 119) dX10_border_119 e4 ?_
  by_cases c5 : v3 = 0
  · rw [if_pos c5] at hf
    refine rt_if_eq_p (pc := 120) (x := v3) (tgt := 133) (by decide) dX10_border_120 c5 ?_
    refine rt_aload_n (pc := 133) (k0 := 0) (x := a0) 0 rfl dX10_border_133 ?_
    obtain ⟨v6, e7, hf⟩ := ob1 hf
    refine rt_gr (pc := 134) fd_X10_136 dX10_border_134 e7 ?_
    refine rt_sipush (pc := 137) (n := 128) (v := (128 : Int32)) (by decide) dX10_border_137 ?_
    refine rt_iload_n (pc := 140) (k0 := 3) (x := a3) 2 rfl dX10_border_140 ?_
    refine rt_imul (pc := 141) (x := (128 : Int32)) (z := a3) dX10_border_141 ?_
    refine rt_iload_n (pc := 142) (k0 := 2) (x := a2) 1 rfl dX10_border_142 ?_
    refine rt_iadd (pc := 143) (x := ((128 : Int32) * a3)) (z := a2) dX10_border_143 ?_
    obtain ⟨v8, e9, hf⟩ := ob1 hf
    refine rt_lald (pc := 144) dX10_border_144 e9 ?_
    exact rt_locals (rt_sub [] rfl) (rX10_border_145 hd hf)
  rw [if_neg c5] at hf
  refine rt_if_eq_n (pc := 120) (x := v3) (tgt := 133) (by decide) dX10_border_120 c5 ?_
  refine rt_aload_n (pc := 123) (k0 := 0) (x := a0) 0 rfl dX10_border_123 ?_
  obtain ⟨v10, e11, hf⟩ := ob1 hf
  refine rt_gr (pc := 124) fd_X10_154 dX10_border_124 e11 ?_
  refine rt_iload (pc := 127) (i := 4) (x := a4) 3 rfl dX10_border_127 ?_
  obtain ⟨v12, e13, hf⟩ := ob1 hf
  refine rt_lald (pc := 129) dX10_border_129 e13 ?_
  refine rt_goto (pc := 130) (tgt := 145) (by decide) dX10_border_130 ?_
  exact rt_locals (rt_sub [] rfl) (rX10_border_145 hd hf)
noncomputable def bX10_border_83 (E : ah_E) : Nat → Option Nat → Int32 → Int32 → Int32 → Int32 → ah_H → Option (Int32 × ah_H)
  | 0 => fun _ _ _ _ _ _ => none
  | n + 1 => fun a0 a2 a3 a4 a5 h =>
  if a2 ≤ a5 then
    bX10_border_113 E a0 a2 a3 a4 h
  else
  (hp_gr h a0 11 18).bind fun v2 =>
  (hp_ldb h v2 a3).bind fun v4 =>
  if v4 = 0 then
    bX10_border_113 E a0 a2 a3 a4 h
  else
  (hp_gr h a0 11 34).bind fun v7 =>
  (hp_ldi h v7 a4).bind fun v9 =>
  bX10_border_83 E n a0 a2 a3 v9 (a5 + 1) h
set_option maxRecDepth 20000 in
set_option maxHeartbeats 4000000 in
theorem rX10_border_83 {X : ah_X} {d : Nat} (hd : 47 ≤ d) (n : Nat) : ∀ (a0 : Option Nat) (a2 : Int32) (a3 : Int32) (a4 : Int32) (a5 : Int32) (h : ah_H) (r : Int32) (h2 : ah_H), bX10_border_83 X.2.2.2 n a0 a2 a3 a4 a5 h = some (r, h2) → Rt X yX10_border cX10_border 6 (d + 1) 83 [(0, va_rf a0), (2, .int a2), (3, .int a3), (4, .int a4), (5, .int a5)] [] h (some (.int r)) h2 := by
  induction n with
  | zero => intro a0 a2 a3 a4 a5 h r h2 hf; cases hf
  | succ n ih =>
  intro a0 a2 a3 a4 a5 h r h2 hf
  unfold bX10_border_83 at hf
  refine rt_iload (pc := 83) (i := 5) (x := a5) 4 rfl dX10_border_83 ?_
  refine rt_iload_n (pc := 85) (k0 := 2) (x := a2) 1 rfl dX10_border_85 ?_
  by_cases c1 : a2 ≤ a5
  · rw [if_pos c1] at hf
    refine rt_icmp_ge_p (pc := 86) (x := a5) (z := a2) (tgt := 113) (by decide) dX10_border_86 c1 ?_
    exact rt_locals (rt_sub [0, 1, 2, 3] rfl) (rX10_border_113 hd hf)
  rw [if_neg c1] at hf
  refine rt_icmp_ge_n (pc := 86) (x := a5) (z := a2) (tgt := 113) (by decide) dX10_border_86 c1 ?_
  refine rt_aload_n (pc := 89) (k0 := 0) (x := a0) 0 rfl dX10_border_89 ?_
  obtain ⟨v2, e3, hf⟩ := ob1 hf
  refine rt_gr (pc := 90) fd_X10_119 dX10_border_90 e3 ?_
  refine rt_iload_n (pc := 93) (k0 := 3) (x := a3) 2 rfl dX10_border_93 ?_
  obtain ⟨v4, e5, hf⟩ := ob1 hf
  refine rt_bald (pc := 94) dX10_border_94 e5 ?_
  by_cases c6 : v4 = 0
  · rw [if_pos c6] at hf
    refine rt_if_eq_p (pc := 95) (x := v4) (tgt := 113) (by decide) dX10_border_95 c6 ?_
    exact rt_locals (rt_sub [0, 1, 2, 3] rfl) (rX10_border_113 hd hf)
  rw [if_neg c6] at hf
  refine rt_if_eq_n (pc := 95) (x := v4) (tgt := 113) (by decide) dX10_border_95 c6 ?_
  refine rt_aload_n (pc := 98) (k0 := 0) (x := a0) 0 rfl dX10_border_98 ?_
  obtain ⟨v7, e8, hf⟩ := ob1 hf
  refine rt_gr (pc := 99) fd_X10_164 dX10_border_99 e8 ?_
  refine rt_iload (pc := 102) (i := 4) (x := a4) 3 rfl dX10_border_102 ?_
  obtain ⟨v9, e10, hf⟩ := ob1 hf
  refine rt_iald (pc := 104) dX10_border_104 e10 ?_
  refine rt_istore (pc := 105) (i := 4) (x := v9) (l2 := [(4, .int v9), (0, va_rf a0), (2, .int a2), (3, .int a3), (5, .int a5)]) (by decide) (by first | rfl | (simp [rt_cat, cat_i, cat_l]; done) | (simp [rt_cat, cat_i, cat_l]; decide)) dX10_border_105 ?_
  refine rt_iinc (pc := 107) (i := 5) (n := 1) (x := a5) (v := (a5 + 1)) (l2 := [(5, .int (a5 + 1)), (4, .int v9), (0, va_rf a0), (2, .int a2), (3, .int a3)]) 4 rfl rfl (by decide) (by first | rfl | (simp [rt_cat, cat_i, cat_l]; done) | (simp [rt_cat, cat_i, cat_l]; decide)) dX10_border_107 ?_
  refine rt_goto (pc := 110) (tgt := 83) (by decide) dX10_border_110 ?_
  exact rt_locals (rt_sub [2, 3, 4, 1, 0] rfl) (ih _ _ _ _ _ _ _ _ hf)
noncomputable def bX10_border_67 (E : ah_E) (a0 : Option Nat) (a2 : Int32) (a3 : Int32) (s0 : Int32) (s1 : Int32) (h : ah_H) : Option (Int32 × ah_H) :=
  if s0 ≤ s1 then
    (hp_gr h a0 11 19).bind fun v2 =>
    (hp_ldi h v2 a3).bind fun v4 =>
    bX10_border_83 E zf a0 a2 a3 v4 (1 : Int32) h
  else
  some ((-1 : Int32), h)
set_option maxRecDepth 20000 in
set_option maxHeartbeats 4000000 in
theorem rX10_border_67 {X : ah_X} {d : Nat} (hd : 47 ≤ d) {a0 : Option Nat} {a2 : Int32} {a3 : Int32} {s0 : Int32} {s1 : Int32} {h : ah_H} {r : Int32} {h2 : ah_H} (hf : bX10_border_67 X.2.2.2 a0 a2 a3 s0 s1 h = some (r, h2)) : Rt X yX10_border cX10_border 6 (d + 1) 67 [(0, va_rf a0), (2, .int a2), (3, .int a3)] [.int s1, .int s0] h (some (.int r)) h2 := by
  unfold bX10_border_67 at hf
  by_cases c1 : s0 ≤ s1
  · rw [if_pos c1] at hf
    refine rt_icmp_le_p (pc := 67) (x := s0) (z := s1) (tgt := 72) (by decide) dX10_border_67 c1 ?_
    refine rt_aload_n (pc := 72) (k0 := 0) (x := a0) 0 rfl dX10_border_72 ?_
    obtain ⟨v2, e3, hf⟩ := ob1 hf
    refine rt_gr (pc := 73) fd_X10_123 dX10_border_73 e3 ?_
    refine rt_iload_n (pc := 76) (k0 := 3) (x := a3) 2 rfl dX10_border_76 ?_
    obtain ⟨v4, e5, hf⟩ := ob1 hf
    refine rt_iald (pc := 77) dX10_border_77 e5 ?_
    refine rt_istore (pc := 78) (i := 4) (x := v4) (l2 := [(4, .int v4), (0, va_rf a0), (2, .int a2), (3, .int a3)]) (by decide) (by first | rfl | (simp [rt_cat, cat_i, cat_l]; done) | (simp [rt_cat, cat_i, cat_l]; decide)) dX10_border_78 ?_
    refine rt_iconst (pc := 80) (n := 1) (v := (1 : Int32)) (by decide) dX10_border_80 ?_
    refine rt_istore (pc := 81) (i := 5) (x := (1 : Int32)) (l2 := [(5, .int (1 : Int32)), (4, .int v4), (0, va_rf a0), (2, .int a2), (3, .int a3)]) (by decide) (by first | rfl | (simp [rt_cat, cat_i, cat_l]; done) | (simp [rt_cat, cat_i, cat_l]; decide)) dX10_border_81 ?_
    exact rt_locals (rt_sub [2, 3, 4, 1, 0] rfl) (rX10_border_83 hd zf _ _ _ _ _ _ _ _ hf)
  rw [if_neg c1] at hf
  refine rt_icmp_le_n (pc := 67) (x := s0) (z := s1) (tgt := 72) (by decide) dX10_border_67 c1 ?_
  refine rt_iconst (pc := 70) (n := -1) (v := (-1 : Int32)) (by decide) dX10_border_70 ?_
  cases hf
  exact rt_ret (pc := 71) dX10_border_71 rfl
noncomputable def bX10_border_0 (E : ah_E) (a0 : Option Nat) (a1 : Int32) (a2 : Int32) (h : ah_H) : Option (Int32 × ah_H) :=
  (hp_gi h a0 11 51).bind fun v1 =>
  if v1 = 0 then
    (fX10_number E a0 h).bind fun w5 =>
    if a1 < 0 then
      bX10_border_31 E  w5
    else
    (hp_gi w5 a0 11 50).bind fun v8 =>
    if v8 ≤ a1 then
      bX10_border_31 E  w5
    else
    if (1 : Int32) ≤ a2 then
      (hp_gr w5 a0 11 47).bind fun v12 =>
      (hp_ldi w5 v12 a1).bind fun v14 =>
      (hp_gr w5 a0 11 18).bind fun v16 =>
      (hp_ldb w5 v16 v14).bind fun v18 =>
      if v18 = 0 then
        (hp_gr w5 a0 11 21).bind fun v21 =>
        (hp_ldi w5 v21 v14).bind fun v23 =>
        bX10_border_67 E a0 a2 v14 a2 (v23 - (1 : Int32)) w5
      else
      (hp_gr w5 a0 11 20).bind fun v25 =>
      (hp_ldi w5 v25 v14).bind fun v27 =>
      bX10_border_67 E a0 a2 v14 a2 v27 w5
    else
    bX10_border_31 E  w5
  else
  some ((-4 : Int32), h)
set_option maxRecDepth 20000 in
set_option maxHeartbeats 4000000 in
theorem rX10_border_0 {X : ah_X} {d : Nat} (hd : 47 ≤ d) {a0 : Option Nat} {a1 : Int32} {a2 : Int32} {h : ah_H} {r : Int32} {h2 : ah_H} (hf : bX10_border_0 X.2.2.2 a0 a1 a2 h = some (r, h2)) : Rt X yX10_border cX10_border 6 (d + 1) 0 [(0, va_rf a0), (1, .int a1), (2, .int a2)] [] h (some (.int r)) h2 := by
  unfold bX10_border_0 at hf
  refine rt_aload_n (pc := 0) (k0 := 0) (x := a0) 0 rfl dX10_border_0 ?_
  obtain ⟨v1, e2, hf⟩ := ob1 hf
  refine rt_gi (pc := 1) fd_X10_90 dX10_border_1 e2 ?_
  by_cases c3 : v1 = 0
  · rw [if_pos c3] at hf
    refine rt_if_eq_p (pc := 4) (x := v1) (tgt := 10) (by decide) dX10_border_4 c3 ?_
    refine rt_aload_n (pc := 10) (k0 := 0) (x := a0) 0 rfl dX10_border_10 ?_
    obtain ⟨w5, e4, hf⟩ := ob1 hf
    have g6 := sX10_number d (by omega) e4
    refine rt_callV (pc := 11) (As := []) (st := []) me_X10_number mi_X10_number wl_X10_355 dX10_border_11 rfl (by decide) rfl g6.1 g6.2 ?_
    refine rt_iload_n (pc := 14) (k0 := 1) (x := a1) 1 rfl dX10_border_14 ?_
    by_cases c7 : a1 < 0
    · rw [if_pos c7] at hf
      refine rt_if_lt_p (pc := 15) (x := a1) (tgt := 31) (by decide) dX10_border_15 c7 ?_
      exact rt_locals (rt_sub [] rfl) (rX10_border_31 hd hf)
    rw [if_neg c7] at hf
    refine rt_if_lt_n (pc := 15) (x := a1) (tgt := 31) (by decide) dX10_border_15 c7 ?_
    refine rt_iload_n (pc := 18) (k0 := 1) (x := a1) 1 rfl dX10_border_18 ?_
    refine rt_aload_n (pc := 19) (k0 := 0) (x := a0) 0 rfl dX10_border_19 ?_
    obtain ⟨v8, e9, hf⟩ := ob1 hf
    refine rt_gi (pc := 20) fd_X10_349 dX10_border_20 e9 ?_
    by_cases c10 : v8 ≤ a1
    · rw [if_pos c10] at hf
      refine rt_icmp_ge_p (pc := 23) (x := a1) (z := v8) (tgt := 31) (by decide) dX10_border_23 c10 ?_
      exact rt_locals (rt_sub [] rfl) (rX10_border_31 hd hf)
    rw [if_neg c10] at hf
    refine rt_icmp_ge_n (pc := 23) (x := a1) (z := v8) (tgt := 31) (by decide) dX10_border_23 c10 ?_
    refine rt_iload_n (pc := 26) (k0 := 2) (x := a2) 2 rfl dX10_border_26 ?_
    refine rt_iconst (pc := 27) (n := 1) (v := (1 : Int32)) (by decide) dX10_border_27 ?_
    by_cases c11 : (1 : Int32) ≤ a2
    · rw [if_pos c11] at hf
      refine rt_icmp_ge_p (pc := 28) (x := a2) (z := (1 : Int32)) (tgt := 33) (by decide) dX10_border_28 c11 ?_
      refine rt_aload_n (pc := 33) (k0 := 0) (x := a0) 0 rfl dX10_border_33 ?_
      obtain ⟨v12, e13, hf⟩ := ob1 hf
      refine rt_gr (pc := 34) fd_X10_191 dX10_border_34 e13 ?_
      refine rt_iload_n (pc := 37) (k0 := 1) (x := a1) 1 rfl dX10_border_37 ?_
      obtain ⟨v14, e15, hf⟩ := ob1 hf
      refine rt_iald (pc := 38) dX10_border_38 e15 ?_
      refine rt_istore_n (pc := 39) (k0 := 3) (x := v14) (l2 := [(3, .int v14), (0, va_rf a0), (1, .int a1), (2, .int a2)]) (by decide) (by first | rfl | (simp [rt_cat, cat_i, cat_l]; done) | (simp [rt_cat, cat_i, cat_l]; decide)) dX10_border_39 ?_
      refine rt_iload_n (pc := 40) (k0 := 2) (x := a2) 3 rfl dX10_border_40 ?_
      refine rt_aload_n (pc := 41) (k0 := 0) (x := a0) 1 rfl dX10_border_41 ?_
      obtain ⟨v16, e17, hf⟩ := ob1 hf
      refine rt_gr (pc := 42) fd_X10_119 dX10_border_42 e17 ?_
      refine rt_iload_n (pc := 45) (k0 := 3) (x := v14) 0 rfl dX10_border_45 ?_
      obtain ⟨v18, e19, hf⟩ := ob1 hf
      refine rt_bald (pc := 46) dX10_border_46 e19 ?_
      by_cases c20 : v18 = 0
      · rw [if_pos c20] at hf
        refine rt_if_eq_p (pc := 47) (x := v18) (tgt := 59) (by decide) dX10_border_47 c20 ?_
        refine rt_aload_n (pc := 59) (k0 := 0) (x := a0) 1 rfl dX10_border_59 ?_
        obtain ⟨v21, e22, hf⟩ := ob1 hf
        refine rt_gr (pc := 60) fd_X10_129 dX10_border_60 e22 ?_
        refine rt_iload_n (pc := 63) (k0 := 3) (x := v14) 0 rfl dX10_border_63 ?_
        obtain ⟨v23, e24, hf⟩ := ob1 hf
        refine rt_iald (pc := 64) dX10_border_64 e24 ?_
        refine rt_iconst (pc := 65) (n := 1) (v := (1 : Int32)) (by decide) dX10_border_65 ?_
        refine rt_isub (pc := 66) (x := v23) (z := (1 : Int32)) dX10_border_66 ?_
        exact rt_locals (rt_sub [1, 3, 0] rfl) (rX10_border_67 hd hf)
      rw [if_neg c20] at hf
      refine rt_if_eq_n (pc := 47) (x := v18) (tgt := 59) (by decide) dX10_border_47 c20 ?_
      refine rt_aload_n (pc := 50) (k0 := 0) (x := a0) 1 rfl dX10_border_50 ?_
      obtain ⟨v25, e26, hf⟩ := ob1 hf
      refine rt_gr (pc := 51) fd_X10_126 dX10_border_51 e26 ?_
      refine rt_iload_n (pc := 54) (k0 := 3) (x := v14) 0 rfl dX10_border_54 ?_
      obtain ⟨v27, e28, hf⟩ := ob1 hf
      refine rt_iald (pc := 55) dX10_border_55 e28 ?_
      refine rt_goto (pc := 56) (tgt := 67) (by decide) dX10_border_56 ?_
      exact rt_locals (rt_sub [1, 3, 0] rfl) (rX10_border_67 hd hf)
    rw [if_neg c11] at hf
    refine rt_icmp_ge_n (pc := 28) (x := a2) (z := (1 : Int32)) (tgt := 33) (by decide) dX10_border_28 c11 ?_
    exact rt_locals (rt_sub [] rfl) (rX10_border_31 hd hf)
  rw [if_neg c3] at hf
  refine rt_if_eq_n (pc := 4) (x := v1) (tgt := 10) (by decide) dX10_border_4 c3 ?_
  refine rt_bipush (pc := 7) (n := -4) (v := (-4 : Int32)) (by decide) dX10_border_7 ?_
  cases hf
  exact rt_ret (pc := 9) dX10_border_9 rfl
noncomputable def fX10_border (E : ah_E) (a0 : Option Nat) (a1 : Int32) (a2 : Int32) (h : ah_H) : Option (Int32 × ah_H) := if hp_rcv h a0 11 = false then none else bX10_border_0 E a0 a1 a2 h
set_option maxRecDepth 20000 in
set_option maxHeartbeats 4000000 in
theorem sX10_border {X : ah_X} (d : Nat) (hd : 48 ≤ d) {a0 : Option Nat} {a1 : Int32} {a2 : Int32} {h : ah_H} {r : Int32} {h2 : ah_H} (hf : fX10_border X.2.2.2 a0 a1 a2 h = some (r, h2)) : hp_rcv h a0 11 = true ∧ Rn X yX10_border cX10_border 6 (some .int) d [va_rf a0, .int a1, .int a2] h (some (.int r)) h2 := by
  unfold fX10_border at hf
  by_cases c0 : hp_rcv h a0 11 = false
  · rw [if_pos c0] at hf; cases hf
  rw [if_neg c0] at hf
  refine ⟨(Bool.not_eq_false _).mp c0, ?_⟩
  obtain ⟨d, rfl⟩ : ∃ k, d = k + 1 := ⟨d - 1, by omega⟩
  exact Rn.of2 me_X10_border (by simp [lg_sl, rt_cat, cat_i, cat_l]) (ok_i _) (l := [(0, va_rf a0), (1, .int a1), (2, .int a2)]) (by simp [lv_args, rt_cat, cat_i, cat_l]) (rX10_border_0 (by omega) hf)
noncomputable def bX10_byteAt_26 (E : ah_E) (s0 : Int32) (h : ah_H) : Option (Int32 × ah_H) :=
  some (s0, h)
set_option maxRecDepth 20000 in
set_option maxHeartbeats 4000000 in
theorem rX10_byteAt_26 {X : ah_X} {d : Nat} {s0 : Int32} {h : ah_H} {r : Int32} {h2 : ah_H} (hf : bX10_byteAt_26 X.2.2.2 s0 h = some (r, h2)) : Rt X yX10_byteAt cX10_byteAt 2 d 26 [] [.int s0] h (some (.int r)) h2 := by
  unfold bX10_byteAt_26 at hf
  cases hf
  exact rt_ret (pc := 26) dX10_byteAt_26 rfl
noncomputable def bX10_byteAt_25 (E : ah_E) (h : ah_H) : Option (Int32 × ah_H) :=
  bX10_byteAt_26 E (-1 : Int32) h
set_option maxRecDepth 20000 in
set_option maxHeartbeats 4000000 in
theorem rX10_byteAt_25 {X : ah_X} {d : Nat}  {h : ah_H} {r : Int32} {h2 : ah_H} (hf : bX10_byteAt_25 X.2.2.2  h = some (r, h2)) : Rt X yX10_byteAt cX10_byteAt 2 d 25 [] [] h (some (.int r)) h2 := by
  unfold bX10_byteAt_25 at hf
  refine rt_iconst (pc := 25) (n := -1) (v := (-1 : Int32)) (by decide) dX10_byteAt_25 ?_
  exact rX10_byteAt_26 hf
noncomputable def bX10_byteAt_0 (E : ah_E) (a0 : Option Nat) (a1 : Int32) (h : ah_H) : Option (Int32 × ah_H) :=
  if a1 < 0 then
    bX10_byteAt_25 E  h
  else
  (hp_gi h a0 11 2).bind fun v2 =>
  if v2 ≤ a1 then
    bX10_byteAt_25 E  h
  else
  (hp_gr h a0 11 1).bind fun v5 =>
  (hp_ldb h v5 a1).bind fun v7 =>
  bX10_byteAt_26 E (v7 &&& (255 : Int32)) h
set_option maxRecDepth 20000 in
set_option maxHeartbeats 4000000 in
theorem rX10_byteAt_0 {X : ah_X} {d : Nat} {a0 : Option Nat} {a1 : Int32} {h : ah_H} {r : Int32} {h2 : ah_H} (hf : bX10_byteAt_0 X.2.2.2 a0 a1 h = some (r, h2)) : Rt X yX10_byteAt cX10_byteAt 2 d 0 [(0, va_rf a0), (1, .int a1)] [] h (some (.int r)) h2 := by
  unfold bX10_byteAt_0 at hf
  refine rt_iload_n (pc := 0) (k0 := 1) (x := a1) 1 rfl dX10_byteAt_0 ?_
  by_cases c1 : a1 < 0
  · rw [if_pos c1] at hf
    refine rt_if_lt_p (pc := 1) (x := a1) (tgt := 25) (by decide) dX10_byteAt_1 c1 ?_
    exact rt_locals (rt_sub [] rfl) (rX10_byteAt_25 hf)
  rw [if_neg c1] at hf
  refine rt_if_lt_n (pc := 1) (x := a1) (tgt := 25) (by decide) dX10_byteAt_1 c1 ?_
  refine rt_iload_n (pc := 4) (k0 := 1) (x := a1) 1 rfl dX10_byteAt_4 ?_
  refine rt_aload_n (pc := 5) (k0 := 0) (x := a0) 0 rfl dX10_byteAt_5 ?_
  obtain ⟨v2, e3, hf⟩ := ob1 hf
  refine rt_gi (pc := 6) fd_X10_9 dX10_byteAt_6 e3 ?_
  by_cases c4 : v2 ≤ a1
  · rw [if_pos c4] at hf
    refine rt_icmp_ge_p (pc := 9) (x := a1) (z := v2) (tgt := 25) (by decide) dX10_byteAt_9 c4 ?_
    exact rt_locals (rt_sub [] rfl) (rX10_byteAt_25 hf)
  rw [if_neg c4] at hf
  refine rt_icmp_ge_n (pc := 9) (x := a1) (z := v2) (tgt := 25) (by decide) dX10_byteAt_9 c4 ?_
  refine rt_aload_n (pc := 12) (k0 := 0) (x := a0) 0 rfl dX10_byteAt_12 ?_
  obtain ⟨v5, e6, hf⟩ := ob1 hf
  refine rt_gr (pc := 13) fd_X10_12 dX10_byteAt_13 e6 ?_
  refine rt_iload_n (pc := 16) (k0 := 1) (x := a1) 1 rfl dX10_byteAt_16 ?_
  obtain ⟨v7, e8, hf⟩ := ob1 hf
  refine rt_bald (pc := 17) dX10_byteAt_17 e8 ?_
  refine rt_sipush (pc := 18) (n := 255) (v := (255 : Int32)) (by decide) dX10_byteAt_18 ?_
  refine rt_iand (pc := 21) (x := v7) (z := (255 : Int32)) dX10_byteAt_21 ?_
  refine rt_goto (pc := 22) (tgt := 26) (by decide) dX10_byteAt_22 ?_
  exact rt_locals (rt_sub [] rfl) (rX10_byteAt_26 hf)
noncomputable def fX10_byteAt (E : ah_E) (a0 : Option Nat) (a1 : Int32) (h : ah_H) : Option (Int32 × ah_H) := if hp_rcv h a0 11 = false then none else bX10_byteAt_0 E a0 a1 h
set_option maxRecDepth 20000 in
set_option maxHeartbeats 4000000 in
theorem sX10_byteAt {X : ah_X} (d : Nat) (hd : 0 ≤ d) {a0 : Option Nat} {a1 : Int32} {h : ah_H} {r : Int32} {h2 : ah_H} (hf : fX10_byteAt X.2.2.2 a0 a1 h = some (r, h2)) : hp_rcv h a0 11 = true ∧ Rn X yX10_byteAt cX10_byteAt 2 (some .int) d [va_rf a0, .int a1] h (some (.int r)) h2 := by
  unfold fX10_byteAt at hf
  by_cases c0 : hp_rcv h a0 11 = false
  · rw [if_pos c0] at hf; cases hf
  rw [if_neg c0] at hf
  refine ⟨(Bool.not_eq_false _).mp c0, ?_⟩
  exact Rn.of2 me_X10_byteAt (by simp [lg_sl, rt_cat, cat_i, cat_l]) (ok_i _) (l := [(0, va_rf a0), (1, .int a1)]) (by simp [lv_args, rt_cat, cat_i, cat_l]) (rX10_byteAt_0 hf)
noncomputable def bX10_count_16 (E : ah_E) (s0 : Int32) (h : ah_H) : Option (Int32 × ah_H) :=
  some (s0, h)
set_option maxRecDepth 20000 in
set_option maxHeartbeats 4000000 in
theorem rX10_count_16 {X : ah_X} {d : Nat} {s0 : Int32} {h : ah_H} {r : Int32} {h2 : ah_H} (hf : bX10_count_16 X.2.2.2 s0 h = some (r, h2)) : Rt X yX10_count cX10_count 1 d 16 [] [.int s0] h (some (.int r)) h2 := by
  unfold bX10_count_16 at hf
  cases hf
  exact rt_ret (pc := 16) dX10_count_16 rfl
noncomputable def bX10_count_0 (E : ah_E) (a0 : Option Nat) (h : ah_H) : Option (Int32 × ah_H) :=
  (hp_gi h a0 11 51).bind fun v1 =>
  if v1 = 0 then
    (hp_gi h a0 11 6).bind fun v4 =>
    bX10_count_16 E v4 h
  else
  bX10_count_16 E (-4 : Int32) h
set_option maxRecDepth 20000 in
set_option maxHeartbeats 4000000 in
theorem rX10_count_0 {X : ah_X} {d : Nat} {a0 : Option Nat} {h : ah_H} {r : Int32} {h2 : ah_H} (hf : bX10_count_0 X.2.2.2 a0 h = some (r, h2)) : Rt X yX10_count cX10_count 1 d 0 [(0, va_rf a0)] [] h (some (.int r)) h2 := by
  unfold bX10_count_0 at hf
  refine rt_aload_n (pc := 0) (k0 := 0) (x := a0) 0 rfl dX10_count_0 ?_
  obtain ⟨v1, e2, hf⟩ := ob1 hf
  refine rt_gi (pc := 1) fd_X10_90 dX10_count_1 e2 ?_
  by_cases c3 : v1 = 0
  · rw [if_pos c3] at hf
    refine rt_if_eq_p (pc := 4) (x := v1) (tgt := 12) (by decide) dX10_count_4 c3 ?_
    refine rt_aload_n (pc := 12) (k0 := 0) (x := a0) 0 rfl dX10_count_12 ?_
    obtain ⟨v4, e5, hf⟩ := ob1 hf
    refine rt_gi (pc := 13) fd_X10_16 dX10_count_13 e5 ?_
    exact rt_locals (rt_sub [] rfl) (rX10_count_16 hf)
  rw [if_neg c3] at hf
  refine rt_if_eq_n (pc := 4) (x := v1) (tgt := 12) (by decide) dX10_count_4 c3 ?_
  refine rt_bipush (pc := 7) (n := -4) (v := (-4 : Int32)) (by decide) dX10_count_7 ?_
  refine rt_goto (pc := 9) (tgt := 16) (by decide) dX10_count_9 ?_
  exact rt_locals (rt_sub [] rfl) (rX10_count_16 hf)
noncomputable def fX10_count (E : ah_E) (a0 : Option Nat) (h : ah_H) : Option (Int32 × ah_H) := if hp_rcv h a0 11 = false then none else bX10_count_0 E a0 h
set_option maxRecDepth 20000 in
set_option maxHeartbeats 4000000 in
theorem sX10_count {X : ah_X} (d : Nat) (hd : 0 ≤ d) {a0 : Option Nat} {h : ah_H} {r : Int32} {h2 : ah_H} (hf : fX10_count X.2.2.2 a0 h = some (r, h2)) : hp_rcv h a0 11 = true ∧ Rn X yX10_count cX10_count 1 (some .int) d [va_rf a0] h (some (.int r)) h2 := by
  unfold fX10_count at hf
  by_cases c0 : hp_rcv h a0 11 = false
  · rw [if_pos c0] at hf; cases hf
  rw [if_neg c0] at hf
  refine ⟨(Bool.not_eq_false _).mp c0, ?_⟩
  exact Rn.of2 me_X10_count (by simp [lg_sl, rt_cat, cat_i, cat_l]) (ok_i _) (l := [(0, va_rf a0)]) (by simp [lv_args, rt_cat, cat_i, cat_l]) (rX10_count_0 hf)
noncomputable def bX10_crash_0 (E : ah_E) (a0 : Option Nat) (h : ah_H) : Option (Int32 × ah_H) :=
  (hp_gi h a0 11 51).bind fun v1 =>
  if v1 = 0 then
    (hp_pv h a0 11 51 (.int (1 : Int32))).bind fun w4 =>
    some ((0 : Int32), w4)
  else
  some ((-4 : Int32), h)
set_option maxRecDepth 20000 in
set_option maxHeartbeats 4000000 in
theorem rX10_crash_0 {X : ah_X} {d : Nat} {a0 : Option Nat} {h : ah_H} {r : Int32} {h2 : ah_H} (hf : bX10_crash_0 X.2.2.2 a0 h = some (r, h2)) : Rt X yX10_crash cX10_crash 1 d 0 [(0, va_rf a0)] [] h (some (.int r)) h2 := by
  unfold bX10_crash_0 at hf
  refine rt_aload_n (pc := 0) (k0 := 0) (x := a0) 0 rfl dX10_crash_0 ?_
  obtain ⟨v1, e2, hf⟩ := ob1 hf
  refine rt_gi (pc := 1) fd_X10_90 dX10_crash_1 e2 ?_
  by_cases c3 : v1 = 0
  · rw [if_pos c3] at hf
    refine rt_if_eq_p (pc := 4) (x := v1) (tgt := 10) (by decide) dX10_crash_4 c3 ?_
    refine rt_aload_n (pc := 10) (k0 := 0) (x := a0) 0 rfl dX10_crash_10 ?_
    refine rt_iconst (pc := 11) (n := 1) (v := (1 : Int32)) (by decide) dX10_crash_11 ?_
    obtain ⟨w4, e5, hf⟩ := ob1 hf
    refine rt_putf (pc := 12) (x := a0) fw_X10_90 (Or.inl rfl) (by decide) (by decide) dX10_crash_12 e5 ?_
    refine rt_iconst (pc := 15) (n := 0) (v := (0 : Int32)) (by decide) dX10_crash_15 ?_
    cases hf
    exact rt_ret (pc := 16) dX10_crash_16 rfl
  rw [if_neg c3] at hf
  refine rt_if_eq_n (pc := 4) (x := v1) (tgt := 10) (by decide) dX10_crash_4 c3 ?_
  refine rt_bipush (pc := 7) (n := -4) (v := (-4 : Int32)) (by decide) dX10_crash_7 ?_
  cases hf
  exact rt_ret (pc := 9) dX10_crash_9 rfl
noncomputable def fX10_crash (E : ah_E) (a0 : Option Nat) (h : ah_H) : Option (Int32 × ah_H) := if hp_rcv h a0 11 = false then none else bX10_crash_0 E a0 h
set_option maxRecDepth 20000 in
set_option maxHeartbeats 4000000 in
theorem sX10_crash {X : ah_X} (d : Nat) (hd : 0 ≤ d) {a0 : Option Nat} {h : ah_H} {r : Int32} {h2 : ah_H} (hf : fX10_crash X.2.2.2 a0 h = some (r, h2)) : hp_rcv h a0 11 = true ∧ Rn X yX10_crash cX10_crash 1 (some .int) d [va_rf a0] h (some (.int r)) h2 := by
  unfold fX10_crash at hf
  by_cases c0 : hp_rcv h a0 11 = false
  · rw [if_pos c0] at hf; cases hf
  rw [if_neg c0] at hf
  refine ⟨(Bool.not_eq_false _).mp c0, ?_⟩
  exact Rn.of2 me_X10_crash (by simp [lg_sl, rt_cat, cat_i, cat_l]) (ok_i _) (l := [(0, va_rf a0)]) (by simp [lv_args, rt_cat, cat_i, cat_l]) (rX10_crash_0 hf)
noncomputable def bX10_cut_12 (E : ah_E) (h : ah_H) : Option (Int32 × ah_H) :=
  some ((-2 : Int32), h)
set_option maxRecDepth 20000 in
set_option maxHeartbeats 4000000 in
theorem rX10_cut_12 {X : ah_X} {d : Nat}  {h : ah_H} {r : Int32} {h2 : ah_H} (hf : bX10_cut_12 X.2.2.2  h = some (r, h2)) : Rt X yX10_cut cX10_cut 2 d 12 [] [] h (some (.int r)) h2 := by
  unfold bX10_cut_12 at hf
  refine rt_bipush (pc := 12) (n := -2) (v := (-2 : Int32)) (by decide) dX10_cut_12 ?_
  cases hf
  exact rt_ret (pc := 14) dX10_cut_14 rfl
noncomputable def bX10_cut_0 (E : ah_E) (a0 : Option Nat) (a1 : Int32) (h : ah_H) : Option (Int32 × ah_H) :=
  if a1 < 0 then
    bX10_cut_12 E  h
  else
  (hp_gi h a0 11 2).bind fun v2 =>
  if a1 ≤ v2 then
    (hp_pv h a0 11 2 (.int a1)).bind fun w5 =>
    some (a1, w5)
  else
  bX10_cut_12 E  h
set_option maxRecDepth 20000 in
set_option maxHeartbeats 4000000 in
theorem rX10_cut_0 {X : ah_X} {d : Nat} {a0 : Option Nat} {a1 : Int32} {h : ah_H} {r : Int32} {h2 : ah_H} (hf : bX10_cut_0 X.2.2.2 a0 a1 h = some (r, h2)) : Rt X yX10_cut cX10_cut 2 d 0 [(0, va_rf a0), (1, .int a1)] [] h (some (.int r)) h2 := by
  unfold bX10_cut_0 at hf
  refine rt_iload_n (pc := 0) (k0 := 1) (x := a1) 1 rfl dX10_cut_0 ?_
  by_cases c1 : a1 < 0
  · rw [if_pos c1] at hf
    refine rt_if_lt_p (pc := 1) (x := a1) (tgt := 12) (by decide) dX10_cut_1 c1 ?_
    exact rt_locals (rt_sub [] rfl) (rX10_cut_12 hf)
  rw [if_neg c1] at hf
  refine rt_if_lt_n (pc := 1) (x := a1) (tgt := 12) (by decide) dX10_cut_1 c1 ?_
  refine rt_iload_n (pc := 4) (k0 := 1) (x := a1) 1 rfl dX10_cut_4 ?_
  refine rt_aload_n (pc := 5) (k0 := 0) (x := a0) 0 rfl dX10_cut_5 ?_
  obtain ⟨v2, e3, hf⟩ := ob1 hf
  refine rt_gi (pc := 6) fd_X10_9 dX10_cut_6 e3 ?_
  by_cases c4 : a1 ≤ v2
  · rw [if_pos c4] at hf
    refine rt_icmp_le_p (pc := 9) (x := a1) (z := v2) (tgt := 15) (by decide) dX10_cut_9 c4 ?_
    refine rt_aload_n (pc := 15) (k0 := 0) (x := a0) 0 rfl dX10_cut_15 ?_
    refine rt_iload_n (pc := 16) (k0 := 1) (x := a1) 1 rfl dX10_cut_16 ?_
    obtain ⟨w5, e6, hf⟩ := ob1 hf
    refine rt_putf (pc := 17) (x := a0) fw_X10_9 (Or.inl rfl) (pf_i _).1 (pf_i _).2 dX10_cut_17 e6 ?_
    refine rt_iload_n (pc := 20) (k0 := 1) (x := a1) 1 rfl dX10_cut_20 ?_
    cases hf
    exact rt_ret (pc := 21) dX10_cut_21 rfl
  rw [if_neg c4] at hf
  refine rt_icmp_le_n (pc := 9) (x := a1) (z := v2) (tgt := 15) (by decide) dX10_cut_9 c4 ?_
  exact rt_locals (rt_sub [] rfl) (rX10_cut_12 hf)
noncomputable def fX10_cut (E : ah_E) (a0 : Option Nat) (a1 : Int32) (h : ah_H) : Option (Int32 × ah_H) := if hp_rcv h a0 11 = false then none else bX10_cut_0 E a0 a1 h
set_option maxRecDepth 20000 in
set_option maxHeartbeats 4000000 in
theorem sX10_cut {X : ah_X} (d : Nat) (hd : 0 ≤ d) {a0 : Option Nat} {a1 : Int32} {h : ah_H} {r : Int32} {h2 : ah_H} (hf : fX10_cut X.2.2.2 a0 a1 h = some (r, h2)) : hp_rcv h a0 11 = true ∧ Rn X yX10_cut cX10_cut 2 (some .int) d [va_rf a0, .int a1] h (some (.int r)) h2 := by
  unfold fX10_cut at hf
  by_cases c0 : hp_rcv h a0 11 = false
  · rw [if_pos c0] at hf; cases hf
  rw [if_neg c0] at hf
  refine ⟨(Bool.not_eq_false _).mp c0, ?_⟩
  exact Rn.of2 me_X10_cut (by simp [lg_sl, rt_cat, cat_i, cat_l]) (ok_i _) (l := [(0, va_rf a0), (1, .int a1)]) (by simp [lv_args, rt_cat, cat_i, cat_l]) (rX10_cut_0 hf)
noncomputable def bX10_pagesOf_47 (E : ah_E) (kr : Option Nat → Int32 → ah_H → Option (Int32 × ah_H)) (a2 : Int32) (h : ah_H) : Option (Int32 × ah_H) :=
  some (a2, h)
set_option maxRecDepth 20000 in
set_option maxHeartbeats 4000000 in
theorem rX10_pagesOf_47 {X : ah_X} {d : Nat} {dk : Nat} {kr : Option Nat → Int32 → ah_H → Option (Int32 × ah_H)} (hkr : ∀ (d : Nat), dk ≤ d → ∀ (x0 : Option Nat) (x1 : Int32) (h : ah_H) (r : Int32) (h2 : ah_H), kr x0 x1 h = some (r, h2) → hp_rcv h x0 11 = true ∧ Rn X yX10_pagesOf cX10_pagesOf 4 (some .int) d [va_rf x0, .int x1] h (some (.int r)) h2) (hd : 0 ≤ d) (hdk : dk + 0 ≤ d) {a2 : Int32} {h : ah_H} {r : Int32} {h2 : ah_H} (hf : bX10_pagesOf_47 X.2.2.2 kr a2 h = some (r, h2)) : Rt X yX10_pagesOf cX10_pagesOf 4 (d + 1) 47 [(2, .int a2)] [] h (some (.int r)) h2 := by
  unfold bX10_pagesOf_47 at hf
  refine rt_iload_n (pc := 47) (k0 := 2) (x := a2) 0 rfl dX10_pagesOf_47 ?_
  cases hf
  exact rt_ret (pc := 48) dX10_pagesOf_48 rfl
noncomputable def bX10_pagesOf_4 (E : ah_E) (kr : Option Nat → Int32 → ah_H → Option (Int32 × ah_H)) : Nat → Option Nat → Int32 → Int32 → Int32 → ah_H → Option (Int32 × ah_H)
  | 0 => fun _ _ _ _ _ => none
  | n + 1 => fun a0 a1 a2 a3 h =>
  (hp_gr h a0 11 53).bind fun v1 =>
  (hp_ldi h v1 a1).bind fun v3 =>
  if v3 ≤ a3 then
    bX10_pagesOf_47 E kr a2 h
  else
  (hp_gr h a0 11 52).bind fun v6 =>
  (hp_ldb h v6 a1).bind fun v8 =>
  if v8 = 0 then
    (hp_gr h a0 11 57).bind fun v11 =>
    (hp_ldi h v11 (((6 : Int32) * a1) + a3)).bind fun v13 =>
    ob2 (kr a0 v13 h) fun v17 w16 =>
    bX10_pagesOf_4 E kr n a0 a1 (a2 + v17) (a3 + 1) w16
  else
  bX10_pagesOf_47 E kr a2 h
set_option maxRecDepth 20000 in
set_option maxHeartbeats 4000000 in
theorem rX10_pagesOf_4 {X : ah_X} {d : Nat} {dk : Nat} {kr : Option Nat → Int32 → ah_H → Option (Int32 × ah_H)} (hkr : ∀ (d : Nat), dk ≤ d → ∀ (x0 : Option Nat) (x1 : Int32) (h : ah_H) (r : Int32) (h2 : ah_H), kr x0 x1 h = some (r, h2) → hp_rcv h x0 11 = true ∧ Rn X yX10_pagesOf cX10_pagesOf 4 (some .int) d [va_rf x0, .int x1] h (some (.int r)) h2) (hd : 0 ≤ d) (hdk : dk + 0 ≤ d) (n : Nat) : ∀ (a0 : Option Nat) (a1 : Int32) (a2 : Int32) (a3 : Int32) (h : ah_H) (r : Int32) (h2 : ah_H), bX10_pagesOf_4 X.2.2.2 kr n a0 a1 a2 a3 h = some (r, h2) → Rt X yX10_pagesOf cX10_pagesOf 4 (d + 1) 4 [(0, va_rf a0), (1, .int a1), (2, .int a2), (3, .int a3)] [] h (some (.int r)) h2 := by
  induction n with
  | zero => intro a0 a1 a2 a3 h r h2 hf; cases hf
  | succ n ih =>
  intro a0 a1 a2 a3 h r h2 hf
  unfold bX10_pagesOf_4 at hf
  refine rt_iload_n (pc := 4) (k0 := 3) (x := a3) 3 rfl dX10_pagesOf_4 ?_
  refine rt_aload_n (pc := 5) (k0 := 0) (x := a0) 0 rfl dX10_pagesOf_5 ?_
  obtain ⟨v1, e2, hf⟩ := ob1 hf
  refine rt_gr (pc := 6) fd_X10_203 dX10_pagesOf_6 e2 ?_
  refine rt_iload_n (pc := 9) (k0 := 1) (x := a1) 1 rfl dX10_pagesOf_9 ?_
  obtain ⟨v3, e4, hf⟩ := ob1 hf
  refine rt_iald (pc := 10) dX10_pagesOf_10 e4 ?_
  by_cases c5 : v3 ≤ a3
  · rw [if_pos c5] at hf
    refine rt_icmp_ge_p (pc := 11) (x := a3) (z := v3) (tgt := 47) (by decide) dX10_pagesOf_11 c5 ?_
    exact rt_locals (rt_sub [2] rfl) (rX10_pagesOf_47 hkr hd hdk hf)
  rw [if_neg c5] at hf
  refine rt_icmp_ge_n (pc := 11) (x := a3) (z := v3) (tgt := 47) (by decide) dX10_pagesOf_11 c5 ?_
  refine rt_aload_n (pc := 14) (k0 := 0) (x := a0) 0 rfl dX10_pagesOf_14 ?_
  obtain ⟨v6, e7, hf⟩ := ob1 hf
  refine rt_gr (pc := 15) fd_X10_200 dX10_pagesOf_15 e7 ?_
  refine rt_iload_n (pc := 18) (k0 := 1) (x := a1) 1 rfl dX10_pagesOf_18 ?_
  obtain ⟨v8, e9, hf⟩ := ob1 hf
  refine rt_bald (pc := 19) dX10_pagesOf_19 e9 ?_
  by_cases c10 : v8 = 0
  · rw [if_pos c10] at hf
    refine rt_if_ne_p (pc := 20) (x := v8) (tgt := 47) (by decide) dX10_pagesOf_20 c10 ?_
    refine rt_iload_n (pc := 23) (k0 := 2) (x := a2) 2 rfl dX10_pagesOf_23 ?_
    refine rt_aload_n (pc := 24) (k0 := 0) (x := a0) 0 rfl dX10_pagesOf_24 ?_
    refine rt_aload_n (pc := 25) (k0 := 0) (x := a0) 0 rfl dX10_pagesOf_25 ?_
    obtain ⟨v11, e12, hf⟩ := ob1 hf
    refine rt_gr (pc := 26) fd_X10_216 dX10_pagesOf_26 e12 ?_
    refine rt_bipush (pc := 29) (n := 6) (v := (6 : Int32)) (by decide) dX10_pagesOf_29 ?_
    refine rt_iload_n (pc := 31) (k0 := 1) (x := a1) 1 rfl dX10_pagesOf_31 ?_
    refine rt_imul (pc := 32) (x := (6 : Int32)) (z := a1) dX10_pagesOf_32 ?_
    refine rt_iload_n (pc := 33) (k0 := 3) (x := a3) 3 rfl dX10_pagesOf_33 ?_
    refine rt_iadd (pc := 34) (x := ((6 : Int32) * a1)) (z := a3) dX10_pagesOf_34 ?_
    obtain ⟨v13, e14, hf⟩ := ob1 hf
    refine rt_iald (pc := 35) dX10_pagesOf_35 e14 ?_
    obtain ⟨v17, w16, e15, hf⟩ := ob2_of hf
    have g18 := hkr d (by omega) _ _ _ _ _ e15
    refine rt_callV (pc := 36) (As := [.int v13]) (st := [.int a2]) me_X10_pagesOf mi_X10_pagesOf wl_X10_406 dX10_pagesOf_36 rfl (by simp [rt_cat, cat_i, cat_l]) rfl g18.1 g18.2 ?_
    refine rt_iadd (pc := 39) (x := a2) (z := v17) dX10_pagesOf_39 ?_
    refine rt_istore_n (pc := 40) (k0 := 2) (x := (a2 + v17)) (l2 := [(2, .int (a2 + v17)), (0, va_rf a0), (1, .int a1), (3, .int a3)]) (by decide) (by first | rfl | (simp [rt_cat, cat_i, cat_l]; done) | (simp [rt_cat, cat_i, cat_l]; decide)) dX10_pagesOf_40 ?_
    refine rt_iinc (pc := 41) (i := 3) (n := 1) (x := a3) (v := (a3 + 1)) (l2 := [(3, .int (a3 + 1)), (2, .int (a2 + v17)), (0, va_rf a0), (1, .int a1)]) 3 rfl rfl (by decide) (by first | rfl | (simp [rt_cat, cat_i, cat_l]; done) | (simp [rt_cat, cat_i, cat_l]; decide)) dX10_pagesOf_41 ?_
    refine rt_goto (pc := 44) (tgt := 4) (by decide) dX10_pagesOf_44 ?_
    exact rt_locals (rt_sub [2, 3, 1, 0] rfl) (ih _ _ _ _ _ _ _ hf)
  rw [if_neg c10] at hf
  refine rt_if_ne_n (pc := 20) (x := v8) (tgt := 47) (by decide) dX10_pagesOf_20 c10 ?_
  exact rt_locals (rt_sub [2] rfl) (rX10_pagesOf_47 hkr hd hdk hf)
noncomputable def bX10_pagesOf_0 (E : ah_E) (kr : Option Nat → Int32 → ah_H → Option (Int32 × ah_H)) (a0 : Option Nat) (a1 : Int32) (h : ah_H) : Option (Int32 × ah_H) :=
  bX10_pagesOf_4 E kr zf a0 a1 (1 : Int32) (0 : Int32) h
set_option maxRecDepth 20000 in
set_option maxHeartbeats 4000000 in
theorem rX10_pagesOf_0 {X : ah_X} {d : Nat} {dk : Nat} {kr : Option Nat → Int32 → ah_H → Option (Int32 × ah_H)} (hkr : ∀ (d : Nat), dk ≤ d → ∀ (x0 : Option Nat) (x1 : Int32) (h : ah_H) (r : Int32) (h2 : ah_H), kr x0 x1 h = some (r, h2) → hp_rcv h x0 11 = true ∧ Rn X yX10_pagesOf cX10_pagesOf 4 (some .int) d [va_rf x0, .int x1] h (some (.int r)) h2) (hd : 0 ≤ d) (hdk : dk + 0 ≤ d) {a0 : Option Nat} {a1 : Int32} {h : ah_H} {r : Int32} {h2 : ah_H} (hf : bX10_pagesOf_0 X.2.2.2 kr a0 a1 h = some (r, h2)) : Rt X yX10_pagesOf cX10_pagesOf 4 (d + 1) 0 [(0, va_rf a0), (1, .int a1)] [] h (some (.int r)) h2 := by
  unfold bX10_pagesOf_0 at hf
  refine rt_iconst (pc := 0) (n := 1) (v := (1 : Int32)) (by decide) dX10_pagesOf_0 ?_
  refine rt_istore_n (pc := 1) (k0 := 2) (x := (1 : Int32)) (l2 := [(2, .int (1 : Int32)), (0, va_rf a0), (1, .int a1)]) (by decide) (by first | rfl | (simp [rt_cat, cat_i, cat_l]; done) | (simp [rt_cat, cat_i, cat_l]; decide)) dX10_pagesOf_1 ?_
  refine rt_iconst (pc := 2) (n := 0) (v := (0 : Int32)) (by decide) dX10_pagesOf_2 ?_
  refine rt_istore_n (pc := 3) (k0 := 3) (x := (0 : Int32)) (l2 := [(3, .int (0 : Int32)), (2, .int (1 : Int32)), (0, va_rf a0), (1, .int a1)]) (by decide) (by first | rfl | (simp [rt_cat, cat_i, cat_l]; done) | (simp [rt_cat, cat_i, cat_l]; decide)) dX10_pagesOf_3 ?_
  exact rt_locals (rt_sub [2, 3, 1, 0] rfl) (rX10_pagesOf_4 hkr hd hdk zf _ _ _ _ _ _ _ hf)
noncomputable def gX10_pagesOf (E : ah_E) (kr : Option Nat → Int32 → ah_H → Option (Int32 × ah_H)) (a0 : Option Nat) (a1 : Int32) (h : ah_H) : Option (Int32 × ah_H) := if hp_rcv h a0 11 = false then none else bX10_pagesOf_0 E kr a0 a1 h
set_option maxRecDepth 20000 in
set_option maxHeartbeats 4000000 in
theorem tX10_pagesOf {X : ah_X} {dk : Nat} {kr : Option Nat → Int32 → ah_H → Option (Int32 × ah_H)} (hkr : ∀ (d : Nat), dk ≤ d → ∀ (x0 : Option Nat) (x1 : Int32) (h : ah_H) (r : Int32) (h2 : ah_H), kr x0 x1 h = some (r, h2) → hp_rcv h x0 11 = true ∧ Rn X yX10_pagesOf cX10_pagesOf 4 (some .int) d [va_rf x0, .int x1] h (some (.int r)) h2) (d : Nat) (hdk : dk + 1 ≤ d) (hd : 1 ≤ d) {a0 : Option Nat} {a1 : Int32} {h : ah_H} {r : Int32} {h2 : ah_H} (hf : gX10_pagesOf X.2.2.2 kr a0 a1 h = some (r, h2)) : hp_rcv h a0 11 = true ∧ Rn X yX10_pagesOf cX10_pagesOf 4 (some .int) d [va_rf a0, .int a1] h (some (.int r)) h2 := by
  unfold gX10_pagesOf at hf
  by_cases c0 : hp_rcv h a0 11 = false
  · rw [if_pos c0] at hf; cases hf
  rw [if_neg c0] at hf
  refine ⟨(Bool.not_eq_false _).mp c0, ?_⟩
  obtain ⟨d, rfl⟩ : ∃ k, d = k + 1 := ⟨d - 1, by omega⟩
  exact Rn.of2 me_X10_pagesOf (by simp [lg_sl, rt_cat, cat_i, cat_l]) (ok_i _) (l := [(0, va_rf a0), (1, .int a1)]) (by simp [lv_args, rt_cat, cat_i, cat_l]) (rX10_pagesOf_0 hkr (by omega) (by omega) hf)
noncomputable def fX10_pagesOf (E : ah_E) : Nat → Option Nat → Int32 → ah_H → Option (Int32 × ah_H)
  | 0 => fun _ _ _ => none
  | n + 1 => fun a0 a1 h => gX10_pagesOf E (fX10_pagesOf E n) a0 a1 h
set_option maxRecDepth 20000 in
set_option maxHeartbeats 4000000 in
theorem sX10_pagesOf {X : ah_X} (n : Nat) : ∀ (d : Nat), 1 + 1 * n ≤ d → ∀ (a0 : Option Nat) (a1 : Int32) (h : ah_H) (r : Int32) (h2 : ah_H), fX10_pagesOf X.2.2.2 n a0 a1 h = some (r, h2) → hp_rcv h a0 11 = true ∧ Rn X yX10_pagesOf cX10_pagesOf 4 (some .int) d [va_rf a0, .int a1] h (some (.int r)) h2 := by
  induction n with
  | zero => intro d hd a0 a1 h r h2 hf; cases hf
  | succ n ih =>
    intro d hd a0 a1 h r h2 hf
    exact tX10_pagesOf (dk := 1 + 1 * n) ih d (by omega) (by omega) hf
noncomputable def bX10_disk_18 (E : ah_E) (h : ah_H) : Option (Int32 × ah_H) :=
  some ((-1 : Int32), h)
set_option maxRecDepth 20000 in
set_option maxHeartbeats 4000000 in
theorem rX10_disk_18 {X : ah_X} {d : Nat} (hd : 46 ≤ d)  {h : ah_H} {r : Int32} {h2 : ah_H} (hf : bX10_disk_18 X.2.2.2  h = some (r, h2)) : Rt X yX10_disk cX10_disk 3 (d + 1) 18 [] [] h (some (.int r)) h2 := by
  unfold bX10_disk_18 at hf
  refine rt_iconst (pc := 18) (n := -1) (v := (-1 : Int32)) (by decide) dX10_disk_18 ?_
  cases hf
  exact rt_ret (pc := 19) dX10_disk_19 rfl
noncomputable def bX10_disk_0 (E : ah_E) (a0 : Option Nat) (a1 : Int32) (a2 : Int32) (h : ah_H) : Option (Int32 × ah_H) :=
  if a1 < 0 then
    bX10_disk_18 E  h
  else
  if (1 : Int32) < a1 then
    bX10_disk_18 E  h
  else
  if a2 < 0 then
    bX10_disk_18 E  h
  else
  if a2 ≤ (3 : Int32) then
    (hp_gr h a0 11 62).bind fun v5 =>
    (hp_ldi h v5 a1).bind fun v7 =>
    if v7 = 0 then
      some ((0 : Int32), h)
    else
    if a2 = 0 then
      (hp_gr h a0 11 62).bind fun v11 =>
      (hp_ldi h v11 a1).bind fun v13 =>
      some (v13, h)
    else
    if a2 = 1 then
      (hp_gr h a0 11 64).bind fun v16 =>
      (hp_ldi h v16 a1).bind fun v18 =>
      some (v18, h)
    else
    if a2 = 2 then
      (hp_gr h a0 11 65).bind fun v21 =>
      (hp_ldi h v21 a1).bind fun v23 =>
      some (v23, h)
    else
    (hp_gr h a0 11 63).bind fun v25 =>
    (hp_ldi h v25 a1).bind fun v27 =>
    ob2 (fX10_pagesOf E zd a0 v27 h) fun v31 w30 =>
    some (v31, w30)
  else
  bX10_disk_18 E  h
set_option maxRecDepth 20000 in
set_option maxHeartbeats 4000000 in
theorem rX10_disk_0 {X : ah_X} {d : Nat} (hd : 46 ≤ d) {a0 : Option Nat} {a1 : Int32} {a2 : Int32} {h : ah_H} {r : Int32} {h2 : ah_H} (hf : bX10_disk_0 X.2.2.2 a0 a1 a2 h = some (r, h2)) : Rt X yX10_disk cX10_disk 3 (d + 1) 0 [(0, va_rf a0), (1, .int a1), (2, .int a2)] [] h (some (.int r)) h2 := by
  unfold bX10_disk_0 at hf
  refine rt_iload_n (pc := 0) (k0 := 1) (x := a1) 1 rfl dX10_disk_0 ?_
  by_cases c1 : a1 < 0
  · rw [if_pos c1] at hf
    refine rt_if_lt_p (pc := 1) (x := a1) (tgt := 18) (by decide) dX10_disk_1 c1 ?_
    exact rt_locals (rt_sub [] rfl) (rX10_disk_18 hd hf)
  rw [if_neg c1] at hf
  refine rt_if_lt_n (pc := 1) (x := a1) (tgt := 18) (by decide) dX10_disk_1 c1 ?_
  refine rt_iload_n (pc := 4) (k0 := 1) (x := a1) 1 rfl dX10_disk_4 ?_
  refine rt_iconst (pc := 5) (n := 1) (v := (1 : Int32)) (by decide) dX10_disk_5 ?_
  by_cases c2 : (1 : Int32) < a1
  · rw [if_pos c2] at hf
    refine rt_icmp_gt_p (pc := 6) (x := a1) (z := (1 : Int32)) (tgt := 18) (by decide) dX10_disk_6 c2 ?_
    exact rt_locals (rt_sub [] rfl) (rX10_disk_18 hd hf)
  rw [if_neg c2] at hf
  refine rt_icmp_gt_n (pc := 6) (x := a1) (z := (1 : Int32)) (tgt := 18) (by decide) dX10_disk_6 c2 ?_
  refine rt_iload_n (pc := 9) (k0 := 2) (x := a2) 2 rfl dX10_disk_9 ?_
  by_cases c3 : a2 < 0
  · rw [if_pos c3] at hf
    refine rt_if_lt_p (pc := 10) (x := a2) (tgt := 18) (by decide) dX10_disk_10 c3 ?_
    exact rt_locals (rt_sub [] rfl) (rX10_disk_18 hd hf)
  rw [if_neg c3] at hf
  refine rt_if_lt_n (pc := 10) (x := a2) (tgt := 18) (by decide) dX10_disk_10 c3 ?_
  refine rt_iload_n (pc := 13) (k0 := 2) (x := a2) 2 rfl dX10_disk_13 ?_
  refine rt_iconst (pc := 14) (n := 3) (v := (3 : Int32)) (by decide) dX10_disk_14 ?_
  by_cases c4 : a2 ≤ (3 : Int32)
  · rw [if_pos c4] at hf
    refine rt_icmp_le_p (pc := 15) (x := a2) (z := (3 : Int32)) (tgt := 20) (by decide) dX10_disk_15 c4 ?_
    refine rt_aload_n (pc := 20) (k0 := 0) (x := a0) 0 rfl dX10_disk_20 ?_
    obtain ⟨v5, e6, hf⟩ := ob1 hf
    refine rt_gr (pc := 21) fd_X10_231 dX10_disk_21 e6 ?_
    refine rt_iload_n (pc := 24) (k0 := 1) (x := a1) 1 rfl dX10_disk_24 ?_
    obtain ⟨v7, e8, hf⟩ := ob1 hf
    refine rt_iald (pc := 25) dX10_disk_25 e8 ?_
    by_cases c9 : v7 = 0
    · rw [if_pos c9] at hf
      refine rt_if_ne_p (pc := 26) (x := v7) (tgt := 31) (by decide) dX10_disk_26 c9 ?_
      refine rt_iconst (pc := 29) (n := 0) (v := (0 : Int32)) (by decide) dX10_disk_29 ?_
      cases hf
      exact rt_ret (pc := 30) dX10_disk_30 rfl
    rw [if_neg c9] at hf
    refine rt_if_ne_n (pc := 26) (x := v7) (tgt := 31) (by decide) dX10_disk_26 c9 ?_
    refine rt_iload_n (pc := 31) (k0 := 2) (x := a2) 2 rfl dX10_disk_31 ?_
    by_cases c10 : a2 = 0
    · rw [if_pos c10] at hf
      refine rt_tableIn (pc := 32) (x := a2) (off := 28) (tgt := 60) dX10_disk_32 (by rw [c10]; decide) (by rw [c10]; decide) (by rw [c10]; rfl) (by decide) ?_
      refine rt_aload_n (pc := 60) (k0 := 0) (x := a0) 0 rfl dX10_disk_60 ?_
      obtain ⟨v11, e12, hf⟩ := ob1 hf
      refine rt_gr (pc := 61) fd_X10_231 dX10_disk_61 e12 ?_
      refine rt_iload_n (pc := 64) (k0 := 1) (x := a1) 1 rfl dX10_disk_64 ?_
      obtain ⟨v13, e14, hf⟩ := ob1 hf
      refine rt_iald (pc := 65) dX10_disk_65 e14 ?_
      cases hf
      exact rt_ret (pc := 66) dX10_disk_66 rfl
    rw [if_neg c10] at hf
    by_cases c15 : a2 = 1
    · rw [if_pos c15] at hf
      refine rt_tableIn (pc := 32) (x := a2) (off := 35) (tgt := 67) dX10_disk_32 (by rw [c15]; decide) (by rw [c15]; decide) (by rw [c15]; rfl) (by decide) ?_
      refine rt_aload_n (pc := 67) (k0 := 0) (x := a0) 0 rfl dX10_disk_67 ?_
      obtain ⟨v16, e17, hf⟩ := ob1 hf
      refine rt_gr (pc := 68) fd_X10_237 dX10_disk_68 e17 ?_
      refine rt_iload_n (pc := 71) (k0 := 1) (x := a1) 1 rfl dX10_disk_71 ?_
      obtain ⟨v18, e19, hf⟩ := ob1 hf
      refine rt_iald (pc := 72) dX10_disk_72 e19 ?_
      cases hf
      exact rt_ret (pc := 73) dX10_disk_73 rfl
    rw [if_neg c15] at hf
    by_cases c20 : a2 = 2
    · rw [if_pos c20] at hf
      refine rt_tableIn (pc := 32) (x := a2) (off := 42) (tgt := 74) dX10_disk_32 (by rw [c20]; decide) (by rw [c20]; decide) (by rw [c20]; rfl) (by decide) ?_
      refine rt_aload_n (pc := 74) (k0 := 0) (x := a0) 0 rfl dX10_disk_74 ?_
      obtain ⟨v21, e22, hf⟩ := ob1 hf
      refine rt_gr (pc := 75) fd_X10_240 dX10_disk_75 e22 ?_
      refine rt_iload_n (pc := 78) (k0 := 1) (x := a1) 1 rfl dX10_disk_78 ?_
      obtain ⟨v23, e24, hf⟩ := ob1 hf
      refine rt_iald (pc := 79) dX10_disk_79 e24 ?_
      cases hf
      exact rt_ret (pc := 80) dX10_disk_80 rfl
    rw [if_neg c20] at hf
    refine rt_tableOut (pc := 32) (x := a2) (tgt := 81) (by decide) dX10_disk_32 (by have q0 := lv_neT (a := 0) c10 (by decide); have q1 := lv_neT (a := 1) c15 (by decide); have q2 := lv_neT (a := 2) c20 (by decide); omega) ?_
    refine rt_aload_n (pc := 81) (k0 := 0) (x := a0) 0 rfl dX10_disk_81 ?_
    refine rt_aload_n (pc := 82) (k0 := 0) (x := a0) 0 rfl dX10_disk_82 ?_
    obtain ⟨v25, e26, hf⟩ := ob1 hf
    refine rt_gr (pc := 83) fd_X10_234 dX10_disk_83 e26 ?_
    refine rt_iload_n (pc := 86) (k0 := 1) (x := a1) 1 rfl dX10_disk_86 ?_
    obtain ⟨v27, e28, hf⟩ := ob1 hf
    refine rt_iald (pc := 87) dX10_disk_87 e28 ?_
    obtain ⟨v31, w30, e29, hf⟩ := ob2_of hf
    have g32 := sX10_pagesOf zd d (by unfold zd; omega) _ _ _ _ _ e29
    refine rt_callV (pc := 88) (As := [.int v27]) (st := []) me_X10_pagesOf mi_X10_pagesOf wl_X10_406 dX10_disk_88 rfl (by decide) rfl g32.1 g32.2 ?_
    cases hf
    exact rt_ret (pc := 91) dX10_disk_91 rfl
  rw [if_neg c4] at hf
  refine rt_icmp_le_n (pc := 15) (x := a2) (z := (3 : Int32)) (tgt := 20) (by decide) dX10_disk_15 c4 ?_
  exact rt_locals (rt_sub [] rfl) (rX10_disk_18 hd hf)
noncomputable def fX10_disk (E : ah_E) (a0 : Option Nat) (a1 : Int32) (a2 : Int32) (h : ah_H) : Option (Int32 × ah_H) := if hp_rcv h a0 11 = false then none else bX10_disk_0 E a0 a1 a2 h
set_option maxRecDepth 20000 in
set_option maxHeartbeats 4000000 in
theorem sX10_disk {X : ah_X} (d : Nat) (hd : 47 ≤ d) {a0 : Option Nat} {a1 : Int32} {a2 : Int32} {h : ah_H} {r : Int32} {h2 : ah_H} (hf : fX10_disk X.2.2.2 a0 a1 a2 h = some (r, h2)) : hp_rcv h a0 11 = true ∧ Rn X yX10_disk cX10_disk 3 (some .int) d [va_rf a0, .int a1, .int a2] h (some (.int r)) h2 := by
  unfold fX10_disk at hf
  by_cases c0 : hp_rcv h a0 11 = false
  · rw [if_pos c0] at hf; cases hf
  rw [if_neg c0] at hf
  refine ⟨(Bool.not_eq_false _).mp c0, ?_⟩
  obtain ⟨d, rfl⟩ : ∃ k, d = k + 1 := ⟨d - 1, by omega⟩
  exact Rn.of2 me_X10_disk (by simp [lg_sl, rt_cat, cat_i, cat_l]) (ok_i _) (l := [(0, va_rf a0), (1, .int a1), (2, .int a2)]) (by simp [lv_args, rt_cat, cat_i, cat_l]) (rX10_disk_0 (by omega) hf)
noncomputable def bX10_drop_31 (E : ah_E) (a0 : Option Nat) (a1 : Int64) (a3 : Int32) (s0 : Int32) (h : ah_H) : Option (Int32 × ah_H) :=
  (fX10_giveRoot E a0 a3 a1 a1 h).bind fun w2 =>
  some (s0, w2)
set_option maxRecDepth 20000 in
set_option maxHeartbeats 4000000 in
theorem rX10_drop_31 {X : ah_X} {d : Nat} (hd : 141 ≤ d) {a0 : Option Nat} {a1 : Int64} {a3 : Int32} {s0 : Int32} {h : ah_H} {r : Int32} {h2 : ah_H} (hf : bX10_drop_31 X.2.2.2 a0 a1 a3 s0 h = some (r, h2)) : Rt X yX10_drop cX10_drop 5 (d + 1) 31 [(0, va_rf a0), (1, .long a1), (3, .int a3)] [.int s0] h (some (.int r)) h2 := by
  unfold bX10_drop_31 at hf
  refine rt_istore (pc := 31) (i := 4) (x := s0) (l2 := [(4, .int s0), (0, va_rf a0), (1, .long a1), (3, .int a3)]) (by decide) (by first | rfl | (simp [rt_cat, cat_i, cat_l]; done) | (simp [rt_cat, cat_i, cat_l]; decide)) dX10_drop_31 ?_
  refine rt_aload_n (pc := 33) (k0 := 0) (x := a0) 1 rfl dX10_drop_33 ?_
  refine rt_iload_n (pc := 34) (k0 := 3) (x := a3) 3 rfl dX10_drop_34 ?_
  refine rt_lload_n (pc := 35) (k0 := 1) (x := a1) 2 rfl dX10_drop_35 ?_
  refine rt_lload_n (pc := 36) (k0 := 1) (x := a1) 2 rfl dX10_drop_36 ?_
  obtain ⟨w2, e1, hf⟩ := ob1 hf
  have g3 := sX10_giveRoot d (by omega) e1
  refine rt_callV (pc := 37) (As := [.int a3, .long a1, .long a1]) (st := []) me_X10_giveRoot mi_X10_giveRoot wl_X10_101 dX10_drop_37 rfl (by decide) rfl g3.1 g3.2 ?_
  refine rt_iload (pc := 40) (i := 4) (x := s0) 0 rfl dX10_drop_40 ?_
  cases hf
  exact rt_ret (pc := 42) dX10_drop_42 rfl
noncomputable def bX10_drop_0 (E : ah_E) (a0 : Option Nat) (a1 : Int64) (h : ah_H) : Option (Int32 × ah_H) :=
  (hp_gi h a0 11 51).bind fun v1 =>
  if v1 = 0 then
    ob2 (fX10_write E a0 (4 : Int32) a1 (0 : Int32) h) fun v6 w5 =>
    ob2 (fX10_actsOnMap E a0 v6 w5) fun v10 w9 =>
    if v10 = 0 then
      bX10_drop_31 E a0 a1 v6 (0 : Int32) w9
    else
    bX10_drop_31 E a0 a1 v6 (1 : Int32) w9
  else
  some ((-4 : Int32), h)
set_option maxRecDepth 20000 in
set_option maxHeartbeats 4000000 in
theorem rX10_drop_0 {X : ah_X} {d : Nat} (hd : 141 ≤ d) {a0 : Option Nat} {a1 : Int64} {h : ah_H} {r : Int32} {h2 : ah_H} (hf : bX10_drop_0 X.2.2.2 a0 a1 h = some (r, h2)) : Rt X yX10_drop cX10_drop 5 (d + 1) 0 [(0, va_rf a0), (1, .long a1)] [] h (some (.int r)) h2 := by
  unfold bX10_drop_0 at hf
  refine rt_aload_n (pc := 0) (k0 := 0) (x := a0) 0 rfl dX10_drop_0 ?_
  obtain ⟨v1, e2, hf⟩ := ob1 hf
  refine rt_gi (pc := 1) fd_X10_90 dX10_drop_1 e2 ?_
  by_cases c3 : v1 = 0
  · rw [if_pos c3] at hf
    refine rt_if_eq_p (pc := 4) (x := v1) (tgt := 10) (by decide) dX10_drop_4 c3 ?_
    refine rt_aload_n (pc := 10) (k0 := 0) (x := a0) 0 rfl dX10_drop_10 ?_
    refine rt_iconst (pc := 11) (n := 4) (v := (4 : Int32)) (by decide) dX10_drop_11 ?_
    refine rt_lload_n (pc := 12) (k0 := 1) (x := a1) 1 rfl dX10_drop_12 ?_
    refine rt_iconst (pc := 13) (n := 0) (v := (0 : Int32)) (by decide) dX10_drop_13 ?_
    obtain ⟨v6, w5, e4, hf⟩ := ob2_of hf
    have g7 := sX10_write d (by omega) e4
    refine rt_callV (pc := 14) (As := [.int (4 : Int32), .long a1, .int (0 : Int32)]) (st := []) me_X10_write mi_X10_write wl_X10_94 dX10_drop_14 rfl (by decide) rfl g7.1 g7.2 ?_
    refine rt_istore_n (pc := 17) (k0 := 3) (x := v6) (l2 := [(3, .int v6), (0, va_rf a0), (1, .long a1)]) (by decide) (by first | rfl | (simp [rt_cat, cat_i, cat_l]; done) | (simp [rt_cat, cat_i, cat_l]; decide)) dX10_drop_17 ?_
    refine rt_aload_n (pc := 18) (k0 := 0) (x := a0) 1 rfl dX10_drop_18 ?_
    refine rt_iload_n (pc := 19) (k0 := 3) (x := v6) 0 rfl dX10_drop_19 ?_
    obtain ⟨v10, w9, e8, hf⟩ := ob2_of hf
    have g11 := sX10_actsOnMap d (by omega) e8
    refine rt_callV (pc := 20) (As := [.int v6]) (st := []) me_X10_actsOnMap mi_X10_actsOnMap wl_X10_98 dX10_drop_20 rfl (by decide) rfl g11.1 g11.2 ?_
    by_cases c12 : v10 = 0
    · rw [if_pos c12] at hf
      refine rt_if_eq_p (pc := 23) (x := v10) (tgt := 30) (by decide) dX10_drop_23 c12 ?_
      refine rt_iconst (pc := 30) (n := 0) (v := (0 : Int32)) (by decide) dX10_drop_30 ?_
      exact rt_locals (rt_sub [1, 2, 0] rfl) (rX10_drop_31 hd hf)
    rw [if_neg c12] at hf
    refine rt_if_eq_n (pc := 23) (x := v10) (tgt := 30) (by decide) dX10_drop_23 c12 ?_
    refine rt_iconst (pc := 26) (n := 1) (v := (1 : Int32)) (by decide) dX10_drop_26 ?_
    refine rt_goto (pc := 27) (tgt := 31) (by decide) dX10_drop_27 ?_
    exact rt_locals (rt_sub [1, 2, 0] rfl) (rX10_drop_31 hd hf)
  rw [if_neg c3] at hf
  refine rt_if_eq_n (pc := 4) (x := v1) (tgt := 10) (by decide) dX10_drop_4 c3 ?_
  refine rt_bipush (pc := 7) (n := -4) (v := (-4 : Int32)) (by decide) dX10_drop_7 ?_
  cases hf
  exact rt_ret (pc := 9) dX10_drop_9 rfl
noncomputable def fX10_drop (E : ah_E) (a0 : Option Nat) (a1 : Int64) (h : ah_H) : Option (Int32 × ah_H) := if hp_rcv h a0 11 = false then none else bX10_drop_0 E a0 a1 h
set_option maxRecDepth 20000 in
set_option maxHeartbeats 4000000 in
theorem sX10_drop {X : ah_X} (d : Nat) (hd : 142 ≤ d) {a0 : Option Nat} {a1 : Int64} {h : ah_H} {r : Int32} {h2 : ah_H} (hf : fX10_drop X.2.2.2 a0 a1 h = some (r, h2)) : hp_rcv h a0 11 = true ∧ Rn X yX10_drop cX10_drop 5 (some .int) d [va_rf a0, .long a1] h (some (.int r)) h2 := by
  unfold fX10_drop at hf
  by_cases c0 : hp_rcv h a0 11 = false
  · rw [if_pos c0] at hf; cases hf
  rw [if_neg c0] at hf
  refine ⟨(Bool.not_eq_false _).mp c0, ?_⟩
  obtain ⟨d, rfl⟩ : ∃ k, d = k + 1 := ⟨d - 1, by omega⟩
  exact Rn.of2 me_X10_drop (by simp [lg_sl, rt_cat, cat_i, cat_l]) (ok_i _) (l := [(0, va_rf a0), (1, .long a1)]) (by simp [lv_args, rt_cat, cat_i, cat_l]) (rX10_drop_0 (by omega) hf)
noncomputable def bX10_fall_11 (E : ah_E) (h : ah_H) : Option (Int32 × ah_H) :=
  some ((-2 : Int32), h)
set_option maxRecDepth 20000 in
set_option maxHeartbeats 4000000 in
theorem rX10_fall_11 {X : ah_X} {d : Nat}  {h : ah_H} {r : Int32} {h2 : ah_H} (hf : bX10_fall_11 X.2.2.2  h = some (r, h2)) : Rt X yX10_fall cX10_fall 2 d 11 [] [] h (some (.int r)) h2 := by
  unfold bX10_fall_11 at hf
  refine rt_bipush (pc := 11) (n := -2) (v := (-2 : Int32)) (by decide) dX10_fall_11 ?_
  cases hf
  exact rt_ret (pc := 13) dX10_fall_13 rfl
noncomputable def bX10_fall_0 (E : ah_E) (a0 : Option Nat) (a1 : Int32) (h : ah_H) : Option (Int32 × ah_H) :=
  if a1 < 0 then
    bX10_fall_11 E  h
  else
  if a1 ≤ (10000 : Int32) then
    (hp_pv h a0 11 74 (.int a1)).bind fun w3 =>
    some (a1, w3)
  else
  bX10_fall_11 E  h
set_option maxRecDepth 20000 in
set_option maxHeartbeats 4000000 in
theorem rX10_fall_0 {X : ah_X} {d : Nat} {a0 : Option Nat} {a1 : Int32} {h : ah_H} {r : Int32} {h2 : ah_H} (hf : bX10_fall_0 X.2.2.2 a0 a1 h = some (r, h2)) : Rt X yX10_fall cX10_fall 2 d 0 [(0, va_rf a0), (1, .int a1)] [] h (some (.int r)) h2 := by
  unfold bX10_fall_0 at hf
  refine rt_iload_n (pc := 0) (k0 := 1) (x := a1) 1 rfl dX10_fall_0 ?_
  by_cases c1 : a1 < 0
  · rw [if_pos c1] at hf
    refine rt_if_lt_p (pc := 1) (x := a1) (tgt := 11) (by decide) dX10_fall_1 c1 ?_
    exact rt_locals (rt_sub [] rfl) (rX10_fall_11 hf)
  rw [if_neg c1] at hf
  refine rt_if_lt_n (pc := 1) (x := a1) (tgt := 11) (by decide) dX10_fall_1 c1 ?_
  refine rt_iload_n (pc := 4) (k0 := 1) (x := a1) 1 rfl dX10_fall_4 ?_
  refine rt_sipush (pc := 5) (n := 10000) (v := (10000 : Int32)) (by decide) dX10_fall_5 ?_
  by_cases c2 : a1 ≤ (10000 : Int32)
  · rw [if_pos c2] at hf
    refine rt_icmp_le_p (pc := 8) (x := a1) (z := (10000 : Int32)) (tgt := 14) (by decide) dX10_fall_8 c2 ?_
    refine rt_aload_n (pc := 14) (k0 := 0) (x := a0) 0 rfl dX10_fall_14 ?_
    refine rt_iload_n (pc := 15) (k0 := 1) (x := a1) 1 rfl dX10_fall_15 ?_
    obtain ⟨w3, e4, hf⟩ := ob1 hf
    refine rt_putf (pc := 16) (x := a0) fw_X10_369 (Or.inl rfl) (pf_i _).1 (pf_i _).2 dX10_fall_16 e4 ?_
    refine rt_iload_n (pc := 19) (k0 := 1) (x := a1) 1 rfl dX10_fall_19 ?_
    cases hf
    exact rt_ret (pc := 20) dX10_fall_20 rfl
  rw [if_neg c2] at hf
  refine rt_icmp_le_n (pc := 8) (x := a1) (z := (10000 : Int32)) (tgt := 14) (by decide) dX10_fall_8 c2 ?_
  exact rt_locals (rt_sub [] rfl) (rX10_fall_11 hf)
noncomputable def fX10_fall (E : ah_E) (a0 : Option Nat) (a1 : Int32) (h : ah_H) : Option (Int32 × ah_H) := if hp_rcv h a0 11 = false then none else bX10_fall_0 E a0 a1 h
set_option maxRecDepth 20000 in
set_option maxHeartbeats 4000000 in
theorem sX10_fall {X : ah_X} (d : Nat) (hd : 0 ≤ d) {a0 : Option Nat} {a1 : Int32} {h : ah_H} {r : Int32} {h2 : ah_H} (hf : fX10_fall X.2.2.2 a0 a1 h = some (r, h2)) : hp_rcv h a0 11 = true ∧ Rn X yX10_fall cX10_fall 2 (some .int) d [va_rf a0, .int a1] h (some (.int r)) h2 := by
  unfold fX10_fall at hf
  by_cases c0 : hp_rcv h a0 11 = false
  · rw [if_pos c0] at hf; cases hf
  rw [if_neg c0] at hf
  refine ⟨(Bool.not_eq_false _).mp c0, ?_⟩
  exact Rn.of2 me_X10_fall (by simp [lg_sl, rt_cat, cat_i, cat_l]) (ok_i _) (l := [(0, va_rf a0), (1, .int a1)]) (by simp [lv_args, rt_cat, cat_i, cat_l]) (rX10_fall_0 hf)
noncomputable def bX10_feed_22 (E : ah_E) (h : ah_H) : Option (Int32 × ah_H) :=
  some ((-2 : Int32), h)
set_option maxRecDepth 20000 in
set_option maxHeartbeats 4000000 in
theorem rX10_feed_22 {X : ah_X} {d : Nat}  {h : ah_H} {r : Int32} {h2 : ah_H} (hf : bX10_feed_22 X.2.2.2  h = some (r, h2)) : Rt X yX10_feed cX10_feed 5 d 22 [] [] h (some (.int r)) h2 := by
  unfold bX10_feed_22 at hf
  refine rt_bipush (pc := 22) (n := -2) (v := (-2 : Int32)) (by decide) dX10_feed_22 ?_
  cases hf
  exact rt_ret (pc := 24) dX10_feed_24 rfl
noncomputable def bX10_feed_30 (E : ah_E) : Nat → Option Nat → Int64 → Int32 → ah_H → Option (Int32 × ah_H)
  | 0 => fun _ _ _ _ => none
  | n + 1 => fun a0 a1 a4 h =>
  if a4 < 0 then
    (hp_gi h a0 11 2).bind fun v2 =>
    some (v2, h)
  else
  (hp_gr h a0 11 1).bind fun v4 =>
  (hp_gi h a0 11 2).bind fun v6 =>
  (hp_stb h v4 v6 ((((a1 >>> (((8 : Int32) * a4).toInt64 &&& 63))).toInt32).toInt8.toInt32)).bind fun w8 =>
  (hp_gi w8 a0 11 2).bind fun v10 =>
  (hp_pv w8 a0 11 2 (.int (v10 + (1 : Int32)))).bind fun w12 =>
  bX10_feed_30 E n a0 a1 (a4 + (-1)) w12
set_option maxRecDepth 20000 in
set_option maxHeartbeats 4000000 in
theorem rX10_feed_30 {X : ah_X} {d : Nat} (n : Nat) : ∀ (a0 : Option Nat) (a1 : Int64) (a4 : Int32) (h : ah_H) (r : Int32) (h2 : ah_H), bX10_feed_30 X.2.2.2 n a0 a1 a4 h = some (r, h2) → Rt X yX10_feed cX10_feed 5 d 30 [(0, va_rf a0), (1, .long a1), (4, .int a4)] [] h (some (.int r)) h2 := by
  induction n with
  | zero => intro a0 a1 a4 h r h2 hf; cases hf
  | succ n ih =>
  intro a0 a1 a4 h r h2 hf
  unfold bX10_feed_30 at hf
  refine rt_iload (pc := 30) (i := 4) (x := a4) 2 rfl dX10_feed_30 ?_
  by_cases c1 : a4 < 0
  · rw [if_pos c1] at hf
    refine rt_if_lt_p (pc := 32) (x := a4) (tgt := 69) (by decide) dX10_feed_32 c1 ?_
    refine rt_aload_n (pc := 69) (k0 := 0) (x := a0) 0 rfl dX10_feed_69 ?_
    obtain ⟨v2, e3, hf⟩ := ob1 hf
    refine rt_gi (pc := 70) fd_X10_9 dX10_feed_70 e3 ?_
    cases hf
    exact rt_ret (pc := 73) dX10_feed_73 rfl
  rw [if_neg c1] at hf
  refine rt_if_lt_n (pc := 32) (x := a4) (tgt := 69) (by decide) dX10_feed_32 c1 ?_
  refine rt_aload_n (pc := 35) (k0 := 0) (x := a0) 0 rfl dX10_feed_35 ?_
  obtain ⟨v4, e5, hf⟩ := ob1 hf
  refine rt_gr (pc := 36) fd_X10_12 dX10_feed_36 e5 ?_
  refine rt_aload_n (pc := 39) (k0 := 0) (x := a0) 0 rfl dX10_feed_39 ?_
  obtain ⟨v6, e7, hf⟩ := ob1 hf
  refine rt_gi (pc := 40) fd_X10_9 dX10_feed_40 e7 ?_
  refine rt_lload_n (pc := 43) (k0 := 1) (x := a1) 1 rfl dX10_feed_43 ?_
  refine rt_bipush (pc := 44) (n := 8) (v := (8 : Int32)) (by decide) dX10_feed_44 ?_
  refine rt_iload (pc := 46) (i := 4) (x := a4) 2 rfl dX10_feed_46 ?_
  refine rt_imul (pc := 48) (x := (8 : Int32)) (z := a4) dX10_feed_48 ?_
  refine rt_lshr (pc := 49) (x := a1) (z := ((8 : Int32) * a4)) dX10_feed_49 ?_
  refine rt_l2i (pc := 50) (x := (a1 >>> (((8 : Int32) * a4).toInt64 &&& 63))) dX10_feed_50 ?_
  refine rt_i2b (pc := 51) (x := ((a1 >>> (((8 : Int32) * a4).toInt64 &&& 63))).toInt32) dX10_feed_51 ?_
  obtain ⟨w8, e9, hf⟩ := ob1 hf
  refine rt_bast (pc := 52) dX10_feed_52 e9 ?_
  refine rt_aload_n (pc := 53) (k0 := 0) (x := a0) 0 rfl dX10_feed_53 ?_
  refine rt_dup (pc := 54) (rt_cat _) dX10_feed_54 ?_
  obtain ⟨v10, e11, hf⟩ := ob1 hf
  refine rt_gi (pc := 55) fd_X10_9 dX10_feed_55 e11 ?_
  refine rt_iconst (pc := 58) (n := 1) (v := (1 : Int32)) (by decide) dX10_feed_58 ?_
  refine rt_iadd (pc := 59) (x := v10) (z := (1 : Int32)) dX10_feed_59 ?_
  obtain ⟨w12, e13, hf⟩ := ob1 hf
  refine rt_putf (pc := 60) (x := a0) fw_X10_9 (Or.inl rfl) (pf_i _).1 (pf_i _).2 dX10_feed_60 e13 ?_
  refine rt_iinc (pc := 63) (i := 4) (n := -1) (x := a4) (v := (a4 + (-1))) (l2 := [(4, .int (a4 + (-1))), (0, va_rf a0), (1, .long a1)]) 2 rfl rfl (by decide) (by first | rfl | (simp [rt_cat, cat_i, cat_l]; done) | (simp [rt_cat, cat_i, cat_l]; decide)) dX10_feed_63 ?_
  refine rt_goto (pc := 66) (tgt := 30) (by decide) dX10_feed_66 ?_
  exact rt_locals (rt_sub [1, 2, 0] rfl) (ih _ _ _ _ _ _ hf)
noncomputable def bX10_feed_0 (E : ah_E) (a0 : Option Nat) (a1 : Int64) (a3 : Int32) (h : ah_H) : Option (Int32 × ah_H) :=
  if a3 < (1 : Int32) then
    bX10_feed_22 E  h
  else
  if (8 : Int32) < a3 then
    bX10_feed_22 E  h
  else
  (hp_gi h a0 11 2).bind fun v3 =>
  if (v3 + a3) ≤ (40 : Int32) then
    bX10_feed_30 E zf a0 a1 (a3 - (1 : Int32)) h
  else
  bX10_feed_22 E  h
set_option maxRecDepth 20000 in
set_option maxHeartbeats 4000000 in
theorem rX10_feed_0 {X : ah_X} {d : Nat} {a0 : Option Nat} {a1 : Int64} {a3 : Int32} {h : ah_H} {r : Int32} {h2 : ah_H} (hf : bX10_feed_0 X.2.2.2 a0 a1 a3 h = some (r, h2)) : Rt X yX10_feed cX10_feed 5 d 0 [(0, va_rf a0), (1, .long a1), (3, .int a3)] [] h (some (.int r)) h2 := by
  unfold bX10_feed_0 at hf
  refine rt_iload_n (pc := 0) (k0 := 3) (x := a3) 2 rfl dX10_feed_0 ?_
  refine rt_iconst (pc := 1) (n := 1) (v := (1 : Int32)) (by decide) dX10_feed_1 ?_
  by_cases c1 : a3 < (1 : Int32)
  · rw [if_pos c1] at hf
    refine rt_icmp_lt_p (pc := 2) (x := a3) (z := (1 : Int32)) (tgt := 22) (by decide) dX10_feed_2 c1 ?_
    exact rt_locals (rt_sub [] rfl) (rX10_feed_22 hf)
  rw [if_neg c1] at hf
  refine rt_icmp_lt_n (pc := 2) (x := a3) (z := (1 : Int32)) (tgt := 22) (by decide) dX10_feed_2 c1 ?_
  refine rt_iload_n (pc := 5) (k0 := 3) (x := a3) 2 rfl dX10_feed_5 ?_
  refine rt_bipush (pc := 6) (n := 8) (v := (8 : Int32)) (by decide) dX10_feed_6 ?_
  by_cases c2 : (8 : Int32) < a3
  · rw [if_pos c2] at hf
    refine rt_icmp_gt_p (pc := 8) (x := a3) (z := (8 : Int32)) (tgt := 22) (by decide) dX10_feed_8 c2 ?_
    exact rt_locals (rt_sub [] rfl) (rX10_feed_22 hf)
  rw [if_neg c2] at hf
  refine rt_icmp_gt_n (pc := 8) (x := a3) (z := (8 : Int32)) (tgt := 22) (by decide) dX10_feed_8 c2 ?_
  refine rt_aload_n (pc := 11) (k0 := 0) (x := a0) 0 rfl dX10_feed_11 ?_
  obtain ⟨v3, e4, hf⟩ := ob1 hf
  refine rt_gi (pc := 12) fd_X10_9 dX10_feed_12 e4 ?_
  refine rt_iload_n (pc := 15) (k0 := 3) (x := a3) 2 rfl dX10_feed_15 ?_
  refine rt_iadd (pc := 16) (x := v3) (z := a3) dX10_feed_16 ?_
  refine rt_bipush (pc := 17) (n := 40) (v := (40 : Int32)) (by decide) dX10_feed_17 ?_
  by_cases c5 : (v3 + a3) ≤ (40 : Int32)
  · rw [if_pos c5] at hf
    refine rt_icmp_le_p (pc := 19) (x := (v3 + a3)) (z := (40 : Int32)) (tgt := 25) (by decide) dX10_feed_19 c5 ?_
    refine rt_iload_n (pc := 25) (k0 := 3) (x := a3) 2 rfl dX10_feed_25 ?_
    refine rt_iconst (pc := 26) (n := 1) (v := (1 : Int32)) (by decide) dX10_feed_26 ?_
    refine rt_isub (pc := 27) (x := a3) (z := (1 : Int32)) dX10_feed_27 ?_
    refine rt_istore (pc := 28) (i := 4) (x := (a3 - (1 : Int32))) (l2 := [(4, .int (a3 - (1 : Int32))), (0, va_rf a0), (1, .long a1), (3, .int a3)]) (by decide) (by first | rfl | (simp [rt_cat, cat_i, cat_l]; done) | (simp [rt_cat, cat_i, cat_l]; decide)) dX10_feed_28 ?_
    exact rt_locals (rt_sub [1, 2, 0] rfl) (rX10_feed_30 zf _ _ _ _ _ _ hf)
  rw [if_neg c5] at hf
  refine rt_icmp_le_n (pc := 19) (x := (v3 + a3)) (z := (40 : Int32)) (tgt := 25) (by decide) dX10_feed_19 c5 ?_
  exact rt_locals (rt_sub [] rfl) (rX10_feed_22 hf)
noncomputable def fX10_feed (E : ah_E) (a0 : Option Nat) (a1 : Int64) (a3 : Int32) (h : ah_H) : Option (Int32 × ah_H) := if hp_rcv h a0 11 = false then none else bX10_feed_0 E a0 a1 a3 h
set_option maxRecDepth 20000 in
set_option maxHeartbeats 4000000 in
theorem sX10_feed {X : ah_X} (d : Nat) (hd : 0 ≤ d) {a0 : Option Nat} {a1 : Int64} {a3 : Int32} {h : ah_H} {r : Int32} {h2 : ah_H} (hf : fX10_feed X.2.2.2 a0 a1 a3 h = some (r, h2)) : hp_rcv h a0 11 = true ∧ Rn X yX10_feed cX10_feed 5 (some .int) d [va_rf a0, .long a1, .int a3] h (some (.int r)) h2 := by
  unfold fX10_feed at hf
  by_cases c0 : hp_rcv h a0 11 = false
  · rw [if_pos c0] at hf; cases hf
  rw [if_neg c0] at hf
  refine ⟨(Bool.not_eq_false _).mp c0, ?_⟩
  exact Rn.of2 me_X10_feed (by simp [lg_sl, rt_cat, cat_i, cat_l]) (ok_i _) (l := [(0, va_rf a0), (1, .long a1), (3, .int a3)]) (by simp [lv_args, rt_cat, cat_i, cat_l]) (rX10_feed_0 hf)
noncomputable def bX10_found_0 (E : ah_E) (a0 : Option Nat) (h : ah_H) : Option (Int64 × ah_H) :=
  (hp_gl h a0 11 7).bind fun v1 =>
  some (v1, h)
set_option maxRecDepth 20000 in
set_option maxHeartbeats 4000000 in
theorem rX10_found_0 {X : ah_X} {d : Nat} {a0 : Option Nat} {h : ah_H} {r : Int64} {h2 : ah_H} (hf : bX10_found_0 X.2.2.2 a0 h = some (r, h2)) : Rt X yX10_found cX10_found 1 d 0 [(0, va_rf a0)] [] h (some (.long r)) h2 := by
  unfold bX10_found_0 at hf
  refine rt_aload_n (pc := 0) (k0 := 0) (x := a0) 0 rfl dX10_found_0 ?_
  obtain ⟨v1, e2, hf⟩ := ob1 hf
  refine rt_gl (pc := 1) fd_X10_107 dX10_found_1 e2 ?_
  cases hf
  exact rt_ret (pc := 4) dX10_found_4 rfl
noncomputable def fX10_found (E : ah_E) (a0 : Option Nat) (h : ah_H) : Option (Int64 × ah_H) := if hp_rcv h a0 11 = false then none else bX10_found_0 E a0 h
set_option maxRecDepth 20000 in
set_option maxHeartbeats 4000000 in
theorem sX10_found {X : ah_X} (d : Nat) (hd : 0 ≤ d) {a0 : Option Nat} {h : ah_H} {r : Int64} {h2 : ah_H} (hf : fX10_found X.2.2.2 a0 h = some (r, h2)) : hp_rcv h a0 11 = true ∧ Rn X yX10_found cX10_found 1 (some .long) d [va_rf a0] h (some (.long r)) h2 := by
  unfold fX10_found at hf
  by_cases c0 : hp_rcv h a0 11 = false
  · rw [if_pos c0] at hf; cases hf
  rw [if_neg c0] at hf
  refine ⟨(Bool.not_eq_false _).mp c0, ?_⟩
  exact Rn.of2 me_X10_found (by simp [lg_sl, rt_cat, cat_i, cat_l]) rfl (l := [(0, va_rf a0)]) (by simp [lv_args, rt_cat, cat_i, cat_l]) (rX10_found_0 hf)
noncomputable def bX10_spreadChanges_47 (E : ah_E) (k11 : Option Nat → Int32 → ah_H → Option ah_H) (a0 : Option Nat) (a1 : Int32) (h : ah_H) : Option ah_H :=
  k11 a0 (a1 + (-1)) h
set_option maxRecDepth 20000 in
set_option maxHeartbeats 4000000 in
theorem rX10_spreadChanges_47 {X : ah_X} {d : Nat} (hd : 47 ≤ d) {k11 : Option Nat → Int32 → ah_H → Option ah_H} (hk11 : ∀ (x0 : Option Nat) (x1 : Int32) (h : ah_H) (h2 : ah_H), k11 x0 x1 h = some h2 → Rt X yX10_spreadChanges cX10_spreadChanges 2 (d + 1) 11 [(0, va_rf x0), (1, .int x1)] [] h none h2) {a0 : Option Nat} {a1 : Int32} {h : ah_H} {h2 : ah_H} (hf : bX10_spreadChanges_47 X.2.2.2 k11 a0 a1 h = some h2) : Rt X yX10_spreadChanges cX10_spreadChanges 2 (d + 1) 47 [(0, va_rf a0), (1, .int a1)] [] h none h2 := by
  unfold bX10_spreadChanges_47 at hf
  refine rt_iinc (pc := 47) (i := 1) (n := -1) (x := a1) (v := (a1 + (-1))) (l2 := [(1, .int (a1 + (-1))), (0, va_rf a0)]) 1 rfl rfl (by decide) (by first | rfl | (simp [rt_cat, cat_i, cat_l]; done) | (simp [rt_cat, cat_i, cat_l]; decide)) dX10_spreadChanges_47 ?_
  refine rt_goto (pc := 50) (tgt := 11) (by decide) dX10_spreadChanges_50 ?_
  exact rt_locals (rt_sub [1, 0] rfl) (hk11 _ _ _ _ hf)
noncomputable def bX10_spreadChanges_11 (E : ah_E) : Nat → Option Nat → Int32 → ah_H → Option ah_H
  | 0 => fun _ _ _ => none
  | n + 1 => fun a0 a1 h =>
  if a1 ≤ 0 then
    some h
  else
  (hp_gr h a0 11 27).bind fun v2 =>
  (hp_gr h a0 11 47).bind fun v4 =>
  (hp_ldi h v4 a1).bind fun v6 =>
  (hp_ldi h v2 v6).bind fun v8 =>
  if v8 = (-1 : Int32) then
    (hp_gr h a0 11 27).bind fun v11 =>
    (hp_gr h a0 11 48).bind fun v13 =>
    (hp_gr h a0 11 47).bind fun v15 =>
    (hp_ldi h v15 a1).bind fun v17 =>
    (hp_ldi h v13 v17).bind fun v19 =>
    (hp_sti h v11 v19 (-1 : Int32)).bind fun w21 =>
    bX10_spreadChanges_47 E (bX10_spreadChanges_11 E n) a0 a1 w21
  else
  bX10_spreadChanges_47 E (bX10_spreadChanges_11 E n) a0 a1 h
set_option maxRecDepth 20000 in
set_option maxHeartbeats 4000000 in
theorem rX10_spreadChanges_11 {X : ah_X} {d : Nat} (hd : 47 ≤ d) (n : Nat) : ∀ (a0 : Option Nat) (a1 : Int32) (h : ah_H) (h2 : ah_H), bX10_spreadChanges_11 X.2.2.2 n a0 a1 h = some h2 → Rt X yX10_spreadChanges cX10_spreadChanges 2 (d + 1) 11 [(0, va_rf a0), (1, .int a1)] [] h none h2 := by
  induction n with
  | zero => intro a0 a1 h h2 hf; cases hf
  | succ n ih =>
  intro a0 a1 h h2 hf
  unfold bX10_spreadChanges_11 at hf
  refine rt_iload_n (pc := 11) (k0 := 1) (x := a1) 1 rfl dX10_spreadChanges_11 ?_
  by_cases c1 : a1 ≤ 0
  · rw [if_pos c1] at hf
    refine rt_if_le_p (pc := 12) (x := a1) (tgt := 53) (by decide) dX10_spreadChanges_12 c1 ?_
    cases hf
    exact rt_ret (pc := 53) dX10_spreadChanges_53 rfl
  rw [if_neg c1] at hf
  refine rt_if_le_n (pc := 12) (x := a1) (tgt := 53) (by decide) dX10_spreadChanges_12 c1 ?_
  refine rt_aload_n (pc := 15) (k0 := 0) (x := a0) 0 rfl dX10_spreadChanges_15 ?_
  obtain ⟨v2, e3, hf⟩ := ob1 hf
  refine rt_gr (pc := 16) fd_X10_148 dX10_spreadChanges_16 e3 ?_
  refine rt_aload_n (pc := 19) (k0 := 0) (x := a0) 0 rfl dX10_spreadChanges_19 ?_
  obtain ⟨v4, e5, hf⟩ := ob1 hf
  refine rt_gr (pc := 20) fd_X10_191 dX10_spreadChanges_20 e5 ?_
  refine rt_iload_n (pc := 23) (k0 := 1) (x := a1) 1 rfl dX10_spreadChanges_23 ?_
  obtain ⟨v6, e7, hf⟩ := ob1 hf
  refine rt_iald (pc := 24) dX10_spreadChanges_24 e7 ?_
  obtain ⟨v8, e9, hf⟩ := ob1 hf
  refine rt_iald (pc := 25) dX10_spreadChanges_25 e9 ?_
  refine rt_iconst (pc := 26) (n := -1) (v := (-1 : Int32)) (by decide) dX10_spreadChanges_26 ?_
  by_cases c10 : v8 = (-1 : Int32)
  · rw [if_pos c10] at hf
    refine rt_icmp_ne_p (pc := 27) (x := v8) (z := (-1 : Int32)) (tgt := 47) (by decide) dX10_spreadChanges_27 c10 ?_
    refine rt_aload_n (pc := 30) (k0 := 0) (x := a0) 0 rfl dX10_spreadChanges_30 ?_
    obtain ⟨v11, e12, hf⟩ := ob1 hf
    refine rt_gr (pc := 31) fd_X10_148 dX10_spreadChanges_31 e12 ?_
    refine rt_aload_n (pc := 34) (k0 := 0) (x := a0) 0 rfl dX10_spreadChanges_34 ?_
    obtain ⟨v13, e14, hf⟩ := ob1 hf
    refine rt_gr (pc := 35) fd_X10_194 dX10_spreadChanges_35 e14 ?_
    refine rt_aload_n (pc := 38) (k0 := 0) (x := a0) 0 rfl dX10_spreadChanges_38 ?_
    obtain ⟨v15, e16, hf⟩ := ob1 hf
    refine rt_gr (pc := 39) fd_X10_191 dX10_spreadChanges_39 e16 ?_
    refine rt_iload_n (pc := 42) (k0 := 1) (x := a1) 1 rfl dX10_spreadChanges_42 ?_
    obtain ⟨v17, e18, hf⟩ := ob1 hf
    refine rt_iald (pc := 43) dX10_spreadChanges_43 e18 ?_
    obtain ⟨v19, e20, hf⟩ := ob1 hf
    refine rt_iald (pc := 44) dX10_spreadChanges_44 e20 ?_
    refine rt_iconst (pc := 45) (n := -1) (v := (-1 : Int32)) (by decide) dX10_spreadChanges_45 ?_
    obtain ⟨w21, e22, hf⟩ := ob1 hf
    refine rt_iast (pc := 46) dX10_spreadChanges_46 e22 ?_
    exact rX10_spreadChanges_47 hd ih hf
  rw [if_neg c10] at hf
  refine rt_icmp_ne_n (pc := 27) (x := v8) (z := (-1 : Int32)) (tgt := 47) (by decide) dX10_spreadChanges_27 c10 ?_
  exact rX10_spreadChanges_47 hd ih hf
noncomputable def bX10_spreadChanges_0 (E : ah_E) (a0 : Option Nat) (h : ah_H) : Option ah_H :=
  (fX10_number E a0 h).bind fun w2 =>
  (hp_gi w2 a0 11 50).bind fun v4 =>
  bX10_spreadChanges_11 E zf a0 (v4 - (1 : Int32)) w2
set_option maxRecDepth 20000 in
set_option maxHeartbeats 4000000 in
theorem rX10_spreadChanges_0 {X : ah_X} {d : Nat} (hd : 47 ≤ d) {a0 : Option Nat} {h : ah_H} {h2 : ah_H} (hf : bX10_spreadChanges_0 X.2.2.2 a0 h = some h2) : Rt X yX10_spreadChanges cX10_spreadChanges 2 (d + 1) 0 [(0, va_rf a0)] [] h none h2 := by
  unfold bX10_spreadChanges_0 at hf
  refine rt_aload_n (pc := 0) (k0 := 0) (x := a0) 0 rfl dX10_spreadChanges_0 ?_
  obtain ⟨w2, e1, hf⟩ := ob1 hf
  have g3 := sX10_number d (by omega) e1
  refine rt_callV (pc := 1) (As := []) (st := []) me_X10_number mi_X10_number wl_X10_355 dX10_spreadChanges_1 rfl (by decide) rfl g3.1 g3.2 ?_
  refine rt_aload_n (pc := 4) (k0 := 0) (x := a0) 0 rfl dX10_spreadChanges_4 ?_
  obtain ⟨v4, e5, hf⟩ := ob1 hf
  refine rt_gi (pc := 5) fd_X10_349 dX10_spreadChanges_5 e5 ?_
  refine rt_iconst (pc := 8) (n := 1) (v := (1 : Int32)) (by decide) dX10_spreadChanges_8 ?_
  refine rt_isub (pc := 9) (x := v4) (z := (1 : Int32)) dX10_spreadChanges_9 ?_
  refine rt_istore_n (pc := 10) (k0 := 1) (x := (v4 - (1 : Int32))) (l2 := [(1, .int (v4 - (1 : Int32))), (0, va_rf a0)]) (by decide) (by first | rfl | (simp [rt_cat, cat_i, cat_l]; done) | (simp [rt_cat, cat_i, cat_l]; decide)) dX10_spreadChanges_10 ?_
  exact rt_locals (rt_sub [1, 0] rfl) (rX10_spreadChanges_11 hd zf _ _ _ _ hf)
noncomputable def fX10_spreadChanges (E : ah_E) (a0 : Option Nat) (h : ah_H) : Option ah_H := if hp_rcv h a0 11 = false then none else bX10_spreadChanges_0 E a0 h
set_option maxRecDepth 20000 in
set_option maxHeartbeats 4000000 in
theorem sX10_spreadChanges {X : ah_X} (d : Nat) (hd : 48 ≤ d) {a0 : Option Nat} {h : ah_H} {h2 : ah_H} (hf : fX10_spreadChanges X.2.2.2 a0 h = some h2) : hp_rcv h a0 11 = true ∧ Rn X yX10_spreadChanges cX10_spreadChanges 2 none d [va_rf a0] h none h2 := by
  unfold fX10_spreadChanges at hf
  by_cases c0 : hp_rcv h a0 11 = false
  · rw [if_pos c0] at hf; cases hf
  rw [if_neg c0] at hf
  refine ⟨(Bool.not_eq_false _).mp c0, ?_⟩
  obtain ⟨d, rfl⟩ : ∃ k, d = k + 1 := ⟨d - 1, by omega⟩
  exact Rn.of2 me_X10_spreadChanges (by simp [lg_sl, rt_cat, cat_i, cat_l]) rfl (l := [(0, va_rf a0)]) (by simp [lv_args, rt_cat, cat_i, cat_l]) (rX10_spreadChanges_0 (by omega) hf)
noncomputable def bX10_take_59 (E : ah_E) (kr : Option Nat → Int32 → ah_H → Option ah_H) (h : ah_H) : Option ah_H :=
  some h
set_option maxRecDepth 20000 in
set_option maxHeartbeats 4000000 in
theorem rX10_take_59 {X : ah_X} {d : Nat} {dk : Nat} {kr : Option Nat → Int32 → ah_H → Option ah_H} (hkr : ∀ (d : Nat), dk ≤ d → ∀ (x0 : Option Nat) (x1 : Int32) (h : ah_H) (h2 : ah_H), kr x0 x1 h = some h2 → hp_rcv h x0 11 = true ∧ Rn X yX10_take cX10_take 3 none d [va_rf x0, .int x1] h none h2) (hd : 0 ≤ d) (hdk : dk + 0 ≤ d)  {h : ah_H} {h2 : ah_H} (hf : bX10_take_59 X.2.2.2 kr  h = some h2) : Rt X yX10_take cX10_take 3 (d + 1) 59 [] [] h none h2 := by
  unfold bX10_take_59 at hf
  cases hf
  exact rt_ret (pc := 59) dX10_take_59 rfl
noncomputable def bX10_take_19 (E : ah_E) (kr : Option Nat → Int32 → ah_H → Option ah_H) : Nat → Option Nat → Int32 → Int32 → ah_H → Option ah_H
  | 0 => fun _ _ _ _ => none
  | n + 1 => fun a0 a1 a2 h =>
  (hp_gr h a0 11 53).bind fun v1 =>
  (hp_ldi h v1 a1).bind fun v3 =>
  if v3 ≤ a2 then
    bX10_take_59 E kr  h
  else
  (hp_gr h a0 11 52).bind fun v6 =>
  (hp_ldb h v6 a1).bind fun v8 =>
  if v8 = 0 then
    (hp_gr h a0 11 57).bind fun v11 =>
    (hp_ldi h v11 (((6 : Int32) * a1) + a2)).bind fun v13 =>
    (kr a0 v13 h).bind fun w16 =>
    bX10_take_19 E kr n a0 a1 (a2 + 1) w16
  else
  bX10_take_59 E kr  h
set_option maxRecDepth 20000 in
set_option maxHeartbeats 4000000 in
theorem rX10_take_19 {X : ah_X} {d : Nat} {dk : Nat} {kr : Option Nat → Int32 → ah_H → Option ah_H} (hkr : ∀ (d : Nat), dk ≤ d → ∀ (x0 : Option Nat) (x1 : Int32) (h : ah_H) (h2 : ah_H), kr x0 x1 h = some h2 → hp_rcv h x0 11 = true ∧ Rn X yX10_take cX10_take 3 none d [va_rf x0, .int x1] h none h2) (hd : 0 ≤ d) (hdk : dk + 0 ≤ d) (n : Nat) : ∀ (a0 : Option Nat) (a1 : Int32) (a2 : Int32) (h : ah_H) (h2 : ah_H), bX10_take_19 X.2.2.2 kr n a0 a1 a2 h = some h2 → Rt X yX10_take cX10_take 3 (d + 1) 19 [(0, va_rf a0), (1, .int a1), (2, .int a2)] [] h none h2 := by
  induction n with
  | zero => intro a0 a1 a2 h h2 hf; cases hf
  | succ n ih =>
  intro a0 a1 a2 h h2 hf
  unfold bX10_take_19 at hf
  refine rt_iload_n (pc := 19) (k0 := 2) (x := a2) 2 rfl dX10_take_19 ?_
  refine rt_aload_n (pc := 20) (k0 := 0) (x := a0) 0 rfl dX10_take_20 ?_
  obtain ⟨v1, e2, hf⟩ := ob1 hf
  refine rt_gr (pc := 21) fd_X10_203 dX10_take_21 e2 ?_
  refine rt_iload_n (pc := 24) (k0 := 1) (x := a1) 1 rfl dX10_take_24 ?_
  obtain ⟨v3, e4, hf⟩ := ob1 hf
  refine rt_iald (pc := 25) dX10_take_25 e4 ?_
  by_cases c5 : v3 ≤ a2
  · rw [if_pos c5] at hf
    refine rt_icmp_ge_p (pc := 26) (x := a2) (z := v3) (tgt := 59) (by decide) dX10_take_26 c5 ?_
    exact rt_locals (rt_sub [] rfl) (rX10_take_59 hkr hd hdk hf)
  rw [if_neg c5] at hf
  refine rt_icmp_ge_n (pc := 26) (x := a2) (z := v3) (tgt := 59) (by decide) dX10_take_26 c5 ?_
  refine rt_aload_n (pc := 29) (k0 := 0) (x := a0) 0 rfl dX10_take_29 ?_
  obtain ⟨v6, e7, hf⟩ := ob1 hf
  refine rt_gr (pc := 30) fd_X10_200 dX10_take_30 e7 ?_
  refine rt_iload_n (pc := 33) (k0 := 1) (x := a1) 1 rfl dX10_take_33 ?_
  obtain ⟨v8, e9, hf⟩ := ob1 hf
  refine rt_bald (pc := 34) dX10_take_34 e9 ?_
  by_cases c10 : v8 = 0
  · rw [if_pos c10] at hf
    refine rt_if_ne_p (pc := 35) (x := v8) (tgt := 59) (by decide) dX10_take_35 c10 ?_
    refine rt_aload_n (pc := 38) (k0 := 0) (x := a0) 0 rfl dX10_take_38 ?_
    refine rt_aload_n (pc := 39) (k0 := 0) (x := a0) 0 rfl dX10_take_39 ?_
    obtain ⟨v11, e12, hf⟩ := ob1 hf
    refine rt_gr (pc := 40) fd_X10_216 dX10_take_40 e12 ?_
    refine rt_bipush (pc := 43) (n := 6) (v := (6 : Int32)) (by decide) dX10_take_43 ?_
    refine rt_iload_n (pc := 45) (k0 := 1) (x := a1) 1 rfl dX10_take_45 ?_
    refine rt_imul (pc := 46) (x := (6 : Int32)) (z := a1) dX10_take_46 ?_
    refine rt_iload_n (pc := 47) (k0 := 2) (x := a2) 2 rfl dX10_take_47 ?_
    refine rt_iadd (pc := 48) (x := ((6 : Int32) * a1)) (z := a2) dX10_take_48 ?_
    obtain ⟨v13, e14, hf⟩ := ob1 hf
    refine rt_iald (pc := 49) dX10_take_49 e14 ?_
    obtain ⟨w16, e15, hf⟩ := ob1 hf
    have g17 := hkr d (by omega) _ _ _ _ e15
    refine rt_callV (pc := 50) (As := [.int v13]) (st := []) me_X10_take mi_X10_take wl_X10_360 dX10_take_50 rfl (by decide) rfl g17.1 g17.2 ?_
    refine rt_iinc (pc := 53) (i := 2) (n := 1) (x := a2) (v := (a2 + 1)) (l2 := [(2, .int (a2 + 1)), (0, va_rf a0), (1, .int a1)]) 2 rfl rfl (by decide) (by first | rfl | (simp [rt_cat, cat_i, cat_l]; done) | (simp [rt_cat, cat_i, cat_l]; decide)) dX10_take_53 ?_
    refine rt_goto (pc := 56) (tgt := 19) (by decide) dX10_take_56 ?_
    exact rt_locals (rt_sub [1, 2, 0] rfl) (ih _ _ _ _ _ hf)
  rw [if_neg c10] at hf
  refine rt_if_ne_n (pc := 35) (x := v8) (tgt := 59) (by decide) dX10_take_35 c10 ?_
  exact rt_locals (rt_sub [] rfl) (rX10_take_59 hkr hd hdk hf)
noncomputable def bX10_take_0 (E : ah_E) (kr : Option Nat → Int32 → ah_H → Option ah_H) (a0 : Option Nat) (a1 : Int32) (h : ah_H) : Option ah_H :=
  (hp_gr h a0 11 76).bind fun v1 =>
  (hp_ldb h v1 a1).bind fun v3 =>
  if v3 = 0 then
    (hp_gr h a0 11 76).bind fun v6 =>
    (hp_stb h v6 a1 (1 : Int32)).bind fun w8 =>
    bX10_take_19 E kr zf a0 a1 (0 : Int32) w8
  else
  some h
set_option maxRecDepth 20000 in
set_option maxHeartbeats 4000000 in
theorem rX10_take_0 {X : ah_X} {d : Nat} {dk : Nat} {kr : Option Nat → Int32 → ah_H → Option ah_H} (hkr : ∀ (d : Nat), dk ≤ d → ∀ (x0 : Option Nat) (x1 : Int32) (h : ah_H) (h2 : ah_H), kr x0 x1 h = some h2 → hp_rcv h x0 11 = true ∧ Rn X yX10_take cX10_take 3 none d [va_rf x0, .int x1] h none h2) (hd : 0 ≤ d) (hdk : dk + 0 ≤ d) {a0 : Option Nat} {a1 : Int32} {h : ah_H} {h2 : ah_H} (hf : bX10_take_0 X.2.2.2 kr a0 a1 h = some h2) : Rt X yX10_take cX10_take 3 (d + 1) 0 [(0, va_rf a0), (1, .int a1)] [] h none h2 := by
  unfold bX10_take_0 at hf
  refine rt_aload_n (pc := 0) (k0 := 0) (x := a0) 0 rfl dX10_take_0 ?_
  obtain ⟨v1, e2, hf⟩ := ob1 hf
  refine rt_gr (pc := 1) fd_X10_264 dX10_take_1 e2 ?_
  refine rt_iload_n (pc := 4) (k0 := 1) (x := a1) 1 rfl dX10_take_4 ?_
  obtain ⟨v3, e4, hf⟩ := ob1 hf
  refine rt_bald (pc := 5) dX10_take_5 e4 ?_
  by_cases c5 : v3 = 0
  · rw [if_pos c5] at hf
    refine rt_if_eq_p (pc := 6) (x := v3) (tgt := 10) (by decide) dX10_take_6 c5 ?_
    refine rt_aload_n (pc := 10) (k0 := 0) (x := a0) 0 rfl dX10_take_10 ?_
    obtain ⟨v6, e7, hf⟩ := ob1 hf
    refine rt_gr (pc := 11) fd_X10_264 dX10_take_11 e7 ?_
    refine rt_iload_n (pc := 14) (k0 := 1) (x := a1) 1 rfl dX10_take_14 ?_
    refine rt_iconst (pc := 15) (n := 1) (v := (1 : Int32)) (by decide) dX10_take_15 ?_
    obtain ⟨w8, e9, hf⟩ := ob1 hf
    refine rt_bast (pc := 16) dX10_take_16 e9 ?_
    refine rt_iconst (pc := 17) (n := 0) (v := (0 : Int32)) (by decide) dX10_take_17 ?_
    refine rt_istore_n (pc := 18) (k0 := 2) (x := (0 : Int32)) (l2 := [(2, .int (0 : Int32)), (0, va_rf a0), (1, .int a1)]) (by decide) (by first | rfl | (simp [rt_cat, cat_i, cat_l]; done) | (simp [rt_cat, cat_i, cat_l]; decide)) dX10_take_18 ?_
    exact rt_locals (rt_sub [1, 2, 0] rfl) (rX10_take_19 hkr hd hdk zf _ _ _ _ _ hf)
  rw [if_neg c5] at hf
  refine rt_if_eq_n (pc := 6) (x := v3) (tgt := 10) (by decide) dX10_take_6 c5 ?_
  cases hf
  exact rt_ret (pc := 9) dX10_take_9 rfl
noncomputable def gX10_take (E : ah_E) (kr : Option Nat → Int32 → ah_H → Option ah_H) (a0 : Option Nat) (a1 : Int32) (h : ah_H) : Option ah_H := if hp_rcv h a0 11 = false then none else bX10_take_0 E kr a0 a1 h
set_option maxRecDepth 20000 in
set_option maxHeartbeats 4000000 in
theorem tX10_take {X : ah_X} {dk : Nat} {kr : Option Nat → Int32 → ah_H → Option ah_H} (hkr : ∀ (d : Nat), dk ≤ d → ∀ (x0 : Option Nat) (x1 : Int32) (h : ah_H) (h2 : ah_H), kr x0 x1 h = some h2 → hp_rcv h x0 11 = true ∧ Rn X yX10_take cX10_take 3 none d [va_rf x0, .int x1] h none h2) (d : Nat) (hdk : dk + 1 ≤ d) (hd : 1 ≤ d) {a0 : Option Nat} {a1 : Int32} {h : ah_H} {h2 : ah_H} (hf : gX10_take X.2.2.2 kr a0 a1 h = some h2) : hp_rcv h a0 11 = true ∧ Rn X yX10_take cX10_take 3 none d [va_rf a0, .int a1] h none h2 := by
  unfold gX10_take at hf
  by_cases c0 : hp_rcv h a0 11 = false
  · rw [if_pos c0] at hf; cases hf
  rw [if_neg c0] at hf
  refine ⟨(Bool.not_eq_false _).mp c0, ?_⟩
  obtain ⟨d, rfl⟩ : ∃ k, d = k + 1 := ⟨d - 1, by omega⟩
  exact Rn.of2 me_X10_take (by simp [lg_sl, rt_cat, cat_i, cat_l]) rfl (l := [(0, va_rf a0), (1, .int a1)]) (by simp [lv_args, rt_cat, cat_i, cat_l]) (rX10_take_0 hkr (by omega) (by omega) hf)
noncomputable def fX10_take (E : ah_E) : Nat → Option Nat → Int32 → ah_H → Option ah_H
  | 0 => fun _ _ _ => none
  | n + 1 => fun a0 a1 h => gX10_take E (fX10_take E n) a0 a1 h
set_option maxRecDepth 20000 in
set_option maxHeartbeats 4000000 in
theorem sX10_take {X : ah_X} (n : Nat) : ∀ (d : Nat), 1 + 1 * n ≤ d → ∀ (a0 : Option Nat) (a1 : Int32) (h : ah_H) (h2 : ah_H), fX10_take X.2.2.2 n a0 a1 h = some h2 → hp_rcv h a0 11 = true ∧ Rn X yX10_take cX10_take 3 none d [va_rf a0, .int a1] h none h2 := by
  induction n with
  | zero => intro d hd a0 a1 h h2 hf; cases hf
  | succ n ih =>
    intro d hd a0 a1 h h2 hf
    exact tX10_take (dk := 1 + 1 * n) ih d (by omega) (by omega) hf
noncomputable def bX10_mark_179 (E : ah_E) (k119 : Option Nat → Int32 → ah_H → Option ah_H) (a0 : Option Nat) (a1 : Int32) (h : ah_H) : Option ah_H :=
  k119 a0 (a1 + 1) h
set_option maxRecDepth 20000 in
set_option maxHeartbeats 4000000 in
theorem rX10_mark_179 {X : ah_X} {d : Nat} (hd : 48 ≤ d) {k119 : Option Nat → Int32 → ah_H → Option ah_H} (hk119 : ∀ (x0 : Option Nat) (x1 : Int32) (h : ah_H) (h2 : ah_H), k119 x0 x1 h = some h2 → Rt X yX10_mark cX10_mark 3 (d + 1) 119 [(0, va_rf x0), (1, .int x1)] [] h none h2) {a0 : Option Nat} {a1 : Int32} {h : ah_H} {h2 : ah_H} (hf : bX10_mark_179 X.2.2.2 k119 a0 a1 h = some h2) : Rt X yX10_mark cX10_mark 3 (d + 1) 179 [(0, va_rf a0), (1, .int a1)] [] h none h2 := by
  unfold bX10_mark_179 at hf
  refine rt_iinc (pc := 179) (i := 1) (n := 1) (x := a1) (v := (a1 + 1)) (l2 := [(1, .int (a1 + 1)), (0, va_rf a0)]) 1 rfl rfl (by decide) (by first | rfl | (simp [rt_cat, cat_i, cat_l]; done) | (simp [rt_cat, cat_i, cat_l]; decide)) dX10_mark_179 ?_
  refine rt_goto (pc := 182) (tgt := 119) (by decide) dX10_mark_182 ?_
  exact rt_locals (rt_sub [1, 0] rfl) (hk119 _ _ _ _ hf)
noncomputable def bX10_mark_148 (E : ah_E) (k119 : Option Nat → Int32 → ah_H → Option ah_H) : Nat → Option Nat → Int32 → Int32 → ah_H → Option ah_H
  | 0 => fun _ _ _ _ => none
  | n + 1 => fun a0 a1 a2 h =>
  (hp_gr h a0 11 65).bind fun v1 =>
  (hp_ldi h v1 a1).bind fun v3 =>
  if v3 ≤ a2 then
    bX10_mark_179 E k119 a0 a1 h
  else
  (hp_gr h a0 11 68).bind fun v6 =>
  (hp_ldi h v6 (((12 : Int32) * a1) + a2)).bind fun v8 =>
  (fX10_take E zd a0 v8 h).bind fun w11 =>
  bX10_mark_148 E k119 n a0 a1 (a2 + 1) w11
set_option maxRecDepth 20000 in
set_option maxHeartbeats 4000000 in
theorem rX10_mark_148 {X : ah_X} {d : Nat} (hd : 48 ≤ d) {k119 : Option Nat → Int32 → ah_H → Option ah_H} (hk119 : ∀ (x0 : Option Nat) (x1 : Int32) (h : ah_H) (h2 : ah_H), k119 x0 x1 h = some h2 → Rt X yX10_mark cX10_mark 3 (d + 1) 119 [(0, va_rf x0), (1, .int x1)] [] h none h2) (n : Nat) : ∀ (a0 : Option Nat) (a1 : Int32) (a2 : Int32) (h : ah_H) (h2 : ah_H), bX10_mark_148 X.2.2.2 k119 n a0 a1 a2 h = some h2 → Rt X yX10_mark cX10_mark 3 (d + 1) 148 [(0, va_rf a0), (1, .int a1), (2, .int a2)] [] h none h2 := by
  induction n with
  | zero => intro a0 a1 a2 h h2 hf; cases hf
  | succ n ih =>
  intro a0 a1 a2 h h2 hf
  unfold bX10_mark_148 at hf
  refine rt_iload_n (pc := 148) (k0 := 2) (x := a2) 2 rfl dX10_mark_148 ?_
  refine rt_aload_n (pc := 149) (k0 := 0) (x := a0) 0 rfl dX10_mark_149 ?_
  obtain ⟨v1, e2, hf⟩ := ob1 hf
  refine rt_gr (pc := 150) fd_X10_240 dX10_mark_150 e2 ?_
  refine rt_iload_n (pc := 153) (k0 := 1) (x := a1) 1 rfl dX10_mark_153 ?_
  obtain ⟨v3, e4, hf⟩ := ob1 hf
  refine rt_iald (pc := 154) dX10_mark_154 e4 ?_
  by_cases c5 : v3 ≤ a2
  · rw [if_pos c5] at hf
    refine rt_icmp_ge_p (pc := 155) (x := a2) (z := v3) (tgt := 179) (by decide) dX10_mark_155 c5 ?_
    exact rt_locals (rt_sub [0, 1] rfl) (rX10_mark_179 hd hk119 hf)
  rw [if_neg c5] at hf
  refine rt_icmp_ge_n (pc := 155) (x := a2) (z := v3) (tgt := 179) (by decide) dX10_mark_155 c5 ?_
  refine rt_aload_n (pc := 158) (k0 := 0) (x := a0) 0 rfl dX10_mark_158 ?_
  refine rt_aload_n (pc := 159) (k0 := 0) (x := a0) 0 rfl dX10_mark_159 ?_
  obtain ⟨v6, e7, hf⟩ := ob1 hf
  refine rt_gr (pc := 160) fd_X10_249 dX10_mark_160 e7 ?_
  refine rt_bipush (pc := 163) (n := 12) (v := (12 : Int32)) (by decide) dX10_mark_163 ?_
  refine rt_iload_n (pc := 165) (k0 := 1) (x := a1) 1 rfl dX10_mark_165 ?_
  refine rt_imul (pc := 166) (x := (12 : Int32)) (z := a1) dX10_mark_166 ?_
  refine rt_iload_n (pc := 167) (k0 := 2) (x := a2) 2 rfl dX10_mark_167 ?_
  refine rt_iadd (pc := 168) (x := ((12 : Int32) * a1)) (z := a2) dX10_mark_168 ?_
  obtain ⟨v8, e9, hf⟩ := ob1 hf
  refine rt_iald (pc := 169) dX10_mark_169 e9 ?_
  obtain ⟨w11, e10, hf⟩ := ob1 hf
  have g12 := sX10_take zd d (by unfold zd; omega) _ _ _ _ e10
  refine rt_callV (pc := 170) (As := [.int v8]) (st := []) me_X10_take mi_X10_take wl_X10_360 dX10_mark_170 rfl (by decide) rfl g12.1 g12.2 ?_
  refine rt_iinc (pc := 173) (i := 2) (n := 1) (x := a2) (v := (a2 + 1)) (l2 := [(2, .int (a2 + 1)), (0, va_rf a0), (1, .int a1)]) 2 rfl rfl (by decide) (by first | rfl | (simp [rt_cat, cat_i, cat_l]; done) | (simp [rt_cat, cat_i, cat_l]; decide)) dX10_mark_173 ?_
  refine rt_goto (pc := 176) (tgt := 148) (by decide) dX10_mark_176 ?_
  exact rt_locals (rt_sub [1, 2, 0] rfl) (ih _ _ _ _ _ hf)
noncomputable def bX10_mark_119 (E : ah_E) : Nat → Option Nat → Int32 → ah_H → Option ah_H
  | 0 => fun _ _ _ => none
  | n + 1 => fun a0 a1 h =>
  if (2 : Int32) ≤ a1 then
    some h
  else
  (hp_gr h a0 11 62).bind fun v2 =>
  (hp_ldi h v2 a1).bind fun v4 =>
  if v4 = 0 then
    bX10_mark_179 E (bX10_mark_119 E n) a0 a1 h
  else
  (hp_gr h a0 11 63).bind fun v7 =>
  (hp_ldi h v7 a1).bind fun v9 =>
  (fX10_take E zd a0 v9 h).bind fun w12 =>
  bX10_mark_148 E (bX10_mark_119 E n) zf a0 a1 (0 : Int32) w12
set_option maxRecDepth 20000 in
set_option maxHeartbeats 4000000 in
theorem rX10_mark_119 {X : ah_X} {d : Nat} (hd : 48 ≤ d) (n : Nat) : ∀ (a0 : Option Nat) (a1 : Int32) (h : ah_H) (h2 : ah_H), bX10_mark_119 X.2.2.2 n a0 a1 h = some h2 → Rt X yX10_mark cX10_mark 3 (d + 1) 119 [(0, va_rf a0), (1, .int a1)] [] h none h2 := by
  induction n with
  | zero => intro a0 a1 h h2 hf; cases hf
  | succ n ih =>
  intro a0 a1 h h2 hf
  unfold bX10_mark_119 at hf
  refine rt_iload_n (pc := 119) (k0 := 1) (x := a1) 1 rfl dX10_mark_119 ?_
  refine rt_iconst (pc := 120) (n := 2) (v := (2 : Int32)) (by decide) dX10_mark_120 ?_
  by_cases c1 : (2 : Int32) ≤ a1
  · rw [if_pos c1] at hf
    refine rt_icmp_ge_p (pc := 121) (x := a1) (z := (2 : Int32)) (tgt := 185) (by decide) dX10_mark_121 c1 ?_
    cases hf
    exact rt_ret (pc := 185) dX10_mark_185 rfl
  rw [if_neg c1] at hf
  refine rt_icmp_ge_n (pc := 121) (x := a1) (z := (2 : Int32)) (tgt := 185) (by decide) dX10_mark_121 c1 ?_
  refine rt_aload_n (pc := 124) (k0 := 0) (x := a0) 0 rfl dX10_mark_124 ?_
  obtain ⟨v2, e3, hf⟩ := ob1 hf
  refine rt_gr (pc := 125) fd_X10_231 dX10_mark_125 e3 ?_
  refine rt_iload_n (pc := 128) (k0 := 1) (x := a1) 1 rfl dX10_mark_128 ?_
  obtain ⟨v4, e5, hf⟩ := ob1 hf
  refine rt_iald (pc := 129) dX10_mark_129 e5 ?_
  by_cases c6 : v4 = 0
  · rw [if_pos c6] at hf
    refine rt_if_ne_p (pc := 130) (x := v4) (tgt := 136) (by decide) dX10_mark_130 c6 ?_
    refine rt_goto (pc := 133) (tgt := 179) (by decide) dX10_mark_133 ?_
    exact rX10_mark_179 hd ih hf
  rw [if_neg c6] at hf
  refine rt_if_ne_n (pc := 130) (x := v4) (tgt := 136) (by decide) dX10_mark_130 c6 ?_
  refine rt_aload_n (pc := 136) (k0 := 0) (x := a0) 0 rfl dX10_mark_136 ?_
  refine rt_aload_n (pc := 137) (k0 := 0) (x := a0) 0 rfl dX10_mark_137 ?_
  obtain ⟨v7, e8, hf⟩ := ob1 hf
  refine rt_gr (pc := 138) fd_X10_234 dX10_mark_138 e8 ?_
  refine rt_iload_n (pc := 141) (k0 := 1) (x := a1) 1 rfl dX10_mark_141 ?_
  obtain ⟨v9, e10, hf⟩ := ob1 hf
  refine rt_iald (pc := 142) dX10_mark_142 e10 ?_
  obtain ⟨w12, e11, hf⟩ := ob1 hf
  have g13 := sX10_take zd d (by unfold zd; omega) _ _ _ _ e11
  refine rt_callV (pc := 143) (As := [.int v9]) (st := []) me_X10_take mi_X10_take wl_X10_360 dX10_mark_143 rfl (by decide) rfl g13.1 g13.2 ?_
  refine rt_iconst (pc := 146) (n := 0) (v := (0 : Int32)) (by decide) dX10_mark_146 ?_
  refine rt_istore_n (pc := 147) (k0 := 2) (x := (0 : Int32)) (l2 := [(2, .int (0 : Int32)), (0, va_rf a0), (1, .int a1)]) (by decide) (by first | rfl | (simp [rt_cat, cat_i, cat_l]; done) | (simp [rt_cat, cat_i, cat_l]; decide)) dX10_mark_147 ?_
  exact rt_locals (rt_sub [1, 2, 0] rfl) (rX10_mark_148 hd ih zf _ _ _ _ _ hf)
noncomputable def bX10_mark_117 (E : ah_E) (a0 : Option Nat) (h : ah_H) : Option ah_H :=
  bX10_mark_119 E zf a0 (0 : Int32) h
set_option maxRecDepth 20000 in
set_option maxHeartbeats 4000000 in
theorem rX10_mark_117 {X : ah_X} {d : Nat} (hd : 48 ≤ d) {a0 : Option Nat} {h : ah_H} {h2 : ah_H} (hf : bX10_mark_117 X.2.2.2 a0 h = some h2) : Rt X yX10_mark cX10_mark 3 (d + 1) 117 [(0, va_rf a0)] [] h none h2 := by
  unfold bX10_mark_117 at hf
  refine rt_iconst (pc := 117) (n := 0) (v := (0 : Int32)) (by decide) dX10_mark_117 ?_
  refine rt_istore_n (pc := 118) (k0 := 1) (x := (0 : Int32)) (l2 := [(1, .int (0 : Int32)), (0, va_rf a0)]) (by decide) (by first | rfl | (simp [rt_cat, cat_i, cat_l]; done) | (simp [rt_cat, cat_i, cat_l]; decide)) dX10_mark_118 ?_
  exact rt_locals (rt_sub [1, 0] rfl) (rX10_mark_119 hd zf _ _ _ _ hf)
noncomputable def bX10_mark_75 (E : ah_E) (k35 : Option Nat → Int32 → ah_H → Option ah_H) (a0 : Option Nat) (a1 : Int32) (h : ah_H) : Option ah_H :=
  k35 a0 (a1 + 1) h
set_option maxRecDepth 20000 in
set_option maxHeartbeats 4000000 in
theorem rX10_mark_75 {X : ah_X} {d : Nat} (hd : 48 ≤ d) {k35 : Option Nat → Int32 → ah_H → Option ah_H} (hk35 : ∀ (x0 : Option Nat) (x1 : Int32) (h : ah_H) (h2 : ah_H), k35 x0 x1 h = some h2 → Rt X yX10_mark cX10_mark 3 (d + 1) 35 [(0, va_rf x0), (1, .int x1)] [] h none h2) {a0 : Option Nat} {a1 : Int32} {h : ah_H} {h2 : ah_H} (hf : bX10_mark_75 X.2.2.2 k35 a0 a1 h = some h2) : Rt X yX10_mark cX10_mark 3 (d + 1) 75 [(0, va_rf a0), (1, .int a1)] [] h none h2 := by
  unfold bX10_mark_75 at hf
  refine rt_iinc (pc := 75) (i := 1) (n := 1) (x := a1) (v := (a1 + 1)) (l2 := [(1, .int (a1 + 1)), (0, va_rf a0)]) 1 rfl rfl (by decide) (by first | rfl | (simp [rt_cat, cat_i, cat_l]; done) | (simp [rt_cat, cat_i, cat_l]; decide)) dX10_mark_75 ?_
  refine rt_goto (pc := 78) (tgt := 35) (by decide) dX10_mark_78 ?_
  exact rt_locals (rt_sub [1, 0] rfl) (hk35 _ _ _ _ hf)
noncomputable def bX10_mark_111 (E : ah_E) (k83 : Option Nat → Int32 → ah_H → Option ah_H) (a0 : Option Nat) (a1 : Int32) (h : ah_H) : Option ah_H :=
  k83 a0 (a1 + 1) h
set_option maxRecDepth 20000 in
set_option maxHeartbeats 4000000 in
theorem rX10_mark_111 {X : ah_X} {d : Nat} (hd : 48 ≤ d) {k83 : Option Nat → Int32 → ah_H → Option ah_H} (hk83 : ∀ (x0 : Option Nat) (x1 : Int32) (h : ah_H) (h2 : ah_H), k83 x0 x1 h = some h2 → Rt X yX10_mark cX10_mark 3 (d + 1) 83 [(0, va_rf x0), (1, .int x1)] [] h none h2) {a0 : Option Nat} {a1 : Int32} {h : ah_H} {h2 : ah_H} (hf : bX10_mark_111 X.2.2.2 k83 a0 a1 h = some h2) : Rt X yX10_mark cX10_mark 3 (d + 1) 111 [(0, va_rf a0), (1, .int a1)] [] h none h2 := by
  unfold bX10_mark_111 at hf
  refine rt_iinc (pc := 111) (i := 1) (n := 1) (x := a1) (v := (a1 + 1)) (l2 := [(1, .int (a1 + 1)), (0, va_rf a0)]) 1 rfl rfl (by decide) (by first | rfl | (simp [rt_cat, cat_i, cat_l]; done) | (simp [rt_cat, cat_i, cat_l]; decide)) dX10_mark_111 ?_
  refine rt_goto (pc := 114) (tgt := 83) (by decide) dX10_mark_114 ?_
  exact rt_locals (rt_sub [1, 0] rfl) (hk83 _ _ _ _ hf)
noncomputable def bX10_mark_83 (E : ah_E) : Nat → Option Nat → Int32 → ah_H → Option ah_H
  | 0 => fun _ _ _ => none
  | n + 1 => fun a0 a1 h =>
  (hp_gi h a0 11 71).bind fun v1 =>
  if v1 ≤ a1 then
    bX10_mark_117 E a0 h
  else
  (hp_gr h a0 11 70).bind fun v4 =>
  (hp_ldi h v4 a1).bind fun v6 =>
  if v6 = (-1 : Int32) then
    bX10_mark_111 E (bX10_mark_83 E n) a0 a1 h
  else
  (hp_gr h a0 11 70).bind fun v9 =>
  (hp_ldi h v9 a1).bind fun v11 =>
  (fX10_take E zd a0 v11 h).bind fun w14 =>
  bX10_mark_111 E (bX10_mark_83 E n) a0 a1 w14
set_option maxRecDepth 20000 in
set_option maxHeartbeats 4000000 in
theorem rX10_mark_83 {X : ah_X} {d : Nat} (hd : 48 ≤ d) (n : Nat) : ∀ (a0 : Option Nat) (a1 : Int32) (h : ah_H) (h2 : ah_H), bX10_mark_83 X.2.2.2 n a0 a1 h = some h2 → Rt X yX10_mark cX10_mark 3 (d + 1) 83 [(0, va_rf a0), (1, .int a1)] [] h none h2 := by
  induction n with
  | zero => intro a0 a1 h h2 hf; cases hf
  | succ n ih =>
  intro a0 a1 h h2 hf
  unfold bX10_mark_83 at hf
  refine rt_iload_n (pc := 83) (k0 := 1) (x := a1) 1 rfl dX10_mark_83 ?_
  refine rt_aload_n (pc := 84) (k0 := 0) (x := a0) 0 rfl dX10_mark_84 ?_
  obtain ⟨v1, e2, hf⟩ := ob1 hf
  refine rt_gi (pc := 85) fd_X10_363 dX10_mark_85 e2 ?_
  by_cases c3 : v1 ≤ a1
  · rw [if_pos c3] at hf
    refine rt_icmp_ge_p (pc := 88) (x := a1) (z := v1) (tgt := 117) (by decide) dX10_mark_88 c3 ?_
    exact rt_locals (rt_sub [0] rfl) (rX10_mark_117 hd hf)
  rw [if_neg c3] at hf
  refine rt_icmp_ge_n (pc := 88) (x := a1) (z := v1) (tgt := 117) (by decide) dX10_mark_88 c3 ?_
  refine rt_aload_n (pc := 91) (k0 := 0) (x := a0) 0 rfl dX10_mark_91 ?_
  obtain ⟨v4, e5, hf⟩ := ob1 hf
  refine rt_gr (pc := 92) fd_X10_255 dX10_mark_92 e5 ?_
  refine rt_iload_n (pc := 95) (k0 := 1) (x := a1) 1 rfl dX10_mark_95 ?_
  obtain ⟨v6, e7, hf⟩ := ob1 hf
  refine rt_iald (pc := 96) dX10_mark_96 e7 ?_
  refine rt_iconst (pc := 97) (n := -1) (v := (-1 : Int32)) (by decide) dX10_mark_97 ?_
  by_cases c8 : v6 = (-1 : Int32)
  · rw [if_pos c8] at hf
    refine rt_icmp_eq_p (pc := 98) (x := v6) (z := (-1 : Int32)) (tgt := 111) (by decide) dX10_mark_98 c8 ?_
    exact rX10_mark_111 hd ih hf
  rw [if_neg c8] at hf
  refine rt_icmp_eq_n (pc := 98) (x := v6) (z := (-1 : Int32)) (tgt := 111) (by decide) dX10_mark_98 c8 ?_
  refine rt_aload_n (pc := 101) (k0 := 0) (x := a0) 0 rfl dX10_mark_101 ?_
  refine rt_aload_n (pc := 102) (k0 := 0) (x := a0) 0 rfl dX10_mark_102 ?_
  obtain ⟨v9, e10, hf⟩ := ob1 hf
  refine rt_gr (pc := 103) fd_X10_255 dX10_mark_103 e10 ?_
  refine rt_iload_n (pc := 106) (k0 := 1) (x := a1) 1 rfl dX10_mark_106 ?_
  obtain ⟨v11, e12, hf⟩ := ob1 hf
  refine rt_iald (pc := 107) dX10_mark_107 e12 ?_
  obtain ⟨w14, e13, hf⟩ := ob1 hf
  have g15 := sX10_take zd d (by unfold zd; omega) _ _ _ _ e13
  refine rt_callV (pc := 108) (As := [.int v11]) (st := []) me_X10_take mi_X10_take wl_X10_360 dX10_mark_108 rfl (by decide) rfl g15.1 g15.2 ?_
  exact rX10_mark_111 hd ih hf
noncomputable def bX10_mark_35 (E : ah_E) : Nat → Option Nat → Int32 → ah_H → Option ah_H
  | 0 => fun _ _ _ => none
  | n + 1 => fun a0 a1 h =>
  (hp_gi h a0 11 50).bind fun v1 =>
  if v1 ≤ a1 then
    bX10_mark_83 E zf a0 (0 : Int32) h
  else
  (hp_gr h a0 11 27).bind fun v4 =>
  (hp_gr h a0 11 47).bind fun v6 =>
  (hp_ldi h v6 a1).bind fun v8 =>
  (hp_ldi h v4 v8).bind fun v10 =>
  if v10 = (-1 : Int32) then
    bX10_mark_75 E (bX10_mark_35 E n) a0 a1 h
  else
  (hp_gr h a0 11 76).bind fun v13 =>
  (hp_gr h a0 11 27).bind fun v15 =>
  (hp_gr h a0 11 47).bind fun v17 =>
  (hp_ldi h v17 a1).bind fun v19 =>
  (hp_ldi h v15 v19).bind fun v21 =>
  (hp_stb h v13 v21 (1 : Int32)).bind fun w23 =>
  bX10_mark_75 E (bX10_mark_35 E n) a0 a1 w23
set_option maxRecDepth 20000 in
set_option maxHeartbeats 4000000 in
theorem rX10_mark_35 {X : ah_X} {d : Nat} (hd : 48 ≤ d) (n : Nat) : ∀ (a0 : Option Nat) (a1 : Int32) (h : ah_H) (h2 : ah_H), bX10_mark_35 X.2.2.2 n a0 a1 h = some h2 → Rt X yX10_mark cX10_mark 3 (d + 1) 35 [(0, va_rf a0), (1, .int a1)] [] h none h2 := by
  induction n with
  | zero => intro a0 a1 h h2 hf; cases hf
  | succ n ih =>
  intro a0 a1 h h2 hf
  unfold bX10_mark_35 at hf
  refine rt_iload_n (pc := 35) (k0 := 1) (x := a1) 1 rfl dX10_mark_35 ?_
  refine rt_aload_n (pc := 36) (k0 := 0) (x := a0) 0 rfl dX10_mark_36 ?_
  obtain ⟨v1, e2, hf⟩ := ob1 hf
  refine rt_gi (pc := 37) fd_X10_349 dX10_mark_37 e2 ?_
  by_cases c3 : v1 ≤ a1
  · rw [if_pos c3] at hf
    refine rt_icmp_ge_p (pc := 40) (x := a1) (z := v1) (tgt := 81) (by decide) dX10_mark_40 c3 ?_
    refine rt_iconst (pc := 81) (n := 0) (v := (0 : Int32)) (by decide) dX10_mark_81 ?_
    refine rt_istore_n (pc := 82) (k0 := 1) (x := (0 : Int32)) (l2 := [(1, .int (0 : Int32)), (0, va_rf a0)]) (by decide) (by first | rfl | (simp [rt_cat, cat_i, cat_l]; done) | (simp [rt_cat, cat_i, cat_l]; decide)) dX10_mark_82 ?_
    exact rt_locals (rt_sub [1, 0] rfl) (rX10_mark_83 hd zf _ _ _ _ hf)
  rw [if_neg c3] at hf
  refine rt_icmp_ge_n (pc := 40) (x := a1) (z := v1) (tgt := 81) (by decide) dX10_mark_40 c3 ?_
  refine rt_aload_n (pc := 43) (k0 := 0) (x := a0) 0 rfl dX10_mark_43 ?_
  obtain ⟨v4, e5, hf⟩ := ob1 hf
  refine rt_gr (pc := 44) fd_X10_148 dX10_mark_44 e5 ?_
  refine rt_aload_n (pc := 47) (k0 := 0) (x := a0) 0 rfl dX10_mark_47 ?_
  obtain ⟨v6, e7, hf⟩ := ob1 hf
  refine rt_gr (pc := 48) fd_X10_191 dX10_mark_48 e7 ?_
  refine rt_iload_n (pc := 51) (k0 := 1) (x := a1) 1 rfl dX10_mark_51 ?_
  obtain ⟨v8, e9, hf⟩ := ob1 hf
  refine rt_iald (pc := 52) dX10_mark_52 e9 ?_
  obtain ⟨v10, e11, hf⟩ := ob1 hf
  refine rt_iald (pc := 53) dX10_mark_53 e11 ?_
  refine rt_iconst (pc := 54) (n := -1) (v := (-1 : Int32)) (by decide) dX10_mark_54 ?_
  by_cases c12 : v10 = (-1 : Int32)
  · rw [if_pos c12] at hf
    refine rt_icmp_eq_p (pc := 55) (x := v10) (z := (-1 : Int32)) (tgt := 75) (by decide) dX10_mark_55 c12 ?_
    exact rX10_mark_75 hd ih hf
  rw [if_neg c12] at hf
  refine rt_icmp_eq_n (pc := 55) (x := v10) (z := (-1 : Int32)) (tgt := 75) (by decide) dX10_mark_55 c12 ?_
  refine rt_aload_n (pc := 58) (k0 := 0) (x := a0) 0 rfl dX10_mark_58 ?_
  obtain ⟨v13, e14, hf⟩ := ob1 hf
  refine rt_gr (pc := 59) fd_X10_264 dX10_mark_59 e14 ?_
  refine rt_aload_n (pc := 62) (k0 := 0) (x := a0) 0 rfl dX10_mark_62 ?_
  obtain ⟨v15, e16, hf⟩ := ob1 hf
  refine rt_gr (pc := 63) fd_X10_148 dX10_mark_63 e16 ?_
  refine rt_aload_n (pc := 66) (k0 := 0) (x := a0) 0 rfl dX10_mark_66 ?_
  obtain ⟨v17, e18, hf⟩ := ob1 hf
  refine rt_gr (pc := 67) fd_X10_191 dX10_mark_67 e18 ?_
  refine rt_iload_n (pc := 70) (k0 := 1) (x := a1) 1 rfl dX10_mark_70 ?_
  obtain ⟨v19, e20, hf⟩ := ob1 hf
  refine rt_iald (pc := 71) dX10_mark_71 e20 ?_
  obtain ⟨v21, e22, hf⟩ := ob1 hf
  refine rt_iald (pc := 72) dX10_mark_72 e22 ?_
  refine rt_iconst (pc := 73) (n := 1) (v := (1 : Int32)) (by decide) dX10_mark_73 ?_
  obtain ⟨w23, e24, hf⟩ := ob1 hf
  refine rt_bast (pc := 74) dX10_mark_74 e24 ?_
  exact rX10_mark_75 hd ih hf
noncomputable def bX10_mark_2 (E : ah_E) : Nat → Option Nat → Int32 → ah_H → Option ah_H
  | 0 => fun _ _ _ => none
  | n + 1 => fun a0 a1 h =>
  if (1000 : Int32) ≤ a1 then
    (hp_gi h a0 11 51).bind fun v2 =>
    if v2 = 0 then
      (fX10_spreadChanges E a0 h).bind fun w6 =>
      bX10_mark_35 E zf a0 (0 : Int32) w6
    else
    bX10_mark_117 E a0 h
  else
  (hp_gr h a0 11 76).bind fun v8 =>
  (hp_stb h v8 a1 (0 : Int32)).bind fun w10 =>
  bX10_mark_2 E n a0 (a1 + 1) w10
set_option maxRecDepth 20000 in
set_option maxHeartbeats 4000000 in
theorem rX10_mark_2 {X : ah_X} {d : Nat} (hd : 48 ≤ d) (n : Nat) : ∀ (a0 : Option Nat) (a1 : Int32) (h : ah_H) (h2 : ah_H), bX10_mark_2 X.2.2.2 n a0 a1 h = some h2 → Rt X yX10_mark cX10_mark 3 (d + 1) 2 [(0, va_rf a0), (1, .int a1)] [] h none h2 := by
  induction n with
  | zero => intro a0 a1 h h2 hf; cases hf
  | succ n ih =>
  intro a0 a1 h h2 hf
  unfold bX10_mark_2 at hf
  refine rt_iload_n (pc := 2) (k0 := 1) (x := a1) 1 rfl dX10_mark_2 ?_
  refine rt_sipush (pc := 3) (n := 1000) (v := (1000 : Int32)) (by decide) dX10_mark_3 ?_
  by_cases c1 : (1000 : Int32) ≤ a1
  · rw [if_pos c1] at hf
    refine rt_icmp_ge_p (pc := 6) (x := a1) (z := (1000 : Int32)) (tgt := 22) (by decide) dX10_mark_6 c1 ?_
    refine rt_aload_n (pc := 22) (k0 := 0) (x := a0) 0 rfl dX10_mark_22 ?_
    obtain ⟨v2, e3, hf⟩ := ob1 hf
    refine rt_gi (pc := 23) fd_X10_90 dX10_mark_23 e3 ?_
    by_cases c4 : v2 = 0
    · rw [if_pos c4] at hf
      refine rt_if_ne_p (pc := 26) (x := v2) (tgt := 117) (by decide) dX10_mark_26 c4 ?_
      refine rt_aload_n (pc := 29) (k0 := 0) (x := a0) 0 rfl dX10_mark_29 ?_
      obtain ⟨w6, e5, hf⟩ := ob1 hf
      have g7 := sX10_spreadChanges d (by omega) e5
      refine rt_callV (pc := 30) (As := []) (st := []) me_X10_spreadChanges mi_X10_spreadChanges wl_X10_357 dX10_mark_30 rfl (by decide) rfl g7.1 g7.2 ?_
      refine rt_iconst (pc := 33) (n := 0) (v := (0 : Int32)) (by decide) dX10_mark_33 ?_
      refine rt_istore_n (pc := 34) (k0 := 1) (x := (0 : Int32)) (l2 := [(1, .int (0 : Int32)), (0, va_rf a0)]) (by decide) (by first | rfl | (simp [rt_cat, cat_i, cat_l]; done) | (simp [rt_cat, cat_i, cat_l]; decide)) dX10_mark_34 ?_
      exact rt_locals (rt_sub [1, 0] rfl) (rX10_mark_35 hd zf _ _ _ _ hf)
    rw [if_neg c4] at hf
    refine rt_if_ne_n (pc := 26) (x := v2) (tgt := 117) (by decide) dX10_mark_26 c4 ?_
    exact rt_locals (rt_sub [0] rfl) (rX10_mark_117 hd hf)
  rw [if_neg c1] at hf
  refine rt_icmp_ge_n (pc := 6) (x := a1) (z := (1000 : Int32)) (tgt := 22) (by decide) dX10_mark_6 c1 ?_
  refine rt_aload_n (pc := 9) (k0 := 0) (x := a0) 0 rfl dX10_mark_9 ?_
  obtain ⟨v8, e9, hf⟩ := ob1 hf
  refine rt_gr (pc := 10) fd_X10_264 dX10_mark_10 e9 ?_
  refine rt_iload_n (pc := 13) (k0 := 1) (x := a1) 1 rfl dX10_mark_13 ?_
  refine rt_iconst (pc := 14) (n := 0) (v := (0 : Int32)) (by decide) dX10_mark_14 ?_
  obtain ⟨w10, e11, hf⟩ := ob1 hf
  refine rt_bast (pc := 15) dX10_mark_15 e11 ?_
  refine rt_iinc (pc := 16) (i := 1) (n := 1) (x := a1) (v := (a1 + 1)) (l2 := [(1, .int (a1 + 1)), (0, va_rf a0)]) 1 rfl rfl (by decide) (by first | rfl | (simp [rt_cat, cat_i, cat_l]; done) | (simp [rt_cat, cat_i, cat_l]; decide)) dX10_mark_16 ?_
  refine rt_goto (pc := 19) (tgt := 2) (by decide) dX10_mark_19 ?_
  exact rt_locals (rt_sub [1, 0] rfl) (ih _ _ _ _ hf)
noncomputable def bX10_mark_0 (E : ah_E) (a0 : Option Nat) (h : ah_H) : Option ah_H :=
  bX10_mark_2 E zf a0 (0 : Int32) h
set_option maxRecDepth 20000 in
set_option maxHeartbeats 4000000 in
theorem rX10_mark_0 {X : ah_X} {d : Nat} (hd : 48 ≤ d) {a0 : Option Nat} {h : ah_H} {h2 : ah_H} (hf : bX10_mark_0 X.2.2.2 a0 h = some h2) : Rt X yX10_mark cX10_mark 3 (d + 1) 0 [(0, va_rf a0)] [] h none h2 := by
  unfold bX10_mark_0 at hf
  refine rt_iconst (pc := 0) (n := 0) (v := (0 : Int32)) (by decide) dX10_mark_0 ?_
  refine rt_istore_n (pc := 1) (k0 := 1) (x := (0 : Int32)) (l2 := [(1, .int (0 : Int32)), (0, va_rf a0)]) (by decide) (by first | rfl | (simp [rt_cat, cat_i, cat_l]; done) | (simp [rt_cat, cat_i, cat_l]; decide)) dX10_mark_1 ?_
  exact rt_locals (rt_sub [1, 0] rfl) (rX10_mark_2 hd zf _ _ _ _ hf)
noncomputable def fX10_mark (E : ah_E) (a0 : Option Nat) (h : ah_H) : Option ah_H := if hp_rcv h a0 11 = false then none else bX10_mark_0 E a0 h
set_option maxRecDepth 20000 in
set_option maxHeartbeats 4000000 in
theorem sX10_mark {X : ah_X} (d : Nat) (hd : 49 ≤ d) {a0 : Option Nat} {h : ah_H} {h2 : ah_H} (hf : fX10_mark X.2.2.2 a0 h = some h2) : hp_rcv h a0 11 = true ∧ Rn X yX10_mark cX10_mark 3 none d [va_rf a0] h none h2 := by
  unfold fX10_mark at hf
  by_cases c0 : hp_rcv h a0 11 = false
  · rw [if_pos c0] at hf; cases hf
  rw [if_neg c0] at hf
  refine ⟨(Bool.not_eq_false _).mp c0, ?_⟩
  obtain ⟨d, rfl⟩ : ∃ k, d = k + 1 := ⟨d - 1, by omega⟩
  exact Rn.of2 me_X10_mark (by simp [lg_sl, rt_cat, cat_i, cat_l]) rfl (l := [(0, va_rf a0)]) (by simp [lv_args, rt_cat, cat_i, cat_l]) (rX10_mark_0 (by omega) hf)
noncomputable def bX10_freePlaces_30 (E : ah_E) (k8 : Option Nat → Int32 → Int32 → ah_H → Option (Int32 × ah_H)) (a0 : Option Nat) (a2 : Int32) (s0 : Int32) (s1 : Int32) (h : ah_H) : Option (Int32 × ah_H) :=
  k8 a0 (s0 + s1) (a2 + 1) h
set_option maxRecDepth 20000 in
set_option maxHeartbeats 4000000 in
theorem rX10_freePlaces_30 {X : ah_X} {d : Nat} (hd : 49 ≤ d) {k8 : Option Nat → Int32 → Int32 → ah_H → Option (Int32 × ah_H)} (hk8 : ∀ (x0 : Option Nat) (x1 : Int32) (x2 : Int32) (h : ah_H) (r : Int32) (h2 : ah_H), k8 x0 x1 x2 h = some (r, h2) → Rt X yX10_freePlaces cX10_freePlaces 3 (d + 1) 8 [(0, va_rf x0), (1, .int x1), (2, .int x2)] [] h (some (.int r)) h2) {a0 : Option Nat} {a2 : Int32} {s0 : Int32} {s1 : Int32} {h : ah_H} {r : Int32} {h2 : ah_H} (hf : bX10_freePlaces_30 X.2.2.2 k8 a0 a2 s0 s1 h = some (r, h2)) : Rt X yX10_freePlaces cX10_freePlaces 3 (d + 1) 30 [(0, va_rf a0), (2, .int a2)] [.int s1, .int s0] h (some (.int r)) h2 := by
  unfold bX10_freePlaces_30 at hf
  refine rt_iadd (pc := 30) (x := s0) (z := s1) dX10_freePlaces_30 ?_
  refine rt_istore_n (pc := 31) (k0 := 1) (x := (s0 + s1)) (l2 := [(1, .int (s0 + s1)), (0, va_rf a0), (2, .int a2)]) (by decide) (by first | rfl | (simp [rt_cat, cat_i, cat_l]; done) | (simp [rt_cat, cat_i, cat_l]; decide)) dX10_freePlaces_31 ?_
  refine rt_iinc (pc := 32) (i := 2) (n := 1) (x := a2) (v := (a2 + 1)) (l2 := [(2, .int (a2 + 1)), (1, .int (s0 + s1)), (0, va_rf a0)]) 2 rfl rfl (by decide) (by first | rfl | (simp [rt_cat, cat_i, cat_l]; done) | (simp [rt_cat, cat_i, cat_l]; decide)) dX10_freePlaces_32 ?_
  refine rt_goto (pc := 35) (tgt := 8) (by decide) dX10_freePlaces_35 ?_
  exact rt_locals (rt_sub [2, 1, 0] rfl) (hk8 _ _ _ _ _ _ hf)
noncomputable def bX10_freePlaces_8 (E : ah_E) : Nat → Option Nat → Int32 → Int32 → ah_H → Option (Int32 × ah_H)
  | 0 => fun _ _ _ _ => none
  | n + 1 => fun a0 a1 a2 h =>
  if (1000 : Int32) ≤ a2 then
    some (a1, h)
  else
  (hp_gr h a0 11 76).bind fun v2 =>
  (hp_ldb h v2 a2).bind fun v4 =>
  if v4 = 0 then
    bX10_freePlaces_30 E (bX10_freePlaces_8 E n) a0 a2 a1 (1 : Int32) h
  else
  bX10_freePlaces_30 E (bX10_freePlaces_8 E n) a0 a2 a1 (0 : Int32) h
set_option maxRecDepth 20000 in
set_option maxHeartbeats 4000000 in
theorem rX10_freePlaces_8 {X : ah_X} {d : Nat} (hd : 49 ≤ d) (n : Nat) : ∀ (a0 : Option Nat) (a1 : Int32) (a2 : Int32) (h : ah_H) (r : Int32) (h2 : ah_H), bX10_freePlaces_8 X.2.2.2 n a0 a1 a2 h = some (r, h2) → Rt X yX10_freePlaces cX10_freePlaces 3 (d + 1) 8 [(0, va_rf a0), (1, .int a1), (2, .int a2)] [] h (some (.int r)) h2 := by
  induction n with
  | zero => intro a0 a1 a2 h r h2 hf; cases hf
  | succ n ih =>
  intro a0 a1 a2 h r h2 hf
  unfold bX10_freePlaces_8 at hf
  refine rt_iload_n (pc := 8) (k0 := 2) (x := a2) 2 rfl dX10_freePlaces_8 ?_
  refine rt_sipush (pc := 9) (n := 1000) (v := (1000 : Int32)) (by decide) dX10_freePlaces_9 ?_
  by_cases c1 : (1000 : Int32) ≤ a2
  · rw [if_pos c1] at hf
    refine rt_icmp_ge_p (pc := 12) (x := a2) (z := (1000 : Int32)) (tgt := 38) (by decide) dX10_freePlaces_12 c1 ?_
    refine rt_iload_n (pc := 38) (k0 := 1) (x := a1) 1 rfl dX10_freePlaces_38 ?_
    cases hf
    exact rt_ret (pc := 39) dX10_freePlaces_39 rfl
  rw [if_neg c1] at hf
  refine rt_icmp_ge_n (pc := 12) (x := a2) (z := (1000 : Int32)) (tgt := 38) (by decide) dX10_freePlaces_12 c1 ?_
  refine rt_iload_n (pc := 15) (k0 := 1) (x := a1) 1 rfl dX10_freePlaces_15 ?_
  refine rt_aload_n (pc := 16) (k0 := 0) (x := a0) 0 rfl dX10_freePlaces_16 ?_
  obtain ⟨v2, e3, hf⟩ := ob1 hf
  refine rt_gr (pc := 17) fd_X10_264 dX10_freePlaces_17 e3 ?_
  refine rt_iload_n (pc := 20) (k0 := 2) (x := a2) 2 rfl dX10_freePlaces_20 ?_
  obtain ⟨v4, e5, hf⟩ := ob1 hf
  refine rt_bald (pc := 21) dX10_freePlaces_21 e5 ?_
  by_cases c6 : v4 = 0
  · rw [if_pos c6] at hf
    refine rt_if_eq_p (pc := 22) (x := v4) (tgt := 29) (by decide) dX10_freePlaces_22 c6 ?_
    refine rt_iconst (pc := 29) (n := 1) (v := (1 : Int32)) (by decide) dX10_freePlaces_29 ?_
    exact rt_locals (rt_sub [0, 2] rfl) (rX10_freePlaces_30 hd ih hf)
  rw [if_neg c6] at hf
  refine rt_if_eq_n (pc := 22) (x := v4) (tgt := 29) (by decide) dX10_freePlaces_22 c6 ?_
  refine rt_iconst (pc := 25) (n := 0) (v := (0 : Int32)) (by decide) dX10_freePlaces_25 ?_
  refine rt_goto (pc := 26) (tgt := 30) (by decide) dX10_freePlaces_26 ?_
  exact rt_locals (rt_sub [0, 2] rfl) (rX10_freePlaces_30 hd ih hf)
noncomputable def bX10_freePlaces_0 (E : ah_E) (a0 : Option Nat) (h : ah_H) : Option (Int32 × ah_H) :=
  (fX10_mark E a0 h).bind fun w2 =>
  bX10_freePlaces_8 E zf a0 (0 : Int32) (0 : Int32) w2
set_option maxRecDepth 20000 in
set_option maxHeartbeats 4000000 in
theorem rX10_freePlaces_0 {X : ah_X} {d : Nat} (hd : 49 ≤ d) {a0 : Option Nat} {h : ah_H} {r : Int32} {h2 : ah_H} (hf : bX10_freePlaces_0 X.2.2.2 a0 h = some (r, h2)) : Rt X yX10_freePlaces cX10_freePlaces 3 (d + 1) 0 [(0, va_rf a0)] [] h (some (.int r)) h2 := by
  unfold bX10_freePlaces_0 at hf
  refine rt_aload_n (pc := 0) (k0 := 0) (x := a0) 0 rfl dX10_freePlaces_0 ?_
  obtain ⟨w2, e1, hf⟩ := ob1 hf
  have g3 := sX10_mark d (by omega) e1
  refine rt_callV (pc := 1) (As := []) (st := []) me_X10_mark mi_X10_mark wl_X10_366 dX10_freePlaces_1 rfl (by decide) rfl g3.1 g3.2 ?_
  refine rt_iconst (pc := 4) (n := 0) (v := (0 : Int32)) (by decide) dX10_freePlaces_4 ?_
  refine rt_istore_n (pc := 5) (k0 := 1) (x := (0 : Int32)) (l2 := [(1, .int (0 : Int32)), (0, va_rf a0)]) (by decide) (by first | rfl | (simp [rt_cat, cat_i, cat_l]; done) | (simp [rt_cat, cat_i, cat_l]; decide)) dX10_freePlaces_5 ?_
  refine rt_iconst (pc := 6) (n := 0) (v := (0 : Int32)) (by decide) dX10_freePlaces_6 ?_
  refine rt_istore_n (pc := 7) (k0 := 2) (x := (0 : Int32)) (l2 := [(2, .int (0 : Int32)), (1, .int (0 : Int32)), (0, va_rf a0)]) (by decide) (by first | rfl | (simp [rt_cat, cat_i, cat_l]; done) | (simp [rt_cat, cat_i, cat_l]; decide)) dX10_freePlaces_7 ?_
  exact rt_locals (rt_sub [2, 1, 0] rfl) (rX10_freePlaces_8 hd zf _ _ _ _ _ _ hf)
noncomputable def fX10_freePlaces (E : ah_E) (a0 : Option Nat) (h : ah_H) : Option (Int32 × ah_H) := if hp_rcv h a0 11 = false then none else bX10_freePlaces_0 E a0 h
set_option maxRecDepth 20000 in
set_option maxHeartbeats 4000000 in
theorem sX10_freePlaces {X : ah_X} (d : Nat) (hd : 50 ≤ d) {a0 : Option Nat} {h : ah_H} {r : Int32} {h2 : ah_H} (hf : fX10_freePlaces X.2.2.2 a0 h = some (r, h2)) : hp_rcv h a0 11 = true ∧ Rn X yX10_freePlaces cX10_freePlaces 3 (some .int) d [va_rf a0] h (some (.int r)) h2 := by
  unfold fX10_freePlaces at hf
  by_cases c0 : hp_rcv h a0 11 = false
  · rw [if_pos c0] at hf; cases hf
  rw [if_neg c0] at hf
  refine ⟨(Bool.not_eq_false _).mp c0, ?_⟩
  obtain ⟨d, rfl⟩ : ∃ k, d = k + 1 := ⟨d - 1, by omega⟩
  exact Rn.of2 me_X10_freePlaces (by simp [lg_sl, rt_cat, cat_i, cat_l]) (ok_i _) (l := [(0, va_rf a0)]) (by simp [lv_args, rt_cat, cat_i, cat_l]) (rX10_freePlaces_0 (by omega) hf)
noncomputable def bX10_free_16 (E : ah_E) (s0 : Int32) (h : ah_H) : Option (Int32 × ah_H) :=
  some (s0, h)
set_option maxRecDepth 20000 in
set_option maxHeartbeats 4000000 in
theorem rX10_free_16 {X : ah_X} {d : Nat} (hd : 50 ≤ d) {s0 : Int32} {h : ah_H} {r : Int32} {h2 : ah_H} (hf : bX10_free_16 X.2.2.2 s0 h = some (r, h2)) : Rt X yX10_free cX10_free 1 (d + 1) 16 [] [.int s0] h (some (.int r)) h2 := by
  unfold bX10_free_16 at hf
  cases hf
  exact rt_ret (pc := 16) dX10_free_16 rfl
noncomputable def bX10_free_0 (E : ah_E) (a0 : Option Nat) (h : ah_H) : Option (Int32 × ah_H) :=
  (hp_gi h a0 11 51).bind fun v1 =>
  if v1 = 0 then
    ob2 (fX10_freePlaces E a0 h) fun v6 w5 =>
    bX10_free_16 E v6 w5
  else
  bX10_free_16 E (-4 : Int32) h
set_option maxRecDepth 20000 in
set_option maxHeartbeats 4000000 in
theorem rX10_free_0 {X : ah_X} {d : Nat} (hd : 50 ≤ d) {a0 : Option Nat} {h : ah_H} {r : Int32} {h2 : ah_H} (hf : bX10_free_0 X.2.2.2 a0 h = some (r, h2)) : Rt X yX10_free cX10_free 1 (d + 1) 0 [(0, va_rf a0)] [] h (some (.int r)) h2 := by
  unfold bX10_free_0 at hf
  refine rt_aload_n (pc := 0) (k0 := 0) (x := a0) 0 rfl dX10_free_0 ?_
  obtain ⟨v1, e2, hf⟩ := ob1 hf
  refine rt_gi (pc := 1) fd_X10_90 dX10_free_1 e2 ?_
  by_cases c3 : v1 = 0
  · rw [if_pos c3] at hf
    refine rt_if_eq_p (pc := 4) (x := v1) (tgt := 12) (by decide) dX10_free_4 c3 ?_
    refine rt_aload_n (pc := 12) (k0 := 0) (x := a0) 0 rfl dX10_free_12 ?_
    obtain ⟨v6, w5, e4, hf⟩ := ob2_of hf
    have g7 := sX10_freePlaces d (by omega) e4
    refine rt_callV (pc := 13) (As := []) (st := []) me_X10_freePlaces mi_X10_freePlaces wl_X10_391 dX10_free_13 rfl (by decide) rfl g7.1 g7.2 ?_
    exact rt_locals (rt_sub [] rfl) (rX10_free_16 hd hf)
  rw [if_neg c3] at hf
  refine rt_if_eq_n (pc := 4) (x := v1) (tgt := 12) (by decide) dX10_free_4 c3 ?_
  refine rt_bipush (pc := 7) (n := -4) (v := (-4 : Int32)) (by decide) dX10_free_7 ?_
  refine rt_goto (pc := 9) (tgt := 16) (by decide) dX10_free_9 ?_
  exact rt_locals (rt_sub [] rfl) (rX10_free_16 hd hf)
noncomputable def fX10_free (E : ah_E) (a0 : Option Nat) (h : ah_H) : Option (Int32 × ah_H) := if hp_rcv h a0 11 = false then none else bX10_free_0 E a0 h
set_option maxRecDepth 20000 in
set_option maxHeartbeats 4000000 in
theorem sX10_free {X : ah_X} (d : Nat) (hd : 51 ≤ d) {a0 : Option Nat} {h : ah_H} {r : Int32} {h2 : ah_H} (hf : fX10_free X.2.2.2 a0 h = some (r, h2)) : hp_rcv h a0 11 = true ∧ Rn X yX10_free cX10_free 1 (some .int) d [va_rf a0] h (some (.int r)) h2 := by
  unfold fX10_free at hf
  by_cases c0 : hp_rcv h a0 11 = false
  · rw [if_pos c0] at hf; cases hf
  rw [if_neg c0] at hf
  refine ⟨(Bool.not_eq_false _).mp c0, ?_⟩
  obtain ⟨d, rfl⟩ : ∃ k, d = k + 1 := ⟨d - 1, by omega⟩
  exact Rn.of2 me_X10_free (by simp [lg_sl, rt_cat, cat_i, cat_l]) (ok_i _) (l := [(0, va_rf a0)]) (by simp [lv_args, rt_cat, cat_i, cat_l]) (rX10_free_0 (by omega) hf)
noncomputable def bX10_get_40 (E : ah_E) : Nat → Option Nat → Int32 → Int32 → ah_H → Option (Int32 × ah_H)
  | 0 => fun _ _ _ _ => none
  | n + 1 => fun a0 a3 a4 h =>
  (hp_gi h a0 11 2).bind fun v1 =>
  if v1 ≤ a4 then
    (hp_gi h a0 11 2).bind fun v4 =>
    some (v4, h)
  else
  (hp_gr h a0 11 1).bind fun v6 =>
  (hp_gr h a0 11 5).bind fun v8 =>
  (hp_ldb h v8 (((20 : Int32) * a3) + a4)).bind fun v10 =>
  (hp_stb h v6 a4 v10).bind fun w12 =>
  bX10_get_40 E n a0 a3 (a4 + 1) w12
set_option maxRecDepth 20000 in
set_option maxHeartbeats 4000000 in
theorem rX10_get_40 {X : ah_X} {d : Nat} (hd : 0 ≤ d) (n : Nat) : ∀ (a0 : Option Nat) (a3 : Int32) (a4 : Int32) (h : ah_H) (r : Int32) (h2 : ah_H), bX10_get_40 X.2.2.2 n a0 a3 a4 h = some (r, h2) → Rt X yX10_get cX10_get 5 (d + 1) 40 [(0, va_rf a0), (3, .int a3), (4, .int a4)] [] h (some (.int r)) h2 := by
  induction n with
  | zero => intro a0 a3 a4 h r h2 hf; cases hf
  | succ n ih =>
  intro a0 a3 a4 h r h2 hf
  unfold bX10_get_40 at hf
  refine rt_iload (pc := 40) (i := 4) (x := a4) 2 rfl dX10_get_40 ?_
  refine rt_aload_n (pc := 42) (k0 := 0) (x := a0) 0 rfl dX10_get_42 ?_
  obtain ⟨v1, e2, hf⟩ := ob1 hf
  refine rt_gi (pc := 43) fd_X10_9 dX10_get_43 e2 ?_
  by_cases c3 : v1 ≤ a4
  · rw [if_pos c3] at hf
    refine rt_icmp_ge_p (pc := 46) (x := a4) (z := v1) (tgt := 74) (by decide) dX10_get_46 c3 ?_
    refine rt_aload_n (pc := 74) (k0 := 0) (x := a0) 0 rfl dX10_get_74 ?_
    obtain ⟨v4, e5, hf⟩ := ob1 hf
    refine rt_gi (pc := 75) fd_X10_9 dX10_get_75 e5 ?_
    cases hf
    exact rt_ret (pc := 78) dX10_get_78 rfl
  rw [if_neg c3] at hf
  refine rt_icmp_ge_n (pc := 46) (x := a4) (z := v1) (tgt := 74) (by decide) dX10_get_46 c3 ?_
  refine rt_aload_n (pc := 49) (k0 := 0) (x := a0) 0 rfl dX10_get_49 ?_
  obtain ⟨v6, e7, hf⟩ := ob1 hf
  refine rt_gr (pc := 50) fd_X10_12 dX10_get_50 e7 ?_
  refine rt_iload (pc := 53) (i := 4) (x := a4) 2 rfl dX10_get_53 ?_
  refine rt_aload_n (pc := 55) (k0 := 0) (x := a0) 0 rfl dX10_get_55 ?_
  obtain ⟨v8, e9, hf⟩ := ob1 hf
  refine rt_gr (pc := 56) fd_X10_31 dX10_get_56 e9 ?_
  refine rt_bipush (pc := 59) (n := 20) (v := (20 : Int32)) (by decide) dX10_get_59 ?_
  refine rt_iload_n (pc := 61) (k0 := 3) (x := a3) 1 rfl dX10_get_61 ?_
  refine rt_imul (pc := 62) (x := (20 : Int32)) (z := a3) dX10_get_62 ?_
  refine rt_iload (pc := 63) (i := 4) (x := a4) 2 rfl dX10_get_63 ?_
  refine rt_iadd (pc := 65) (x := ((20 : Int32) * a3)) (z := a4) dX10_get_65 ?_
  obtain ⟨v10, e11, hf⟩ := ob1 hf
  refine rt_bald (pc := 66) dX10_get_66 e11 ?_
  obtain ⟨w12, e13, hf⟩ := ob1 hf
  refine rt_bast (pc := 67) dX10_get_67 e13 ?_
  refine rt_iinc (pc := 68) (i := 4) (n := 1) (x := a4) (v := (a4 + 1)) (l2 := [(4, .int (a4 + 1)), (0, va_rf a0), (3, .int a3)]) 2 rfl rfl (by decide) (by first | rfl | (simp [rt_cat, cat_i, cat_l]; done) | (simp [rt_cat, cat_i, cat_l]; decide)) dX10_get_68 ?_
  refine rt_goto (pc := 71) (tgt := 40) (by decide) dX10_get_71 ?_
  exact rt_locals (rt_sub [1, 2, 0] rfl) (ih _ _ _ _ _ _ hf)
noncomputable def bX10_get_0 (E : ah_E) (a0 : Option Nat) (a1 : Int64) (h : ah_H) : Option (Int32 × ah_H) :=
  (hp_gi h a0 11 51).bind fun v1 =>
  if v1 = 0 then
    ob2 (fX10_place E a0 a1 h) fun v6 w5 =>
    ob2 (fX10_isAt E a0 v6 a1 w5) fun v10 w9 =>
    if v10 = 0 then
      some ((-1 : Int32), w9)
    else
    (hp_gr w9 a0 11 4).bind fun v13 =>
    (hp_ldi w9 v13 v6).bind fun v15 =>
    (hp_pv w9 a0 11 2 (.int v15)).bind fun w17 =>
    bX10_get_40 E zf a0 v6 (0 : Int32) w17
  else
  some ((-4 : Int32), h)
set_option maxRecDepth 20000 in
set_option maxHeartbeats 4000000 in
theorem rX10_get_0 {X : ah_X} {d : Nat} (hd : 0 ≤ d) {a0 : Option Nat} {a1 : Int64} {h : ah_H} {r : Int32} {h2 : ah_H} (hf : bX10_get_0 X.2.2.2 a0 a1 h = some (r, h2)) : Rt X yX10_get cX10_get 5 (d + 1) 0 [(0, va_rf a0), (1, .long a1)] [] h (some (.int r)) h2 := by
  unfold bX10_get_0 at hf
  refine rt_aload_n (pc := 0) (k0 := 0) (x := a0) 0 rfl dX10_get_0 ?_
  obtain ⟨v1, e2, hf⟩ := ob1 hf
  refine rt_gi (pc := 1) fd_X10_90 dX10_get_1 e2 ?_
  by_cases c3 : v1 = 0
  · rw [if_pos c3] at hf
    refine rt_if_eq_p (pc := 4) (x := v1) (tgt := 10) (by decide) dX10_get_4 c3 ?_
    refine rt_aload_n (pc := 10) (k0 := 0) (x := a0) 0 rfl dX10_get_10 ?_
    refine rt_lload_n (pc := 11) (k0 := 1) (x := a1) 1 rfl dX10_get_11 ?_
    obtain ⟨v6, w5, e4, hf⟩ := ob2_of hf
    have g7 := sX10_place d (by omega) e4
    refine rt_callV (pc := 12) (As := [.long a1]) (st := []) me_X10_place mi_X10_place wl_X10_72 dX10_get_12 rfl (by decide) rfl g7.1 g7.2 ?_
    refine rt_istore_n (pc := 15) (k0 := 3) (x := v6) (l2 := [(3, .int v6), (0, va_rf a0), (1, .long a1)]) (by decide) (by first | rfl | (simp [rt_cat, cat_i, cat_l]; done) | (simp [rt_cat, cat_i, cat_l]; decide)) dX10_get_15 ?_
    refine rt_aload_n (pc := 16) (k0 := 0) (x := a0) 1 rfl dX10_get_16 ?_
    refine rt_iload_n (pc := 17) (k0 := 3) (x := v6) 0 rfl dX10_get_17 ?_
    refine rt_lload_n (pc := 18) (k0 := 1) (x := a1) 2 rfl dX10_get_18 ?_
    obtain ⟨v10, w9, e8, hf⟩ := ob2_of hf
    have g11 := sX10_isAt d (by omega) e8
    refine rt_callV (pc := 19) (As := [.int v6, .long a1]) (st := []) me_X10_isAt mi_X10_isAt wl_X10_76 dX10_get_19 rfl (by decide) rfl g11.1 g11.2 ?_
    by_cases c12 : v10 = 0
    · rw [if_pos c12] at hf
      refine rt_if_ne_p (pc := 22) (x := v10) (tgt := 27) (by decide) dX10_get_22 c12 ?_
      refine rt_iconst (pc := 25) (n := -1) (v := (-1 : Int32)) (by decide) dX10_get_25 ?_
      cases hf
      exact rt_ret (pc := 26) dX10_get_26 rfl
    rw [if_neg c12] at hf
    refine rt_if_ne_n (pc := 22) (x := v10) (tgt := 27) (by decide) dX10_get_22 c12 ?_
    refine rt_aload_n (pc := 27) (k0 := 0) (x := a0) 1 rfl dX10_get_27 ?_
    refine rt_aload_n (pc := 28) (k0 := 0) (x := a0) 1 rfl dX10_get_28 ?_
    obtain ⟨v13, e14, hf⟩ := ob1 hf
    refine rt_gr (pc := 29) fd_X10_27 dX10_get_29 e14 ?_
    refine rt_iload_n (pc := 32) (k0 := 3) (x := v6) 0 rfl dX10_get_32 ?_
    obtain ⟨v15, e16, hf⟩ := ob1 hf
    refine rt_iald (pc := 33) dX10_get_33 e16 ?_
    obtain ⟨w17, e18, hf⟩ := ob1 hf
    refine rt_putf (pc := 34) (x := a0) fw_X10_9 (Or.inl rfl) (pf_i _).1 (pf_i _).2 dX10_get_34 e18 ?_
    refine rt_iconst (pc := 37) (n := 0) (v := (0 : Int32)) (by decide) dX10_get_37 ?_
    refine rt_istore (pc := 38) (i := 4) (x := (0 : Int32)) (l2 := [(4, .int (0 : Int32)), (3, .int v6), (0, va_rf a0), (1, .long a1)]) (by decide) (by first | rfl | (simp [rt_cat, cat_i, cat_l]; done) | (simp [rt_cat, cat_i, cat_l]; decide)) dX10_get_38 ?_
    exact rt_locals (rt_sub [2, 1, 0] rfl) (rX10_get_40 hd zf _ _ _ _ _ _ hf)
  rw [if_neg c3] at hf
  refine rt_if_eq_n (pc := 4) (x := v1) (tgt := 10) (by decide) dX10_get_4 c3 ?_
  refine rt_bipush (pc := 7) (n := -4) (v := (-4 : Int32)) (by decide) dX10_get_7 ?_
  cases hf
  exact rt_ret (pc := 9) dX10_get_9 rfl
noncomputable def fX10_get (E : ah_E) (a0 : Option Nat) (a1 : Int64) (h : ah_H) : Option (Int32 × ah_H) := if hp_rcv h a0 11 = false then none else bX10_get_0 E a0 a1 h
set_option maxRecDepth 20000 in
set_option maxHeartbeats 4000000 in
theorem sX10_get {X : ah_X} (d : Nat) (hd : 1 ≤ d) {a0 : Option Nat} {a1 : Int64} {h : ah_H} {r : Int32} {h2 : ah_H} (hf : fX10_get X.2.2.2 a0 a1 h = some (r, h2)) : hp_rcv h a0 11 = true ∧ Rn X yX10_get cX10_get 5 (some .int) d [va_rf a0, .long a1] h (some (.int r)) h2 := by
  unfold fX10_get at hf
  by_cases c0 : hp_rcv h a0 11 = false
  · rw [if_pos c0] at hf; cases hf
  rw [if_neg c0] at hf
  refine ⟨(Bool.not_eq_false _).mp c0, ?_⟩
  obtain ⟨d, rfl⟩ : ∃ k, d = k + 1 := ⟨d - 1, by omega⟩
  exact Rn.of2 me_X10_get (by simp [lg_sl, rt_cat, cat_i, cat_l]) (ok_i _) (l := [(0, va_rf a0), (1, .long a1)]) (by simp [lv_args, rt_cat, cat_i, cat_l]) (rX10_get_0 (by omega) hf)
noncomputable def bX10_has_28 (E : ah_E) (s0 : Int32) (h : ah_H) : Option (Int32 × ah_H) :=
  some (s0, h)
set_option maxRecDepth 20000 in
set_option maxHeartbeats 4000000 in
theorem rX10_has_28 {X : ah_X} {d : Nat} (hd : 0 ≤ d) {s0 : Int32} {h : ah_H} {r : Int32} {h2 : ah_H} (hf : bX10_has_28 X.2.2.2 s0 h = some (r, h2)) : Rt X yX10_has cX10_has 3 (d + 1) 28 [] [.int s0] h (some (.int r)) h2 := by
  unfold bX10_has_28 at hf
  cases hf
  exact rt_ret (pc := 28) dX10_has_28 rfl
noncomputable def bX10_has_0 (E : ah_E) (a0 : Option Nat) (a1 : Int64) (h : ah_H) : Option (Int32 × ah_H) :=
  (hp_gi h a0 11 51).bind fun v1 =>
  if v1 = 0 then
    ob2 (fX10_place E a0 a1 h) fun v6 w5 =>
    ob2 (fX10_isAt E a0 v6 a1 w5) fun v10 w9 =>
    if v10 = 0 then
      bX10_has_28 E (0 : Int32) w9
    else
    bX10_has_28 E (1 : Int32) w9
  else
  some ((-4 : Int32), h)
set_option maxRecDepth 20000 in
set_option maxHeartbeats 4000000 in
theorem rX10_has_0 {X : ah_X} {d : Nat} (hd : 0 ≤ d) {a0 : Option Nat} {a1 : Int64} {h : ah_H} {r : Int32} {h2 : ah_H} (hf : bX10_has_0 X.2.2.2 a0 a1 h = some (r, h2)) : Rt X yX10_has cX10_has 3 (d + 1) 0 [(0, va_rf a0), (1, .long a1)] [] h (some (.int r)) h2 := by
  unfold bX10_has_0 at hf
  refine rt_aload_n (pc := 0) (k0 := 0) (x := a0) 0 rfl dX10_has_0 ?_
  obtain ⟨v1, e2, hf⟩ := ob1 hf
  refine rt_gi (pc := 1) fd_X10_90 dX10_has_1 e2 ?_
  by_cases c3 : v1 = 0
  · rw [if_pos c3] at hf
    refine rt_if_eq_p (pc := 4) (x := v1) (tgt := 10) (by decide) dX10_has_4 c3 ?_
    refine rt_aload_n (pc := 10) (k0 := 0) (x := a0) 0 rfl dX10_has_10 ?_
    refine rt_aload_n (pc := 11) (k0 := 0) (x := a0) 0 rfl dX10_has_11 ?_
    refine rt_lload_n (pc := 12) (k0 := 1) (x := a1) 1 rfl dX10_has_12 ?_
    obtain ⟨v6, w5, e4, hf⟩ := ob2_of hf
    have g7 := sX10_place d (by omega) e4
    refine rt_callV (pc := 13) (As := [.long a1]) (st := [va_rf a0]) me_X10_place mi_X10_place wl_X10_72 dX10_has_13 rfl (by simp [rt_cat, cat_i, cat_l]) rfl g7.1 g7.2 ?_
    refine rt_lload_n (pc := 16) (k0 := 1) (x := a1) 1 rfl dX10_has_16 ?_
    obtain ⟨v10, w9, e8, hf⟩ := ob2_of hf
    have g11 := sX10_isAt d (by omega) e8
    refine rt_callV (pc := 17) (As := [.int v6, .long a1]) (st := []) me_X10_isAt mi_X10_isAt wl_X10_76 dX10_has_17 rfl (by decide) rfl g11.1 g11.2 ?_
    by_cases c12 : v10 = 0
    · rw [if_pos c12] at hf
      refine rt_if_eq_p (pc := 20) (x := v10) (tgt := 27) (by decide) dX10_has_20 c12 ?_
      refine rt_iconst (pc := 27) (n := 0) (v := (0 : Int32)) (by decide) dX10_has_27 ?_
      exact rt_locals (rt_sub [] rfl) (rX10_has_28 hd hf)
    rw [if_neg c12] at hf
    refine rt_if_eq_n (pc := 20) (x := v10) (tgt := 27) (by decide) dX10_has_20 c12 ?_
    refine rt_iconst (pc := 23) (n := 1) (v := (1 : Int32)) (by decide) dX10_has_23 ?_
    refine rt_goto (pc := 24) (tgt := 28) (by decide) dX10_has_24 ?_
    exact rt_locals (rt_sub [] rfl) (rX10_has_28 hd hf)
  rw [if_neg c3] at hf
  refine rt_if_eq_n (pc := 4) (x := v1) (tgt := 10) (by decide) dX10_has_4 c3 ?_
  refine rt_bipush (pc := 7) (n := -4) (v := (-4 : Int32)) (by decide) dX10_has_7 ?_
  cases hf
  exact rt_ret (pc := 9) dX10_has_9 rfl
noncomputable def fX10_has (E : ah_E) (a0 : Option Nat) (a1 : Int64) (h : ah_H) : Option (Int32 × ah_H) := if hp_rcv h a0 11 = false then none else bX10_has_0 E a0 a1 h
set_option maxRecDepth 20000 in
set_option maxHeartbeats 4000000 in
theorem sX10_has {X : ah_X} (d : Nat) (hd : 1 ≤ d) {a0 : Option Nat} {a1 : Int64} {h : ah_H} {r : Int32} {h2 : ah_H} (hf : fX10_has X.2.2.2 a0 a1 h = some (r, h2)) : hp_rcv h a0 11 = true ∧ Rn X yX10_has cX10_has 3 (some .int) d [va_rf a0, .long a1] h (some (.int r)) h2 := by
  unfold fX10_has at hf
  by_cases c0 : hp_rcv h a0 11 = false
  · rw [if_pos c0] at hf; cases hf
  rw [if_neg c0] at hf
  refine ⟨(Bool.not_eq_false _).mp c0, ?_⟩
  obtain ⟨d, rfl⟩ : ∃ k, d = k + 1 := ⟨d - 1, by omega⟩
  exact Rn.of2 me_X10_has (by simp [lg_sl, rt_cat, cat_i, cat_l]) (ok_i _) (l := [(0, va_rf a0), (1, .long a1)]) (by simp [lv_args, rt_cat, cat_i, cat_l]) (rX10_has_0 (by omega) hf)
noncomputable def bX10_height_17 (E : ah_E) : Nat → Option Nat → Int32 → Int32 → ah_H → Option (Int32 × ah_H)
  | 0 => fun _ _ _ _ => none
  | n + 1 => fun a0 a1 a2 h =>
  (hp_gr h a0 11 18).bind fun v1 =>
  (hp_ldb h v1 a2).bind fun v3 =>
  if v3 = 0 then
    (hp_gr h a0 11 22).bind fun v6 =>
    (hp_ldi h v6 ((128 : Int32) * a2)).bind fun v8 =>
    bX10_height_17 E n a0 (a1 + 1) v8 h
  else
  some (a1, h)
set_option maxRecDepth 20000 in
set_option maxHeartbeats 4000000 in
theorem rX10_height_17 {X : ah_X} {d : Nat} (n : Nat) : ∀ (a0 : Option Nat) (a1 : Int32) (a2 : Int32) (h : ah_H) (r : Int32) (h2 : ah_H), bX10_height_17 X.2.2.2 n a0 a1 a2 h = some (r, h2) → Rt X yX10_height cX10_height 3 d 17 [(0, va_rf a0), (1, .int a1), (2, .int a2)] [] h (some (.int r)) h2 := by
  induction n with
  | zero => intro a0 a1 a2 h r h2 hf; cases hf
  | succ n ih =>
  intro a0 a1 a2 h r h2 hf
  unfold bX10_height_17 at hf
  refine rt_aload_n (pc := 17) (k0 := 0) (x := a0) 0 rfl dX10_height_17 ?_
  obtain ⟨v1, e2, hf⟩ := ob1 hf
  refine rt_gr (pc := 18) fd_X10_119 dX10_height_18 e2 ?_
  refine rt_iload_n (pc := 21) (k0 := 2) (x := a2) 2 rfl dX10_height_21 ?_
  obtain ⟨v3, e4, hf⟩ := ob1 hf
  refine rt_bald (pc := 22) dX10_height_22 e4 ?_
  by_cases c5 : v3 = 0
  · rw [if_pos c5] at hf
    refine rt_if_ne_p (pc := 23) (x := v3) (tgt := 43) (by decide) dX10_height_23 c5 ?_
    refine rt_iinc (pc := 26) (i := 1) (n := 1) (x := a1) (v := (a1 + 1)) (l2 := [(1, .int (a1 + 1)), (0, va_rf a0), (2, .int a2)]) 1 rfl rfl (by decide) (by first | rfl | (simp [rt_cat, cat_i, cat_l]; done) | (simp [rt_cat, cat_i, cat_l]; decide)) dX10_height_26 ?_
    refine rt_aload_n (pc := 29) (k0 := 0) (x := a0) 1 rfl dX10_height_29 ?_
    obtain ⟨v6, e7, hf⟩ := ob1 hf
    refine rt_gr (pc := 30) fd_X10_133 dX10_height_30 e7 ?_
    refine rt_sipush (pc := 33) (n := 128) (v := (128 : Int32)) (by decide) dX10_height_33 ?_
    refine rt_iload_n (pc := 36) (k0 := 2) (x := a2) 2 rfl dX10_height_36 ?_
    refine rt_imul (pc := 37) (x := (128 : Int32)) (z := a2) dX10_height_37 ?_
    obtain ⟨v8, e9, hf⟩ := ob1 hf
    refine rt_iald (pc := 38) dX10_height_38 e9 ?_
    refine rt_istore_n (pc := 39) (k0 := 2) (x := v8) (l2 := [(2, .int v8), (1, .int (a1 + 1)), (0, va_rf a0)]) (by decide) (by first | rfl | (simp [rt_cat, cat_i, cat_l]; done) | (simp [rt_cat, cat_i, cat_l]; decide)) dX10_height_39 ?_
    refine rt_goto (pc := 40) (tgt := 17) (by decide) dX10_height_40 ?_
    exact rt_locals (rt_sub [2, 1, 0] rfl) (ih _ _ _ _ _ _ hf)
  rw [if_neg c5] at hf
  refine rt_if_ne_n (pc := 23) (x := v3) (tgt := 43) (by decide) dX10_height_23 c5 ?_
  refine rt_iload_n (pc := 43) (k0 := 1) (x := a1) 1 rfl dX10_height_43 ?_
  cases hf
  exact rt_ret (pc := 44) dX10_height_44 rfl
noncomputable def bX10_height_0 (E : ah_E) (a0 : Option Nat) (h : ah_H) : Option (Int32 × ah_H) :=
  (hp_gi h a0 11 51).bind fun v1 =>
  if v1 = 0 then
    (hp_gi h a0 11 30).bind fun v4 =>
    bX10_height_17 E zf a0 (1 : Int32) v4 h
  else
  some ((-4 : Int32), h)
set_option maxRecDepth 20000 in
set_option maxHeartbeats 4000000 in
theorem rX10_height_0 {X : ah_X} {d : Nat} {a0 : Option Nat} {h : ah_H} {r : Int32} {h2 : ah_H} (hf : bX10_height_0 X.2.2.2 a0 h = some (r, h2)) : Rt X yX10_height cX10_height 3 d 0 [(0, va_rf a0)] [] h (some (.int r)) h2 := by
  unfold bX10_height_0 at hf
  refine rt_aload_n (pc := 0) (k0 := 0) (x := a0) 0 rfl dX10_height_0 ?_
  obtain ⟨v1, e2, hf⟩ := ob1 hf
  refine rt_gi (pc := 1) fd_X10_90 dX10_height_1 e2 ?_
  by_cases c3 : v1 = 0
  · rw [if_pos c3] at hf
    refine rt_if_eq_p (pc := 4) (x := v1) (tgt := 10) (by decide) dX10_height_4 c3 ?_
    refine rt_iconst (pc := 10) (n := 1) (v := (1 : Int32)) (by decide) dX10_height_10 ?_
    refine rt_istore_n (pc := 11) (k0 := 1) (x := (1 : Int32)) (l2 := [(1, .int (1 : Int32)), (0, va_rf a0)]) (by decide) (by first | rfl | (simp [rt_cat, cat_i, cat_l]; done) | (simp [rt_cat, cat_i, cat_l]; decide)) dX10_height_11 ?_
    refine rt_aload_n (pc := 12) (k0 := 0) (x := a0) 1 rfl dX10_height_12 ?_
    obtain ⟨v4, e5, hf⟩ := ob1 hf
    refine rt_gi (pc := 13) fd_X10_277 dX10_height_13 e5 ?_
    refine rt_istore_n (pc := 16) (k0 := 2) (x := v4) (l2 := [(2, .int v4), (1, .int (1 : Int32)), (0, va_rf a0)]) (by decide) (by first | rfl | (simp [rt_cat, cat_i, cat_l]; done) | (simp [rt_cat, cat_i, cat_l]; decide)) dX10_height_16 ?_
    exact rt_locals (rt_sub [2, 1, 0] rfl) (rX10_height_17 zf _ _ _ _ _ _ hf)
  rw [if_neg c3] at hf
  refine rt_if_eq_n (pc := 4) (x := v1) (tgt := 10) (by decide) dX10_height_4 c3 ?_
  refine rt_bipush (pc := 7) (n := -4) (v := (-4 : Int32)) (by decide) dX10_height_7 ?_
  cases hf
  exact rt_ret (pc := 9) dX10_height_9 rfl
noncomputable def fX10_height (E : ah_E) (a0 : Option Nat) (h : ah_H) : Option (Int32 × ah_H) := if hp_rcv h a0 11 = false then none else bX10_height_0 E a0 h
set_option maxRecDepth 20000 in
set_option maxHeartbeats 4000000 in
theorem sX10_height {X : ah_X} (d : Nat) (hd : 0 ≤ d) {a0 : Option Nat} {h : ah_H} {r : Int32} {h2 : ah_H} (hf : fX10_height X.2.2.2 a0 h = some (r, h2)) : hp_rcv h a0 11 = true ∧ Rn X yX10_height cX10_height 3 (some .int) d [va_rf a0] h (some (.int r)) h2 := by
  unfold fX10_height at hf
  by_cases c0 : hp_rcv h a0 11 = false
  · rw [if_pos c0] at hf; cases hf
  rw [if_neg c0] at hf
  refine ⟨(Bool.not_eq_false _).mp c0, ?_⟩
  exact Rn.of2 me_X10_height (by simp [lg_sl, rt_cat, cat_i, cat_l]) (ok_i _) (l := [(0, va_rf a0)]) (by simp [lv_args, rt_cat, cat_i, cat_l]) (rX10_height_0 hf)
noncomputable def bX10_clearPages_69 (E : ah_E) (k41 : Option Nat → Int32 → ah_H → Option ah_H) (a0 : Option Nat) (a1 : Int32) (s0 : Option Nat) (s1 : Int32) (s2 : Int32) (h : ah_H) : Option ah_H :=
  (hp_sti h s0 s1 s2).bind fun w1 =>
  k41 a0 (a1 + 1) w1
set_option maxRecDepth 20000 in
set_option maxHeartbeats 4000000 in
theorem rX10_clearPages_69 {X : ah_X} {d : Nat} {k41 : Option Nat → Int32 → ah_H → Option ah_H} (hk41 : ∀ (x0 : Option Nat) (x1 : Int32) (h : ah_H) (h2 : ah_H), k41 x0 x1 h = some h2 → Rt X yX10_clearPages cX10_clearPages 2 d 41 [(0, va_rf x0), (1, .int x1)] [] h none h2) {a0 : Option Nat} {a1 : Int32} {s0 : Option Nat} {s1 : Int32} {s2 : Int32} {h : ah_H} {h2 : ah_H} (hf : bX10_clearPages_69 X.2.2.2 k41 a0 a1 s0 s1 s2 h = some h2) : Rt X yX10_clearPages cX10_clearPages 2 d 69 [(0, va_rf a0), (1, .int a1)] [.int s2, .int s1, va_rf s0] h none h2 := by
  unfold bX10_clearPages_69 at hf
  obtain ⟨w1, e2, hf⟩ := ob1 hf
  refine rt_iast (pc := 69) dX10_clearPages_69 e2 ?_
  refine rt_iinc (pc := 70) (i := 1) (n := 1) (x := a1) (v := (a1 + 1)) (l2 := [(1, .int (a1 + 1)), (0, va_rf a0)]) 1 rfl rfl (by decide) (by first | rfl | (simp [rt_cat, cat_i, cat_l]; done) | (simp [rt_cat, cat_i, cat_l]; decide)) dX10_clearPages_70 ?_
  refine rt_goto (pc := 73) (tgt := 41) (by decide) dX10_clearPages_73 ?_
  exact rt_locals (rt_sub [1, 0] rfl) (hk41 _ _ _ _ hf)
noncomputable def bX10_clearPages_111 (E : ah_E) (k83 : Option Nat → Int32 → ah_H → Option ah_H) (a0 : Option Nat) (a1 : Int32) (s0 : Option Nat) (s1 : Int32) (s2 : Int32) (h : ah_H) : Option ah_H :=
  (hp_sti h s0 s1 s2).bind fun w1 =>
  k83 a0 (a1 + 1) w1
set_option maxRecDepth 20000 in
set_option maxHeartbeats 4000000 in
theorem rX10_clearPages_111 {X : ah_X} {d : Nat} {k83 : Option Nat → Int32 → ah_H → Option ah_H} (hk83 : ∀ (x0 : Option Nat) (x1 : Int32) (h : ah_H) (h2 : ah_H), k83 x0 x1 h = some h2 → Rt X yX10_clearPages cX10_clearPages 2 d 83 [(0, va_rf x0), (1, .int x1)] [] h none h2) {a0 : Option Nat} {a1 : Int32} {s0 : Option Nat} {s1 : Int32} {s2 : Int32} {h : ah_H} {h2 : ah_H} (hf : bX10_clearPages_111 X.2.2.2 k83 a0 a1 s0 s1 s2 h = some h2) : Rt X yX10_clearPages cX10_clearPages 2 d 111 [(0, va_rf a0), (1, .int a1)] [.int s2, .int s1, va_rf s0] h none h2 := by
  unfold bX10_clearPages_111 at hf
  obtain ⟨w1, e2, hf⟩ := ob1 hf
  refine rt_iast (pc := 111) dX10_clearPages_111 e2 ?_
  refine rt_iinc (pc := 112) (i := 1) (n := 1) (x := a1) (v := (a1 + 1)) (l2 := [(1, .int (a1 + 1)), (0, va_rf a0)]) 1 rfl rfl (by decide) (by first | rfl | (simp [rt_cat, cat_i, cat_l]; done) | (simp [rt_cat, cat_i, cat_l]; decide)) dX10_clearPages_112 ?_
  refine rt_goto (pc := 115) (tgt := 83) (by decide) dX10_clearPages_115 ?_
  exact rt_locals (rt_sub [1, 0] rfl) (hk83 _ _ _ _ hf)
noncomputable def bX10_clearPages_83 (E : ah_E) : Nat → Option Nat → Int32 → ah_H → Option ah_H
  | 0 => fun _ _ _ => none
  | n + 1 => fun a0 a1 h =>
  if (14000 : Int32) ≤ a1 then
    (hp_pv h a0 11 40 (.int (0 : Int32))).bind fun w2 =>
    some w2
  else
  (hp_gr h a0 11 39).bind fun v4 =>
  if (14000 : Int32) ≤ (a1 + (1 : Int32)) then
    bX10_clearPages_111 E (bX10_clearPages_83 E n) a0 a1 v4 a1 (-1 : Int32) h
  else
  bX10_clearPages_111 E (bX10_clearPages_83 E n) a0 a1 v4 a1 (a1 + (1 : Int32)) h
set_option maxRecDepth 20000 in
set_option maxHeartbeats 4000000 in
theorem rX10_clearPages_83 {X : ah_X} {d : Nat} (n : Nat) : ∀ (a0 : Option Nat) (a1 : Int32) (h : ah_H) (h2 : ah_H), bX10_clearPages_83 X.2.2.2 n a0 a1 h = some h2 → Rt X yX10_clearPages cX10_clearPages 2 d 83 [(0, va_rf a0), (1, .int a1)] [] h none h2 := by
  induction n with
  | zero => intro a0 a1 h h2 hf; cases hf
  | succ n ih =>
  intro a0 a1 h h2 hf
  unfold bX10_clearPages_83 at hf
  refine rt_iload_n (pc := 83) (k0 := 1) (x := a1) 1 rfl dX10_clearPages_83 ?_
  refine rt_sipush (pc := 84) (n := 14000) (v := (14000 : Int32)) (by decide) dX10_clearPages_84 ?_
  by_cases c1 : (14000 : Int32) ≤ a1
  · rw [if_pos c1] at hf
    refine rt_icmp_ge_p (pc := 87) (x := a1) (z := (14000 : Int32)) (tgt := 118) (by decide) dX10_clearPages_87 c1 ?_
    refine rt_aload_n (pc := 118) (k0 := 0) (x := a0) 0 rfl dX10_clearPages_118 ?_
    refine rt_iconst (pc := 119) (n := 0) (v := (0 : Int32)) (by decide) dX10_clearPages_119 ?_
    obtain ⟨w2, e3, hf⟩ := ob1 hf
    refine rt_putf (pc := 120) (x := a0) fw_X10_286 (Or.inl rfl) (pf_i _).1 (pf_i _).2 dX10_clearPages_120 e3 ?_
    cases hf
    exact rt_ret (pc := 123) dX10_clearPages_123 rfl
  rw [if_neg c1] at hf
  refine rt_icmp_ge_n (pc := 87) (x := a1) (z := (14000 : Int32)) (tgt := 118) (by decide) dX10_clearPages_87 c1 ?_
  refine rt_aload_n (pc := 90) (k0 := 0) (x := a0) 0 rfl dX10_clearPages_90 ?_
  obtain ⟨v4, e5, hf⟩ := ob1 hf
  refine rt_gr (pc := 91) fd_X10_176 dX10_clearPages_91 e5 ?_
  refine rt_iload_n (pc := 94) (k0 := 1) (x := a1) 1 rfl dX10_clearPages_94 ?_
  refine rt_iload_n (pc := 95) (k0 := 1) (x := a1) 1 rfl dX10_clearPages_95 ?_
  refine rt_iconst (pc := 96) (n := 1) (v := (1 : Int32)) (by decide) dX10_clearPages_96 ?_
  refine rt_iadd (pc := 97) (x := a1) (z := (1 : Int32)) dX10_clearPages_97 ?_
  refine rt_sipush (pc := 98) (n := 14000) (v := (14000 : Int32)) (by decide) dX10_clearPages_98 ?_
  by_cases c6 : (14000 : Int32) ≤ (a1 + (1 : Int32))
  · rw [if_pos c6] at hf
    refine rt_icmp_ge_p (pc := 101) (x := (a1 + (1 : Int32))) (z := (14000 : Int32)) (tgt := 110) (by decide) dX10_clearPages_101 c6 ?_
    refine rt_iconst (pc := 110) (n := -1) (v := (-1 : Int32)) (by decide) dX10_clearPages_110 ?_
    exact rX10_clearPages_111 ih hf
  rw [if_neg c6] at hf
  refine rt_icmp_ge_n (pc := 101) (x := (a1 + (1 : Int32))) (z := (14000 : Int32)) (tgt := 110) (by decide) dX10_clearPages_101 c6 ?_
  refine rt_iload_n (pc := 104) (k0 := 1) (x := a1) 1 rfl dX10_clearPages_104 ?_
  refine rt_iconst (pc := 105) (n := 1) (v := (1 : Int32)) (by decide) dX10_clearPages_105 ?_
  refine rt_iadd (pc := 106) (x := a1) (z := (1 : Int32)) dX10_clearPages_106 ?_
  refine rt_goto (pc := 107) (tgt := 111) (by decide) dX10_clearPages_107 ?_
  exact rX10_clearPages_111 ih hf
noncomputable def bX10_clearPages_41 (E : ah_E) : Nat → Option Nat → Int32 → ah_H → Option ah_H
  | 0 => fun _ _ _ => none
  | n + 1 => fun a0 a1 h =>
  if (7000 : Int32) ≤ a1 then
    (hp_pv h a0 11 35 (.int (0 : Int32))).bind fun w2 =>
    bX10_clearPages_83 E zf a0 (0 : Int32) w2
  else
  (hp_gr h a0 11 34).bind fun v4 =>
  if (7000 : Int32) ≤ (a1 + (1 : Int32)) then
    bX10_clearPages_69 E (bX10_clearPages_41 E n) a0 a1 v4 a1 (-1 : Int32) h
  else
  bX10_clearPages_69 E (bX10_clearPages_41 E n) a0 a1 v4 a1 (a1 + (1 : Int32)) h
set_option maxRecDepth 20000 in
set_option maxHeartbeats 4000000 in
theorem rX10_clearPages_41 {X : ah_X} {d : Nat} (n : Nat) : ∀ (a0 : Option Nat) (a1 : Int32) (h : ah_H) (h2 : ah_H), bX10_clearPages_41 X.2.2.2 n a0 a1 h = some h2 → Rt X yX10_clearPages cX10_clearPages 2 d 41 [(0, va_rf a0), (1, .int a1)] [] h none h2 := by
  induction n with
  | zero => intro a0 a1 h h2 hf; cases hf
  | succ n ih =>
  intro a0 a1 h h2 hf
  unfold bX10_clearPages_41 at hf
  refine rt_iload_n (pc := 41) (k0 := 1) (x := a1) 1 rfl dX10_clearPages_41 ?_
  refine rt_sipush (pc := 42) (n := 7000) (v := (7000 : Int32)) (by decide) dX10_clearPages_42 ?_
  by_cases c1 : (7000 : Int32) ≤ a1
  · rw [if_pos c1] at hf
    refine rt_icmp_ge_p (pc := 45) (x := a1) (z := (7000 : Int32)) (tgt := 76) (by decide) dX10_clearPages_45 c1 ?_
    refine rt_aload_n (pc := 76) (k0 := 0) (x := a0) 0 rfl dX10_clearPages_76 ?_
    refine rt_iconst (pc := 77) (n := 0) (v := (0 : Int32)) (by decide) dX10_clearPages_77 ?_
    obtain ⟨w2, e3, hf⟩ := ob1 hf
    refine rt_putf (pc := 78) (x := a0) fw_X10_283 (Or.inl rfl) (pf_i _).1 (pf_i _).2 dX10_clearPages_78 e3 ?_
    refine rt_iconst (pc := 81) (n := 0) (v := (0 : Int32)) (by decide) dX10_clearPages_81 ?_
    refine rt_istore_n (pc := 82) (k0 := 1) (x := (0 : Int32)) (l2 := [(1, .int (0 : Int32)), (0, va_rf a0)]) (by decide) (by first | rfl | (simp [rt_cat, cat_i, cat_l]; done) | (simp [rt_cat, cat_i, cat_l]; decide)) dX10_clearPages_82 ?_
    exact rt_locals (rt_sub [1, 0] rfl) (rX10_clearPages_83 zf _ _ _ _ hf)
  rw [if_neg c1] at hf
  refine rt_icmp_ge_n (pc := 45) (x := a1) (z := (7000 : Int32)) (tgt := 76) (by decide) dX10_clearPages_45 c1 ?_
  refine rt_aload_n (pc := 48) (k0 := 0) (x := a0) 0 rfl dX10_clearPages_48 ?_
  obtain ⟨v4, e5, hf⟩ := ob1 hf
  refine rt_gr (pc := 49) fd_X10_164 dX10_clearPages_49 e5 ?_
  refine rt_iload_n (pc := 52) (k0 := 1) (x := a1) 1 rfl dX10_clearPages_52 ?_
  refine rt_iload_n (pc := 53) (k0 := 1) (x := a1) 1 rfl dX10_clearPages_53 ?_
  refine rt_iconst (pc := 54) (n := 1) (v := (1 : Int32)) (by decide) dX10_clearPages_54 ?_
  refine rt_iadd (pc := 55) (x := a1) (z := (1 : Int32)) dX10_clearPages_55 ?_
  refine rt_sipush (pc := 56) (n := 7000) (v := (7000 : Int32)) (by decide) dX10_clearPages_56 ?_
  by_cases c6 : (7000 : Int32) ≤ (a1 + (1 : Int32))
  · rw [if_pos c6] at hf
    refine rt_icmp_ge_p (pc := 59) (x := (a1 + (1 : Int32))) (z := (7000 : Int32)) (tgt := 68) (by decide) dX10_clearPages_59 c6 ?_
    refine rt_iconst (pc := 68) (n := -1) (v := (-1 : Int32)) (by decide) dX10_clearPages_68 ?_
    exact rX10_clearPages_69 ih hf
  rw [if_neg c6] at hf
  refine rt_icmp_ge_n (pc := 59) (x := (a1 + (1 : Int32))) (z := (7000 : Int32)) (tgt := 68) (by decide) dX10_clearPages_59 c6 ?_
  refine rt_iload_n (pc := 62) (k0 := 1) (x := a1) 1 rfl dX10_clearPages_62 ?_
  refine rt_iconst (pc := 63) (n := 1) (v := (1 : Int32)) (by decide) dX10_clearPages_63 ?_
  refine rt_iadd (pc := 64) (x := a1) (z := (1 : Int32)) dX10_clearPages_64 ?_
  refine rt_goto (pc := 65) (tgt := 69) (by decide) dX10_clearPages_65 ?_
  exact rX10_clearPages_69 ih hf
noncomputable def bX10_clearPages_9 (E : ah_E) : Nat → Option Nat → Int32 → ah_H → Option ah_H
  | 0 => fun _ _ _ => none
  | n + 1 => fun a0 a1 h =>
  if a1 < 0 then
    bX10_clearPages_41 E zf a0 (0 : Int32) h
  else
  (hp_gr h a0 11 28).bind fun v2 =>
  (hp_gi h a0 11 29).bind fun v4 =>
  (hp_sti h v2 v4 a1).bind fun w6 =>
  (hp_gi w6 a0 11 29).bind fun v8 =>
  (hp_pv w6 a0 11 29 (.int (v8 + (1 : Int32)))).bind fun w10 =>
  bX10_clearPages_9 E n a0 (a1 + (-1)) w10
set_option maxRecDepth 20000 in
set_option maxHeartbeats 4000000 in
theorem rX10_clearPages_9 {X : ah_X} {d : Nat} (n : Nat) : ∀ (a0 : Option Nat) (a1 : Int32) (h : ah_H) (h2 : ah_H), bX10_clearPages_9 X.2.2.2 n a0 a1 h = some h2 → Rt X yX10_clearPages cX10_clearPages 2 d 9 [(0, va_rf a0), (1, .int a1)] [] h none h2 := by
  induction n with
  | zero => intro a0 a1 h h2 hf; cases hf
  | succ n ih =>
  intro a0 a1 h h2 hf
  unfold bX10_clearPages_9 at hf
  refine rt_iload_n (pc := 9) (k0 := 1) (x := a1) 1 rfl dX10_clearPages_9 ?_
  by_cases c1 : a1 < 0
  · rw [if_pos c1] at hf
    refine rt_if_lt_p (pc := 10) (x := a1) (tgt := 39) (by decide) dX10_clearPages_10 c1 ?_
    refine rt_iconst (pc := 39) (n := 0) (v := (0 : Int32)) (by decide) dX10_clearPages_39 ?_
    refine rt_istore_n (pc := 40) (k0 := 1) (x := (0 : Int32)) (l2 := [(1, .int (0 : Int32)), (0, va_rf a0)]) (by decide) (by first | rfl | (simp [rt_cat, cat_i, cat_l]; done) | (simp [rt_cat, cat_i, cat_l]; decide)) dX10_clearPages_40 ?_
    exact rt_locals (rt_sub [1, 0] rfl) (rX10_clearPages_41 zf _ _ _ _ hf)
  rw [if_neg c1] at hf
  refine rt_if_lt_n (pc := 10) (x := a1) (tgt := 39) (by decide) dX10_clearPages_10 c1 ?_
  refine rt_aload_n (pc := 13) (k0 := 0) (x := a0) 0 rfl dX10_clearPages_13 ?_
  obtain ⟨v2, e3, hf⟩ := ob1 hf
  refine rt_gr (pc := 14) fd_X10_151 dX10_clearPages_14 e3 ?_
  refine rt_aload_n (pc := 17) (k0 := 0) (x := a0) 0 rfl dX10_clearPages_17 ?_
  obtain ⟨v4, e5, hf⟩ := ob1 hf
  refine rt_gi (pc := 18) fd_X10_280 dX10_clearPages_18 e5 ?_
  refine rt_iload_n (pc := 21) (k0 := 1) (x := a1) 1 rfl dX10_clearPages_21 ?_
  obtain ⟨w6, e7, hf⟩ := ob1 hf
  refine rt_iast (pc := 22) dX10_clearPages_22 e7 ?_
  refine rt_aload_n (pc := 23) (k0 := 0) (x := a0) 0 rfl dX10_clearPages_23 ?_
  refine rt_dup (pc := 24) (rt_cat _) dX10_clearPages_24 ?_
  obtain ⟨v8, e9, hf⟩ := ob1 hf
  refine rt_gi (pc := 25) fd_X10_280 dX10_clearPages_25 e9 ?_
  refine rt_iconst (pc := 28) (n := 1) (v := (1 : Int32)) (by decide) dX10_clearPages_28 ?_
  refine rt_iadd (pc := 29) (x := v8) (z := (1 : Int32)) dX10_clearPages_29 ?_
  obtain ⟨w10, e11, hf⟩ := ob1 hf
  refine rt_putf (pc := 30) (x := a0) fw_X10_280 (Or.inl rfl) (pf_i _).1 (pf_i _).2 dX10_clearPages_30 e11 ?_
  refine rt_iinc (pc := 33) (i := 1) (n := -1) (x := a1) (v := (a1 + (-1))) (l2 := [(1, .int (a1 + (-1))), (0, va_rf a0)]) 1 rfl rfl (by decide) (by first | rfl | (simp [rt_cat, cat_i, cat_l]; done) | (simp [rt_cat, cat_i, cat_l]; decide)) dX10_clearPages_33 ?_
  refine rt_goto (pc := 36) (tgt := 9) (by decide) dX10_clearPages_36 ?_
  exact rt_locals (rt_sub [1, 0] rfl) (ih _ _ _ _ hf)
noncomputable def bX10_clearPages_0 (E : ah_E) (a0 : Option Nat) (h : ah_H) : Option ah_H :=
  (hp_pv h a0 11 29 (.int (0 : Int32))).bind fun w1 =>
  bX10_clearPages_9 E zf a0 (2699 : Int32) w1
set_option maxRecDepth 20000 in
set_option maxHeartbeats 4000000 in
theorem rX10_clearPages_0 {X : ah_X} {d : Nat} {a0 : Option Nat} {h : ah_H} {h2 : ah_H} (hf : bX10_clearPages_0 X.2.2.2 a0 h = some h2) : Rt X yX10_clearPages cX10_clearPages 2 d 0 [(0, va_rf a0)] [] h none h2 := by
  unfold bX10_clearPages_0 at hf
  refine rt_aload_n (pc := 0) (k0 := 0) (x := a0) 0 rfl dX10_clearPages_0 ?_
  refine rt_iconst (pc := 1) (n := 0) (v := (0 : Int32)) (by decide) dX10_clearPages_1 ?_
  obtain ⟨w1, e2, hf⟩ := ob1 hf
  refine rt_putf (pc := 2) (x := a0) fw_X10_280 (Or.inl rfl) (pf_i _).1 (pf_i _).2 dX10_clearPages_2 e2 ?_
  refine rt_sipush (pc := 5) (n := 2699) (v := (2699 : Int32)) (by decide) dX10_clearPages_5 ?_
  refine rt_istore_n (pc := 8) (k0 := 1) (x := (2699 : Int32)) (l2 := [(1, .int (2699 : Int32)), (0, va_rf a0)]) (by decide) (by first | rfl | (simp [rt_cat, cat_i, cat_l]; done) | (simp [rt_cat, cat_i, cat_l]; decide)) dX10_clearPages_8 ?_
  exact rt_locals (rt_sub [1, 0] rfl) (rX10_clearPages_9 zf _ _ _ _ hf)
noncomputable def fX10_clearPages (E : ah_E) (a0 : Option Nat) (h : ah_H) : Option ah_H := if hp_rcv h a0 11 = false then none else bX10_clearPages_0 E a0 h
set_option maxRecDepth 20000 in
set_option maxHeartbeats 4000000 in
theorem sX10_clearPages {X : ah_X} (d : Nat) (hd : 0 ≤ d) {a0 : Option Nat} {h : ah_H} {h2 : ah_H} (hf : fX10_clearPages X.2.2.2 a0 h = some h2) : hp_rcv h a0 11 = true ∧ Rn X yX10_clearPages cX10_clearPages 2 none d [va_rf a0] h none h2 := by
  unfold fX10_clearPages at hf
  by_cases c0 : hp_rcv h a0 11 = false
  · rw [if_pos c0] at hf; cases hf
  rw [if_neg c0] at hf
  refine ⟨(Bool.not_eq_false _).mp c0, ?_⟩
  exact Rn.of2 me_X10_clearPages (by simp [lg_sl, rt_cat, cat_i, cat_l]) rfl (l := [(0, va_rf a0)]) (by simp [lv_args, rt_cat, cat_i, cat_l]) (rX10_clearPages_0 hf)
noncomputable def bX10_init_0 (E : ah_E) (a0 : Option Nat) (h : ah_H) : Option ah_H :=
  if hp_rcv h a0 11 = false then none else
  (hp_na h 0 (40 : Int32) (.inl (fun _ => 0))).bind fun w3 =>
  (hp_pv w3 a0 11 1 (va_rf (some h.1))).bind fun w5 =>
  (hp_na w5 3 (4200 : Int32) (.inr (.inl (fun _ => 0)))).bind fun w7 =>
  (hp_pv w7 a0 11 3 (va_rf (some w5.1))).bind fun w9 =>
  (hp_na w9 2 (4200 : Int32) (.inl (fun _ => 0))).bind fun w11 =>
  (hp_pv w11 a0 11 4 (va_rf (some w9.1))).bind fun w13 =>
  (hp_na w13 0 (84000 : Int32) (.inl (fun _ => 0))).bind fun w15 =>
  (hp_pv w15 a0 11 5 (va_rf (some w13.1))).bind fun w17 =>
  (hp_na w17 2 (4200 : Int32) (.inl (fun _ => 0))).bind fun w19 =>
  (hp_pv w19 a0 11 8 (va_rf (some w17.1))).bind fun w21 =>
  (hp_na w21 3 (4200 : Int32) (.inr (.inl (fun _ => 0)))).bind fun w23 =>
  (hp_pv w23 a0 11 9 (va_rf (some w21.1))).bind fun w25 =>
  (hp_na w25 2 (4200 : Int32) (.inl (fun _ => 0))).bind fun w27 =>
  (hp_pv w27 a0 11 10 (va_rf (some w25.1))).bind fun w29 =>
  (hp_na w29 2 (4200 : Int32) (.inl (fun _ => 0))).bind fun w31 =>
  (hp_pv w31 a0 11 11 (va_rf (some w29.1))).bind fun w33 =>
  (hp_na w33 0 (168000 : Int32) (.inl (fun _ => 0))).bind fun w35 =>
  (hp_pv w35 a0 11 12 (va_rf (some w33.1))).bind fun w37 =>
  (hp_na w37 2 (4200 : Int32) (.inl (fun _ => 0))).bind fun w39 =>
  (hp_pv w39 a0 11 13 (va_rf (some w37.1))).bind fun w41 =>
  (hp_na w41 0 (20 : Int32) (.inl (fun _ => 0))).bind fun w43 =>
  (hp_pv w43 a0 11 16 (va_rf (some w41.1))).bind fun w45 =>
  (hp_na w45 1 (2700 : Int32) (.inl (fun _ => 0))).bind fun w47 =>
  (hp_pv w47 a0 11 18 (va_rf (some w45.1))).bind fun w49 =>
  (hp_na w49 2 (2700 : Int32) (.inl (fun _ => 0))).bind fun w51 =>
  (hp_pv w51 a0 11 19 (va_rf (some w49.1))).bind fun w53 =>
  (hp_na w53 2 (2700 : Int32) (.inl (fun _ => 0))).bind fun w55 =>
  (hp_pv w55 a0 11 20 (va_rf (some w53.1))).bind fun w57 =>
  (hp_na w57 2 (2700 : Int32) (.inl (fun _ => 0))).bind fun w59 =>
  (hp_pv w59 a0 11 21 (va_rf (some w57.1))).bind fun w61 =>
  (hp_na w61 2 (345600 : Int32) (.inl (fun _ => 0))).bind fun w63 =>
  (hp_pv w63 a0 11 22 (va_rf (some w61.1))).bind fun w65 =>
  (hp_na w65 3 (345600 : Int32) (.inr (.inl (fun _ => 0)))).bind fun w67 =>
  (hp_pv w67 a0 11 23 (va_rf (some w65.1))).bind fun w69 =>
  (hp_na w69 2 (2700 : Int32) (.inl (fun _ => 0))).bind fun w71 =>
  (hp_pv w71 a0 11 24 (va_rf (some w69.1))).bind fun w73 =>
  (hp_na w73 2 (2700 : Int32) (.inl (fun _ => 0))).bind fun w75 =>
  (hp_pv w75 a0 11 25 (va_rf (some w73.1))).bind fun w77 =>
  (hp_na w77 2 (2700 : Int32) (.inl (fun _ => 0))).bind fun w79 =>
  (hp_pv w79 a0 11 26 (va_rf (some w77.1))).bind fun w81 =>
  (hp_na w81 2 (2700 : Int32) (.inl (fun _ => 0))).bind fun w83 =>
  (hp_pv w83 a0 11 27 (va_rf (some w81.1))).bind fun w85 =>
  (hp_na w85 2 (2700 : Int32) (.inl (fun _ => 0))).bind fun w87 =>
  (hp_pv w87 a0 11 28 (va_rf (some w85.1))).bind fun w89 =>
  (hp_na w89 3 (7000 : Int32) (.inr (.inl (fun _ => 0)))).bind fun w91 =>
  (hp_pv w91 a0 11 31 (va_rf (some w89.1))).bind fun w93 =>
  (hp_na w93 2 (7000 : Int32) (.inl (fun _ => 0))).bind fun w95 =>
  (hp_pv w95 a0 11 32 (va_rf (some w93.1))).bind fun w97 =>
  (hp_na w97 0 (140000 : Int32) (.inl (fun _ => 0))).bind fun w99 =>
  (hp_pv w99 a0 11 33 (va_rf (some w97.1))).bind fun w101 =>
  (hp_na w101 2 (7000 : Int32) (.inl (fun _ => 0))).bind fun w103 =>
  (hp_pv w103 a0 11 34 (va_rf (some w101.1))).bind fun w105 =>
  (hp_na w105 2 (14000 : Int32) (.inl (fun _ => 0))).bind fun w107 =>
  (hp_pv w107 a0 11 36 (va_rf (some w105.1))).bind fun w109 =>
  (hp_na w109 3 (14000 : Int32) (.inr (.inl (fun _ => 0)))).bind fun w111 =>
  (hp_pv w111 a0 11 37 (va_rf (some w109.1))).bind fun w113 =>
  (hp_na w113 3 (14000 : Int32) (.inr (.inl (fun _ => 0)))).bind fun w115 =>
  (hp_pv w115 a0 11 38 (va_rf (some w113.1))).bind fun w117 =>
  (hp_na w117 2 (14000 : Int32) (.inl (fun _ => 0))).bind fun w119 =>
  (hp_pv w119 a0 11 39 (va_rf (some w117.1))).bind fun w121 =>
  (hp_na w121 2 (14000 : Int32) (.inl (fun _ => 0))).bind fun w123 =>
  (hp_pv w123 a0 11 41 (va_rf (some w121.1))).bind fun w125 =>
  (hp_na w125 2 (128 : Int32) (.inl (fun _ => 0))).bind fun w127 =>
  (hp_pv w127 a0 11 43 (va_rf (some w125.1))).bind fun w129 =>
  (hp_na w129 2 (64 : Int32) (.inl (fun _ => 0))).bind fun w131 =>
  (hp_pv w131 a0 11 44 (va_rf (some w129.1))).bind fun w133 =>
  (hp_na w133 3 (64 : Int32) (.inr (.inl (fun _ => 0)))).bind fun w135 =>
  (hp_pv w135 a0 11 45 (va_rf (some w133.1))).bind fun w137 =>
  (hp_na w137 2 (2700 : Int32) (.inl (fun _ => 0))).bind fun w139 =>
  (hp_pv w139 a0 11 47 (va_rf (some w137.1))).bind fun w141 =>
  (hp_na w141 2 (2700 : Int32) (.inl (fun _ => 0))).bind fun w143 =>
  (hp_pv w143 a0 11 48 (va_rf (some w141.1))).bind fun w145 =>
  (hp_na w145 2 (2700 : Int32) (.inl (fun _ => 0))).bind fun w147 =>
  (hp_pv w147 a0 11 49 (va_rf (some w145.1))).bind fun w149 =>
  (hp_na w149 1 (1000 : Int32) (.inl (fun _ => 0))).bind fun w151 =>
  (hp_pv w151 a0 11 52 (va_rf (some w149.1))).bind fun w153 =>
  (hp_na w153 2 (1000 : Int32) (.inl (fun _ => 0))).bind fun w155 =>
  (hp_pv w155 a0 11 53 (va_rf (some w153.1))).bind fun w157 =>
  (hp_na w157 3 (6000 : Int32) (.inr (.inl (fun _ => 0)))).bind fun w159 =>
  (hp_pv w159 a0 11 54 (va_rf (some w157.1))).bind fun w161 =>
  (hp_na w161 2 (6000 : Int32) (.inl (fun _ => 0))).bind fun w163 =>
  (hp_pv w163 a0 11 55 (va_rf (some w161.1))).bind fun w165 =>
  (hp_na w165 0 (120000 : Int32) (.inl (fun _ => 0))).bind fun w167 =>
  (hp_pv w167 a0 11 56 (va_rf (some w165.1))).bind fun w169 =>
  (hp_na w169 2 (6000 : Int32) (.inl (fun _ => 0))).bind fun w171 =>
  (hp_pv w171 a0 11 57 (va_rf (some w169.1))).bind fun w173 =>
  (hp_na w173 2 (1000 : Int32) (.inl (fun _ => 0))).bind fun w175 =>
  (hp_pv w175 a0 11 58 (va_rf (some w173.1))).bind fun w177 =>
  (hp_na w177 2 (8000 : Int32) (.inl (fun _ => 0))).bind fun w179 =>
  (hp_pv w179 a0 11 59 (va_rf (some w177.1))).bind fun w181 =>
  (hp_na w181 3 (8000 : Int32) (.inr (.inl (fun _ => 0)))).bind fun w183 =>
  (hp_pv w183 a0 11 60 (va_rf (some w181.1))).bind fun w185 =>
  (hp_na w185 3 (8000 : Int32) (.inr (.inl (fun _ => 0)))).bind fun w187 =>
  (hp_pv w187 a0 11 61 (va_rf (some w185.1))).bind fun w189 =>
  (hp_na w189 2 (2 : Int32) (.inl (fun _ => 0))).bind fun w191 =>
  (hp_pv w191 a0 11 62 (va_rf (some w189.1))).bind fun w193 =>
  (hp_na w193 2 (2 : Int32) (.inl (fun _ => 0))).bind fun w195 =>
  (hp_pv w195 a0 11 63 (va_rf (some w193.1))).bind fun w197 =>
  (hp_na w197 2 (2 : Int32) (.inl (fun _ => 0))).bind fun w199 =>
  (hp_pv w199 a0 11 64 (va_rf (some w197.1))).bind fun w201 =>
  (hp_na w201 2 (2 : Int32) (.inl (fun _ => 0))).bind fun w203 =>
  (hp_pv w203 a0 11 65 (va_rf (some w201.1))).bind fun w205 =>
  (hp_na w205 2 (2 : Int32) (.inl (fun _ => 0))).bind fun w207 =>
  (hp_pv w207 a0 11 66 (va_rf (some w205.1))).bind fun w209 =>
  (hp_na w209 2 (24 : Int32) (.inl (fun _ => 0))).bind fun w211 =>
  (hp_pv w211 a0 11 67 (va_rf (some w209.1))).bind fun w213 =>
  (hp_na w213 2 (24 : Int32) (.inl (fun _ => 0))).bind fun w215 =>
  (hp_pv w215 a0 11 68 (va_rf (some w213.1))).bind fun w217 =>
  (hp_na w217 2 (13 : Int32) (.inl (fun _ => 0))).bind fun w219 =>
  (hp_pv w219 a0 11 69 (va_rf (some w217.1))).bind fun w221 =>
  (hp_na w221 2 (13 : Int32) (.inl (fun _ => 0))).bind fun w223 =>
  (hp_pv w223 a0 11 70 (va_rf (some w221.1))).bind fun w225 =>
  (hp_pv w225 a0 11 72 (.int (1 : Int32))).bind fun w227 =>
  (hp_na w227 2 (4 : Int32) (.inl (fun _ => 0))).bind fun w229 =>
  (hp_pv w229 a0 11 75 (va_rf (some w227.1))).bind fun w231 =>
  (hp_na w231 1 (1000 : Int32) (.inl (fun _ => 0))).bind fun w233 =>
  (hp_pv w233 a0 11 76 (va_rf (some w231.1))).bind fun w235 =>
  (hp_na w235 2 (60 : Int32) (.inl (fun _ => 0))).bind fun w237 =>
  (hp_pv w237 a0 11 77 (va_rf (some w235.1))).bind fun w239 =>
  (fX10_clearPages E a0 w239).bind fun w242 =>
  ob2 (fX10_page E a0 (1 : Int32) w242) fun v246 w245 =>
  (hp_pv w245 a0 11 30 (.int v246)).bind fun w248 =>
  some w248
set_option maxRecDepth 20000 in
set_option maxHeartbeats 4000000 in
theorem rX10_init_0 {X : ah_X} {d : Nat} (hd : 0 ≤ d) {a0 : Option Nat} {h : ah_H} {h2 : ah_H} (hf : bX10_init_0 X.2.2.2 a0 h = some h2) : Rt X yX10_init cX10_init 1 (d + 1) 0 [(0, va_rf a0)] [] h none h2 := by
  unfold bX10_init_0 at hf
  refine rt_aload_n (pc := 0) (k0 := 0) (x := a0) 0 rfl dX10_init_0 ?_
  by_cases c1 : hp_rcv h a0 11 = false
  · rw [if_pos c1] at hf; cases hf
  rw [if_neg c1] at hf
  refine rt_objInit (pc := 1) wl_X10_111 (by decide) dX10_init_1 (by obtain ⟨q, _, q2, _⟩ := hp_rcv_spec ((Bool.not_eq_false _).mp c1); exact ⟨q, q2⟩) ?_
  refine rt_aload_n (pc := 4) (k0 := 0) (x := a0) 0 rfl dX10_init_4 ?_
  refine rt_bipush (pc := 5) (n := 40) (v := (40 : Int32)) (by decide) dX10_init_5 ?_
  obtain ⟨w3, e4, hf⟩ := ob1 hf
  refine rt_newa (pc := 7) 0 (by decide) rfl wa_byte (fun _ _ => rfl) (by decide) dX10_init_7 e4 ?_
  obtain ⟨w5, e6, hf⟩ := ob1 hf
  refine rt_putf (pc := 9) (x := a0) fw_X10_12 (Or.inr rfl) (pf_a _ _).1 (pf_a _ _).2 dX10_init_9 e6 ?_
  refine rt_aload_n (pc := 12) (k0 := 0) (x := a0) 0 rfl dX10_init_12 ?_
  refine rt_sipush (pc := 13) (n := 4200) (v := (4200 : Int32)) (by decide) dX10_init_13 ?_
  obtain ⟨w7, e8, hf⟩ := ob1 hf
  refine rt_newa (pc := 16) 3 (by decide) rfl wa_long (fun _ _ => rfl) (by decide) dX10_init_16 e8 ?_
  obtain ⟨w9, e10, hf⟩ := ob1 hf
  refine rt_putf (pc := 18) (x := a0) fw_X10_19 (Or.inr rfl) (pf_a _ _).1 (pf_a _ _).2 dX10_init_18 e10 ?_
  refine rt_aload_n (pc := 21) (k0 := 0) (x := a0) 0 rfl dX10_init_21 ?_
  refine rt_sipush (pc := 22) (n := 4200) (v := (4200 : Int32)) (by decide) dX10_init_22 ?_
  obtain ⟨w11, e12, hf⟩ := ob1 hf
  refine rt_newa (pc := 25) 2 (by decide) rfl wa_int (fun _ _ => rfl) (by decide) dX10_init_25 e12 ?_
  obtain ⟨w13, e14, hf⟩ := ob1 hf
  refine rt_putf (pc := 27) (x := a0) fw_X10_27 (Or.inr rfl) (pf_a _ _).1 (pf_a _ _).2 dX10_init_27 e14 ?_
  refine rt_aload_n (pc := 30) (k0 := 0) (x := a0) 0 rfl dX10_init_30 ?_
  refine rt_ldc (pc := 31) wk_X10_117 dX10_init_31 ?_
  obtain ⟨w15, e16, hf⟩ := ob1 hf
  refine rt_newa (pc := 33) 0 (by decide) rfl wa_byte (fun _ _ => rfl) (by decide) dX10_init_33 e16 ?_
  obtain ⟨w17, e18, hf⟩ := ob1 hf
  refine rt_putf (pc := 35) (x := a0) fw_X10_31 (Or.inr rfl) (pf_a _ _).1 (pf_a _ _).2 dX10_init_35 e18 ?_
  refine rt_aload_n (pc := 38) (k0 := 0) (x := a0) 0 rfl dX10_init_38 ?_
  refine rt_sipush (pc := 39) (n := 4200) (v := (4200 : Int32)) (by decide) dX10_init_39 ?_
  obtain ⟨w19, e20, hf⟩ := ob1 hf
  refine rt_newa (pc := 42) 2 (by decide) rfl wa_int (fun _ _ => rfl) (by decide) dX10_init_42 e20 ?_
  obtain ⟨w21, e22, hf⟩ := ob1 hf
  refine rt_putf (pc := 44) (x := a0) fw_X10_46 (Or.inr rfl) (pf_a _ _).1 (pf_a _ _).2 dX10_init_44 e22 ?_
  refine rt_aload_n (pc := 47) (k0 := 0) (x := a0) 0 rfl dX10_init_47 ?_
  refine rt_sipush (pc := 48) (n := 4200) (v := (4200 : Int32)) (by decide) dX10_init_48 ?_
  obtain ⟨w23, e24, hf⟩ := ob1 hf
  refine rt_newa (pc := 51) 3 (by decide) rfl wa_long (fun _ _ => rfl) (by decide) dX10_init_51 e24 ?_
  obtain ⟨w25, e26, hf⟩ := ob1 hf
  refine rt_putf (pc := 53) (x := a0) fw_X10_66 (Or.inr rfl) (pf_a _ _).1 (pf_a _ _).2 dX10_init_53 e26 ?_
  refine rt_aload_n (pc := 56) (k0 := 0) (x := a0) 0 rfl dX10_init_56 ?_
  refine rt_sipush (pc := 57) (n := 4200) (v := (4200 : Int32)) (by decide) dX10_init_57 ?_
  obtain ⟨w27, e28, hf⟩ := ob1 hf
  refine rt_newa (pc := 60) 2 (by decide) rfl wa_int (fun _ _ => rfl) (by decide) dX10_init_60 e28 ?_
  obtain ⟨w29, e30, hf⟩ := ob1 hf
  refine rt_putf (pc := 62) (x := a0) fw_X10_37 (Or.inr rfl) (pf_a _ _).1 (pf_a _ _).2 dX10_init_62 e30 ?_
  refine rt_aload_n (pc := 65) (k0 := 0) (x := a0) 0 rfl dX10_init_65 ?_
  refine rt_sipush (pc := 66) (n := 4200) (v := (4200 : Int32)) (by decide) dX10_init_66 ?_
  obtain ⟨w31, e32, hf⟩ := ob1 hf
  refine rt_newa (pc := 69) 2 (by decide) rfl wa_int (fun _ _ => rfl) (by decide) dX10_init_69 e32 ?_
  obtain ⟨w33, e34, hf⟩ := ob1 hf
  refine rt_putf (pc := 71) (x := a0) fw_X10_49 (Or.inr rfl) (pf_a _ _).1 (pf_a _ _).2 dX10_init_71 e34 ?_
  refine rt_aload_n (pc := 74) (k0 := 0) (x := a0) 0 rfl dX10_init_74 ?_
  refine rt_ldc (pc := 75) wk_X10_118 dX10_init_75 ?_
  obtain ⟨w35, e36, hf⟩ := ob1 hf
  refine rt_newa (pc := 77) 0 (by decide) rfl wa_byte (fun _ _ => rfl) (by decide) dX10_init_77 e36 ?_
  obtain ⟨w37, e38, hf⟩ := ob1 hf
  refine rt_putf (pc := 79) (x := a0) fw_X10_43 (Or.inr rfl) (pf_a _ _).1 (pf_a _ _).2 dX10_init_79 e38 ?_
  refine rt_aload_n (pc := 82) (k0 := 0) (x := a0) 0 rfl dX10_init_82 ?_
  refine rt_sipush (pc := 83) (n := 4200) (v := (4200 : Int32)) (by decide) dX10_init_83 ?_
  obtain ⟨w39, e40, hf⟩ := ob1 hf
  refine rt_newa (pc := 86) 2 (by decide) rfl wa_int (fun _ _ => rfl) (by decide) dX10_init_86 e40 ?_
  obtain ⟨w41, e42, hf⟩ := ob1 hf
  refine rt_putf (pc := 88) (x := a0) fw_X10_69 (Or.inr rfl) (pf_a _ _).1 (pf_a _ _).2 dX10_init_88 e42 ?_
  refine rt_aload_n (pc := 91) (k0 := 0) (x := a0) 0 rfl dX10_init_91 ?_
  refine rt_bipush (pc := 92) (n := 20) (v := (20 : Int32)) (by decide) dX10_init_92 ?_
  obtain ⟨w43, e44, hf⟩ := ob1 hf
  refine rt_newa (pc := 94) 0 (by decide) rfl wa_byte (fun _ _ => rfl) (by decide) dX10_init_94 e44 ?_
  obtain ⟨w45, e46, hf⟩ := ob1 hf
  refine rt_putf (pc := 96) (x := a0) fw_X10_40 (Or.inr rfl) (pf_a _ _).1 (pf_a _ _).2 dX10_init_96 e46 ?_
  refine rt_aload_n (pc := 99) (k0 := 0) (x := a0) 0 rfl dX10_init_99 ?_
  refine rt_sipush (pc := 100) (n := 2700) (v := (2700 : Int32)) (by decide) dX10_init_100 ?_
  obtain ⟨w47, e48, hf⟩ := ob1 hf
  refine rt_newa (pc := 103) 1 (by decide) rfl wa_boolean (fun _ _ => rfl) (by decide) dX10_init_103 e48 ?_
  obtain ⟨w49, e50, hf⟩ := ob1 hf
  refine rt_putf (pc := 105) (x := a0) fw_X10_119 (Or.inr rfl) (pf_a _ _).1 (pf_a _ _).2 dX10_init_105 e50 ?_
  refine rt_aload_n (pc := 108) (k0 := 0) (x := a0) 0 rfl dX10_init_108 ?_
  refine rt_sipush (pc := 109) (n := 2700) (v := (2700 : Int32)) (by decide) dX10_init_109 ?_
  obtain ⟨w51, e52, hf⟩ := ob1 hf
  refine rt_newa (pc := 112) 2 (by decide) rfl wa_int (fun _ _ => rfl) (by decide) dX10_init_112 e52 ?_
  obtain ⟨w53, e54, hf⟩ := ob1 hf
  refine rt_putf (pc := 114) (x := a0) fw_X10_123 (Or.inr rfl) (pf_a _ _).1 (pf_a _ _).2 dX10_init_114 e54 ?_
  refine rt_aload_n (pc := 117) (k0 := 0) (x := a0) 0 rfl dX10_init_117 ?_
  refine rt_sipush (pc := 118) (n := 2700) (v := (2700 : Int32)) (by decide) dX10_init_118 ?_
  obtain ⟨w55, e56, hf⟩ := ob1 hf
  refine rt_newa (pc := 121) 2 (by decide) rfl wa_int (fun _ _ => rfl) (by decide) dX10_init_121 e56 ?_
  obtain ⟨w57, e58, hf⟩ := ob1 hf
  refine rt_putf (pc := 123) (x := a0) fw_X10_126 (Or.inr rfl) (pf_a _ _).1 (pf_a _ _).2 dX10_init_123 e58 ?_
  refine rt_aload_n (pc := 126) (k0 := 0) (x := a0) 0 rfl dX10_init_126 ?_
  refine rt_sipush (pc := 127) (n := 2700) (v := (2700 : Int32)) (by decide) dX10_init_127 ?_
  obtain ⟨w59, e60, hf⟩ := ob1 hf
  refine rt_newa (pc := 130) 2 (by decide) rfl wa_int (fun _ _ => rfl) (by decide) dX10_init_130 e60 ?_
  obtain ⟨w61, e62, hf⟩ := ob1 hf
  refine rt_putf (pc := 132) (x := a0) fw_X10_129 (Or.inr rfl) (pf_a _ _).1 (pf_a _ _).2 dX10_init_132 e62 ?_
  refine rt_aload_n (pc := 135) (k0 := 0) (x := a0) 0 rfl dX10_init_135 ?_
  refine rt_ldc (pc := 136) wk_X10_132 dX10_init_136 ?_
  obtain ⟨w63, e64, hf⟩ := ob1 hf
  refine rt_newa (pc := 138) 2 (by decide) rfl wa_int (fun _ _ => rfl) (by decide) dX10_init_138 e64 ?_
  obtain ⟨w65, e66, hf⟩ := ob1 hf
  refine rt_putf (pc := 140) (x := a0) fw_X10_133 (Or.inr rfl) (pf_a _ _).1 (pf_a _ _).2 dX10_init_140 e66 ?_
  refine rt_aload_n (pc := 143) (k0 := 0) (x := a0) 0 rfl dX10_init_143 ?_
  refine rt_ldc (pc := 144) wk_X10_132 dX10_init_144 ?_
  obtain ⟨w67, e68, hf⟩ := ob1 hf
  refine rt_newa (pc := 146) 3 (by decide) rfl wa_long (fun _ _ => rfl) (by decide) dX10_init_146 e68 ?_
  obtain ⟨w69, e70, hf⟩ := ob1 hf
  refine rt_putf (pc := 148) (x := a0) fw_X10_136 (Or.inr rfl) (pf_a _ _).1 (pf_a _ _).2 dX10_init_148 e70 ?_
  refine rt_aload_n (pc := 151) (k0 := 0) (x := a0) 0 rfl dX10_init_151 ?_
  refine rt_sipush (pc := 152) (n := 2700) (v := (2700 : Int32)) (by decide) dX10_init_152 ?_
  obtain ⟨w71, e72, hf⟩ := ob1 hf
  refine rt_newa (pc := 155) 2 (by decide) rfl wa_int (fun _ _ => rfl) (by decide) dX10_init_155 e72 ?_
  obtain ⟨w73, e74, hf⟩ := ob1 hf
  refine rt_putf (pc := 157) (x := a0) fw_X10_139 (Or.inr rfl) (pf_a _ _).1 (pf_a _ _).2 dX10_init_157 e74 ?_
  refine rt_aload_n (pc := 160) (k0 := 0) (x := a0) 0 rfl dX10_init_160 ?_
  refine rt_sipush (pc := 161) (n := 2700) (v := (2700 : Int32)) (by decide) dX10_init_161 ?_
  obtain ⟨w75, e76, hf⟩ := ob1 hf
  refine rt_newa (pc := 164) 2 (by decide) rfl wa_int (fun _ _ => rfl) (by decide) dX10_init_164 e76 ?_
  obtain ⟨w77, e78, hf⟩ := ob1 hf
  refine rt_putf (pc := 166) (x := a0) fw_X10_142 (Or.inr rfl) (pf_a _ _).1 (pf_a _ _).2 dX10_init_166 e78 ?_
  refine rt_aload_n (pc := 169) (k0 := 0) (x := a0) 0 rfl dX10_init_169 ?_
  refine rt_sipush (pc := 170) (n := 2700) (v := (2700 : Int32)) (by decide) dX10_init_170 ?_
  obtain ⟨w79, e80, hf⟩ := ob1 hf
  refine rt_newa (pc := 173) 2 (by decide) rfl wa_int (fun _ _ => rfl) (by decide) dX10_init_173 e80 ?_
  obtain ⟨w81, e82, hf⟩ := ob1 hf
  refine rt_putf (pc := 175) (x := a0) fw_X10_145 (Or.inr rfl) (pf_a _ _).1 (pf_a _ _).2 dX10_init_175 e82 ?_
  refine rt_aload_n (pc := 178) (k0 := 0) (x := a0) 0 rfl dX10_init_178 ?_
  refine rt_sipush (pc := 179) (n := 2700) (v := (2700 : Int32)) (by decide) dX10_init_179 ?_
  obtain ⟨w83, e84, hf⟩ := ob1 hf
  refine rt_newa (pc := 182) 2 (by decide) rfl wa_int (fun _ _ => rfl) (by decide) dX10_init_182 e84 ?_
  obtain ⟨w85, e86, hf⟩ := ob1 hf
  refine rt_putf (pc := 184) (x := a0) fw_X10_148 (Or.inr rfl) (pf_a _ _).1 (pf_a _ _).2 dX10_init_184 e86 ?_
  refine rt_aload_n (pc := 187) (k0 := 0) (x := a0) 0 rfl dX10_init_187 ?_
  refine rt_sipush (pc := 188) (n := 2700) (v := (2700 : Int32)) (by decide) dX10_init_188 ?_
  obtain ⟨w87, e88, hf⟩ := ob1 hf
  refine rt_newa (pc := 191) 2 (by decide) rfl wa_int (fun _ _ => rfl) (by decide) dX10_init_191 e88 ?_
  obtain ⟨w89, e90, hf⟩ := ob1 hf
  refine rt_putf (pc := 193) (x := a0) fw_X10_151 (Or.inr rfl) (pf_a _ _).1 (pf_a _ _).2 dX10_init_193 e90 ?_
  refine rt_aload_n (pc := 196) (k0 := 0) (x := a0) 0 rfl dX10_init_196 ?_
  refine rt_sipush (pc := 197) (n := 7000) (v := (7000 : Int32)) (by decide) dX10_init_197 ?_
  obtain ⟨w91, e92, hf⟩ := ob1 hf
  refine rt_newa (pc := 200) 3 (by decide) rfl wa_long (fun _ _ => rfl) (by decide) dX10_init_200 e92 ?_
  obtain ⟨w93, e94, hf⟩ := ob1 hf
  refine rt_putf (pc := 202) (x := a0) fw_X10_154 (Or.inr rfl) (pf_a _ _).1 (pf_a _ _).2 dX10_init_202 e94 ?_
  refine rt_aload_n (pc := 205) (k0 := 0) (x := a0) 0 rfl dX10_init_205 ?_
  refine rt_sipush (pc := 206) (n := 7000) (v := (7000 : Int32)) (by decide) dX10_init_206 ?_
  obtain ⟨w95, e96, hf⟩ := ob1 hf
  refine rt_newa (pc := 209) 2 (by decide) rfl wa_int (fun _ _ => rfl) (by decide) dX10_init_209 e96 ?_
  obtain ⟨w97, e98, hf⟩ := ob1 hf
  refine rt_putf (pc := 211) (x := a0) fw_X10_157 (Or.inr rfl) (pf_a _ _).1 (pf_a _ _).2 dX10_init_211 e98 ?_
  refine rt_aload_n (pc := 214) (k0 := 0) (x := a0) 0 rfl dX10_init_214 ?_
  refine rt_ldc (pc := 215) wk_X10_160 dX10_init_215 ?_
  obtain ⟨w99, e100, hf⟩ := ob1 hf
  refine rt_newa (pc := 217) 0 (by decide) rfl wa_byte (fun _ _ => rfl) (by decide) dX10_init_217 e100 ?_
  obtain ⟨w101, e102, hf⟩ := ob1 hf
  refine rt_putf (pc := 219) (x := a0) fw_X10_161 (Or.inr rfl) (pf_a _ _).1 (pf_a _ _).2 dX10_init_219 e102 ?_
  refine rt_aload_n (pc := 222) (k0 := 0) (x := a0) 0 rfl dX10_init_222 ?_
  refine rt_sipush (pc := 223) (n := 7000) (v := (7000 : Int32)) (by decide) dX10_init_223 ?_
  obtain ⟨w103, e104, hf⟩ := ob1 hf
  refine rt_newa (pc := 226) 2 (by decide) rfl wa_int (fun _ _ => rfl) (by decide) dX10_init_226 e104 ?_
  obtain ⟨w105, e106, hf⟩ := ob1 hf
  refine rt_putf (pc := 228) (x := a0) fw_X10_164 (Or.inr rfl) (pf_a _ _).1 (pf_a _ _).2 dX10_init_228 e106 ?_
  refine rt_aload_n (pc := 231) (k0 := 0) (x := a0) 0 rfl dX10_init_231 ?_
  refine rt_sipush (pc := 232) (n := 14000) (v := (14000 : Int32)) (by decide) dX10_init_232 ?_
  obtain ⟨w107, e108, hf⟩ := ob1 hf
  refine rt_newa (pc := 235) 2 (by decide) rfl wa_int (fun _ _ => rfl) (by decide) dX10_init_235 e108 ?_
  obtain ⟨w109, e110, hf⟩ := ob1 hf
  refine rt_putf (pc := 237) (x := a0) fw_X10_167 (Or.inr rfl) (pf_a _ _).1 (pf_a _ _).2 dX10_init_237 e110 ?_
  refine rt_aload_n (pc := 240) (k0 := 0) (x := a0) 0 rfl dX10_init_240 ?_
  refine rt_sipush (pc := 241) (n := 14000) (v := (14000 : Int32)) (by decide) dX10_init_241 ?_
  obtain ⟨w111, e112, hf⟩ := ob1 hf
  refine rt_newa (pc := 244) 3 (by decide) rfl wa_long (fun _ _ => rfl) (by decide) dX10_init_244 e112 ?_
  obtain ⟨w113, e114, hf⟩ := ob1 hf
  refine rt_putf (pc := 246) (x := a0) fw_X10_170 (Or.inr rfl) (pf_a _ _).1 (pf_a _ _).2 dX10_init_246 e114 ?_
  refine rt_aload_n (pc := 249) (k0 := 0) (x := a0) 0 rfl dX10_init_249 ?_
  refine rt_sipush (pc := 250) (n := 14000) (v := (14000 : Int32)) (by decide) dX10_init_250 ?_
  obtain ⟨w115, e116, hf⟩ := ob1 hf
  refine rt_newa (pc := 253) 3 (by decide) rfl wa_long (fun _ _ => rfl) (by decide) dX10_init_253 e116 ?_
  obtain ⟨w117, e118, hf⟩ := ob1 hf
  refine rt_putf (pc := 255) (x := a0) fw_X10_173 (Or.inr rfl) (pf_a _ _).1 (pf_a _ _).2 dX10_init_255 e118 ?_
  refine rt_aload_n (pc := 258) (k0 := 0) (x := a0) 0 rfl dX10_init_258 ?_
  refine rt_sipush (pc := 259) (n := 14000) (v := (14000 : Int32)) (by decide) dX10_init_259 ?_
  obtain ⟨w119, e120, hf⟩ := ob1 hf
  refine rt_newa (pc := 262) 2 (by decide) rfl wa_int (fun _ _ => rfl) (by decide) dX10_init_262 e120 ?_
  obtain ⟨w121, e122, hf⟩ := ob1 hf
  refine rt_putf (pc := 264) (x := a0) fw_X10_176 (Or.inr rfl) (pf_a _ _).1 (pf_a _ _).2 dX10_init_264 e122 ?_
  refine rt_aload_n (pc := 267) (k0 := 0) (x := a0) 0 rfl dX10_init_267 ?_
  refine rt_sipush (pc := 268) (n := 14000) (v := (14000 : Int32)) (by decide) dX10_init_268 ?_
  obtain ⟨w123, e124, hf⟩ := ob1 hf
  refine rt_newa (pc := 271) 2 (by decide) rfl wa_int (fun _ _ => rfl) (by decide) dX10_init_271 e124 ?_
  obtain ⟨w125, e126, hf⟩ := ob1 hf
  refine rt_putf (pc := 273) (x := a0) fw_X10_179 (Or.inr rfl) (pf_a _ _).1 (pf_a _ _).2 dX10_init_273 e126 ?_
  refine rt_aload_n (pc := 276) (k0 := 0) (x := a0) 0 rfl dX10_init_276 ?_
  refine rt_sipush (pc := 277) (n := 128) (v := (128 : Int32)) (by decide) dX10_init_277 ?_
  obtain ⟨w127, e128, hf⟩ := ob1 hf
  refine rt_newa (pc := 280) 2 (by decide) rfl wa_int (fun _ _ => rfl) (by decide) dX10_init_280 e128 ?_
  obtain ⟨w129, e130, hf⟩ := ob1 hf
  refine rt_putf (pc := 282) (x := a0) fw_X10_182 (Or.inr rfl) (pf_a _ _).1 (pf_a _ _).2 dX10_init_282 e130 ?_
  refine rt_aload_n (pc := 285) (k0 := 0) (x := a0) 0 rfl dX10_init_285 ?_
  refine rt_bipush (pc := 286) (n := 64) (v := (64 : Int32)) (by decide) dX10_init_286 ?_
  obtain ⟨w131, e132, hf⟩ := ob1 hf
  refine rt_newa (pc := 288) 2 (by decide) rfl wa_int (fun _ _ => rfl) (by decide) dX10_init_288 e132 ?_
  obtain ⟨w133, e134, hf⟩ := ob1 hf
  refine rt_putf (pc := 290) (x := a0) fw_X10_185 (Or.inr rfl) (pf_a _ _).1 (pf_a _ _).2 dX10_init_290 e134 ?_
  refine rt_aload_n (pc := 293) (k0 := 0) (x := a0) 0 rfl dX10_init_293 ?_
  refine rt_bipush (pc := 294) (n := 64) (v := (64 : Int32)) (by decide) dX10_init_294 ?_
  obtain ⟨w135, e136, hf⟩ := ob1 hf
  refine rt_newa (pc := 296) 3 (by decide) rfl wa_long (fun _ _ => rfl) (by decide) dX10_init_296 e136 ?_
  obtain ⟨w137, e138, hf⟩ := ob1 hf
  refine rt_putf (pc := 298) (x := a0) fw_X10_188 (Or.inr rfl) (pf_a _ _).1 (pf_a _ _).2 dX10_init_298 e138 ?_
  refine rt_aload_n (pc := 301) (k0 := 0) (x := a0) 0 rfl dX10_init_301 ?_
  refine rt_sipush (pc := 302) (n := 2700) (v := (2700 : Int32)) (by decide) dX10_init_302 ?_
  obtain ⟨w139, e140, hf⟩ := ob1 hf
  refine rt_newa (pc := 305) 2 (by decide) rfl wa_int (fun _ _ => rfl) (by decide) dX10_init_305 e140 ?_
  obtain ⟨w141, e142, hf⟩ := ob1 hf
  refine rt_putf (pc := 307) (x := a0) fw_X10_191 (Or.inr rfl) (pf_a _ _).1 (pf_a _ _).2 dX10_init_307 e142 ?_
  refine rt_aload_n (pc := 310) (k0 := 0) (x := a0) 0 rfl dX10_init_310 ?_
  refine rt_sipush (pc := 311) (n := 2700) (v := (2700 : Int32)) (by decide) dX10_init_311 ?_
  obtain ⟨w143, e144, hf⟩ := ob1 hf
  refine rt_newa (pc := 314) 2 (by decide) rfl wa_int (fun _ _ => rfl) (by decide) dX10_init_314 e144 ?_
  obtain ⟨w145, e146, hf⟩ := ob1 hf
  refine rt_putf (pc := 316) (x := a0) fw_X10_194 (Or.inr rfl) (pf_a _ _).1 (pf_a _ _).2 dX10_init_316 e146 ?_
  refine rt_aload_n (pc := 319) (k0 := 0) (x := a0) 0 rfl dX10_init_319 ?_
  refine rt_sipush (pc := 320) (n := 2700) (v := (2700 : Int32)) (by decide) dX10_init_320 ?_
  obtain ⟨w147, e148, hf⟩ := ob1 hf
  refine rt_newa (pc := 323) 2 (by decide) rfl wa_int (fun _ _ => rfl) (by decide) dX10_init_323 e148 ?_
  obtain ⟨w149, e150, hf⟩ := ob1 hf
  refine rt_putf (pc := 325) (x := a0) fw_X10_197 (Or.inr rfl) (pf_a _ _).1 (pf_a _ _).2 dX10_init_325 e150 ?_
  refine rt_aload_n (pc := 328) (k0 := 0) (x := a0) 0 rfl dX10_init_328 ?_
  refine rt_sipush (pc := 329) (n := 1000) (v := (1000 : Int32)) (by decide) dX10_init_329 ?_
  obtain ⟨w151, e152, hf⟩ := ob1 hf
  refine rt_newa (pc := 332) 1 (by decide) rfl wa_boolean (fun _ _ => rfl) (by decide) dX10_init_332 e152 ?_
  obtain ⟨w153, e154, hf⟩ := ob1 hf
  refine rt_putf (pc := 334) (x := a0) fw_X10_200 (Or.inr rfl) (pf_a _ _).1 (pf_a _ _).2 dX10_init_334 e154 ?_
  refine rt_aload_n (pc := 337) (k0 := 0) (x := a0) 0 rfl dX10_init_337 ?_
  refine rt_sipush (pc := 338) (n := 1000) (v := (1000 : Int32)) (by decide) dX10_init_338 ?_
  obtain ⟨w155, e156, hf⟩ := ob1 hf
  refine rt_newa (pc := 341) 2 (by decide) rfl wa_int (fun _ _ => rfl) (by decide) dX10_init_341 e156 ?_
  obtain ⟨w157, e158, hf⟩ := ob1 hf
  refine rt_putf (pc := 343) (x := a0) fw_X10_203 (Or.inr rfl) (pf_a _ _).1 (pf_a _ _).2 dX10_init_343 e158 ?_
  refine rt_aload_n (pc := 346) (k0 := 0) (x := a0) 0 rfl dX10_init_346 ?_
  refine rt_sipush (pc := 347) (n := 6000) (v := (6000 : Int32)) (by decide) dX10_init_347 ?_
  obtain ⟨w159, e160, hf⟩ := ob1 hf
  refine rt_newa (pc := 350) 3 (by decide) rfl wa_long (fun _ _ => rfl) (by decide) dX10_init_350 e160 ?_
  obtain ⟨w161, e162, hf⟩ := ob1 hf
  refine rt_putf (pc := 352) (x := a0) fw_X10_206 (Or.inr rfl) (pf_a _ _).1 (pf_a _ _).2 dX10_init_352 e162 ?_
  refine rt_aload_n (pc := 355) (k0 := 0) (x := a0) 0 rfl dX10_init_355 ?_
  refine rt_sipush (pc := 356) (n := 6000) (v := (6000 : Int32)) (by decide) dX10_init_356 ?_
  obtain ⟨w163, e164, hf⟩ := ob1 hf
  refine rt_newa (pc := 359) 2 (by decide) rfl wa_int (fun _ _ => rfl) (by decide) dX10_init_359 e164 ?_
  obtain ⟨w165, e166, hf⟩ := ob1 hf
  refine rt_putf (pc := 361) (x := a0) fw_X10_209 (Or.inr rfl) (pf_a _ _).1 (pf_a _ _).2 dX10_init_361 e166 ?_
  refine rt_aload_n (pc := 364) (k0 := 0) (x := a0) 0 rfl dX10_init_364 ?_
  refine rt_ldc (pc := 365) wk_X10_212 dX10_init_365 ?_
  obtain ⟨w167, e168, hf⟩ := ob1 hf
  refine rt_newa (pc := 367) 0 (by decide) rfl wa_byte (fun _ _ => rfl) (by decide) dX10_init_367 e168 ?_
  obtain ⟨w169, e170, hf⟩ := ob1 hf
  refine rt_putf (pc := 369) (x := a0) fw_X10_213 (Or.inr rfl) (pf_a _ _).1 (pf_a _ _).2 dX10_init_369 e170 ?_
  refine rt_aload_n (pc := 372) (k0 := 0) (x := a0) 0 rfl dX10_init_372 ?_
  refine rt_sipush (pc := 373) (n := 6000) (v := (6000 : Int32)) (by decide) dX10_init_373 ?_
  obtain ⟨w171, e172, hf⟩ := ob1 hf
  refine rt_newa (pc := 376) 2 (by decide) rfl wa_int (fun _ _ => rfl) (by decide) dX10_init_376 e172 ?_
  obtain ⟨w173, e174, hf⟩ := ob1 hf
  refine rt_putf (pc := 378) (x := a0) fw_X10_216 (Or.inr rfl) (pf_a _ _).1 (pf_a _ _).2 dX10_init_378 e174 ?_
  refine rt_aload_n (pc := 381) (k0 := 0) (x := a0) 0 rfl dX10_init_381 ?_
  refine rt_sipush (pc := 382) (n := 1000) (v := (1000 : Int32)) (by decide) dX10_init_382 ?_
  obtain ⟨w175, e176, hf⟩ := ob1 hf
  refine rt_newa (pc := 385) 2 (by decide) rfl wa_int (fun _ _ => rfl) (by decide) dX10_init_385 e176 ?_
  obtain ⟨w177, e178, hf⟩ := ob1 hf
  refine rt_putf (pc := 387) (x := a0) fw_X10_219 (Or.inr rfl) (pf_a _ _).1 (pf_a _ _).2 dX10_init_387 e178 ?_
  refine rt_aload_n (pc := 390) (k0 := 0) (x := a0) 0 rfl dX10_init_390 ?_
  refine rt_sipush (pc := 391) (n := 8000) (v := (8000 : Int32)) (by decide) dX10_init_391 ?_
  obtain ⟨w179, e180, hf⟩ := ob1 hf
  refine rt_newa (pc := 394) 2 (by decide) rfl wa_int (fun _ _ => rfl) (by decide) dX10_init_394 e180 ?_
  obtain ⟨w181, e182, hf⟩ := ob1 hf
  refine rt_putf (pc := 396) (x := a0) fw_X10_222 (Or.inr rfl) (pf_a _ _).1 (pf_a _ _).2 dX10_init_396 e182 ?_
  refine rt_aload_n (pc := 399) (k0 := 0) (x := a0) 0 rfl dX10_init_399 ?_
  refine rt_sipush (pc := 400) (n := 8000) (v := (8000 : Int32)) (by decide) dX10_init_400 ?_
  obtain ⟨w183, e184, hf⟩ := ob1 hf
  refine rt_newa (pc := 403) 3 (by decide) rfl wa_long (fun _ _ => rfl) (by decide) dX10_init_403 e184 ?_
  obtain ⟨w185, e186, hf⟩ := ob1 hf
  refine rt_putf (pc := 405) (x := a0) fw_X10_225 (Or.inr rfl) (pf_a _ _).1 (pf_a _ _).2 dX10_init_405 e186 ?_
  refine rt_aload_n (pc := 408) (k0 := 0) (x := a0) 0 rfl dX10_init_408 ?_
  refine rt_sipush (pc := 409) (n := 8000) (v := (8000 : Int32)) (by decide) dX10_init_409 ?_
  obtain ⟨w187, e188, hf⟩ := ob1 hf
  refine rt_newa (pc := 412) 3 (by decide) rfl wa_long (fun _ _ => rfl) (by decide) dX10_init_412 e188 ?_
  obtain ⟨w189, e190, hf⟩ := ob1 hf
  refine rt_putf (pc := 414) (x := a0) fw_X10_228 (Or.inr rfl) (pf_a _ _).1 (pf_a _ _).2 dX10_init_414 e190 ?_
  refine rt_aload_n (pc := 417) (k0 := 0) (x := a0) 0 rfl dX10_init_417 ?_
  refine rt_iconst (pc := 418) (n := 2) (v := (2 : Int32)) (by decide) dX10_init_418 ?_
  obtain ⟨w191, e192, hf⟩ := ob1 hf
  refine rt_newa (pc := 419) 2 (by decide) rfl wa_int (fun _ _ => rfl) (by decide) dX10_init_419 e192 ?_
  obtain ⟨w193, e194, hf⟩ := ob1 hf
  refine rt_putf (pc := 421) (x := a0) fw_X10_231 (Or.inr rfl) (pf_a _ _).1 (pf_a _ _).2 dX10_init_421 e194 ?_
  refine rt_aload_n (pc := 424) (k0 := 0) (x := a0) 0 rfl dX10_init_424 ?_
  refine rt_iconst (pc := 425) (n := 2) (v := (2 : Int32)) (by decide) dX10_init_425 ?_
  obtain ⟨w195, e196, hf⟩ := ob1 hf
  refine rt_newa (pc := 426) 2 (by decide) rfl wa_int (fun _ _ => rfl) (by decide) dX10_init_426 e196 ?_
  obtain ⟨w197, e198, hf⟩ := ob1 hf
  refine rt_putf (pc := 428) (x := a0) fw_X10_234 (Or.inr rfl) (pf_a _ _).1 (pf_a _ _).2 dX10_init_428 e198 ?_
  refine rt_aload_n (pc := 431) (k0 := 0) (x := a0) 0 rfl dX10_init_431 ?_
  refine rt_iconst (pc := 432) (n := 2) (v := (2 : Int32)) (by decide) dX10_init_432 ?_
  obtain ⟨w199, e200, hf⟩ := ob1 hf
  refine rt_newa (pc := 433) 2 (by decide) rfl wa_int (fun _ _ => rfl) (by decide) dX10_init_433 e200 ?_
  obtain ⟨w201, e202, hf⟩ := ob1 hf
  refine rt_putf (pc := 435) (x := a0) fw_X10_237 (Or.inr rfl) (pf_a _ _).1 (pf_a _ _).2 dX10_init_435 e202 ?_
  refine rt_aload_n (pc := 438) (k0 := 0) (x := a0) 0 rfl dX10_init_438 ?_
  refine rt_iconst (pc := 439) (n := 2) (v := (2 : Int32)) (by decide) dX10_init_439 ?_
  obtain ⟨w203, e204, hf⟩ := ob1 hf
  refine rt_newa (pc := 440) 2 (by decide) rfl wa_int (fun _ _ => rfl) (by decide) dX10_init_440 e204 ?_
  obtain ⟨w205, e206, hf⟩ := ob1 hf
  refine rt_putf (pc := 442) (x := a0) fw_X10_240 (Or.inr rfl) (pf_a _ _).1 (pf_a _ _).2 dX10_init_442 e206 ?_
  refine rt_aload_n (pc := 445) (k0 := 0) (x := a0) 0 rfl dX10_init_445 ?_
  refine rt_iconst (pc := 446) (n := 2) (v := (2 : Int32)) (by decide) dX10_init_446 ?_
  obtain ⟨w207, e208, hf⟩ := ob1 hf
  refine rt_newa (pc := 447) 2 (by decide) rfl wa_int (fun _ _ => rfl) (by decide) dX10_init_447 e208 ?_
  obtain ⟨w209, e210, hf⟩ := ob1 hf
  refine rt_putf (pc := 449) (x := a0) fw_X10_243 (Or.inr rfl) (pf_a _ _).1 (pf_a _ _).2 dX10_init_449 e210 ?_
  refine rt_aload_n (pc := 452) (k0 := 0) (x := a0) 0 rfl dX10_init_452 ?_
  refine rt_bipush (pc := 453) (n := 24) (v := (24 : Int32)) (by decide) dX10_init_453 ?_
  obtain ⟨w211, e212, hf⟩ := ob1 hf
  refine rt_newa (pc := 455) 2 (by decide) rfl wa_int (fun _ _ => rfl) (by decide) dX10_init_455 e212 ?_
  obtain ⟨w213, e214, hf⟩ := ob1 hf
  refine rt_putf (pc := 457) (x := a0) fw_X10_246 (Or.inr rfl) (pf_a _ _).1 (pf_a _ _).2 dX10_init_457 e214 ?_
  refine rt_aload_n (pc := 460) (k0 := 0) (x := a0) 0 rfl dX10_init_460 ?_
  refine rt_bipush (pc := 461) (n := 24) (v := (24 : Int32)) (by decide) dX10_init_461 ?_
  obtain ⟨w215, e216, hf⟩ := ob1 hf
  refine rt_newa (pc := 463) 2 (by decide) rfl wa_int (fun _ _ => rfl) (by decide) dX10_init_463 e216 ?_
  obtain ⟨w217, e218, hf⟩ := ob1 hf
  refine rt_putf (pc := 465) (x := a0) fw_X10_249 (Or.inr rfl) (pf_a _ _).1 (pf_a _ _).2 dX10_init_465 e218 ?_
  refine rt_aload_n (pc := 468) (k0 := 0) (x := a0) 0 rfl dX10_init_468 ?_
  refine rt_bipush (pc := 469) (n := 13) (v := (13 : Int32)) (by decide) dX10_init_469 ?_
  obtain ⟨w219, e220, hf⟩ := ob1 hf
  refine rt_newa (pc := 471) 2 (by decide) rfl wa_int (fun _ _ => rfl) (by decide) dX10_init_471 e220 ?_
  obtain ⟨w221, e222, hf⟩ := ob1 hf
  refine rt_putf (pc := 473) (x := a0) fw_X10_252 (Or.inr rfl) (pf_a _ _).1 (pf_a _ _).2 dX10_init_473 e222 ?_
  refine rt_aload_n (pc := 476) (k0 := 0) (x := a0) 0 rfl dX10_init_476 ?_
  refine rt_bipush (pc := 477) (n := 13) (v := (13 : Int32)) (by decide) dX10_init_477 ?_
  obtain ⟨w223, e224, hf⟩ := ob1 hf
  refine rt_newa (pc := 479) 2 (by decide) rfl wa_int (fun _ _ => rfl) (by decide) dX10_init_479 e224 ?_
  obtain ⟨w225, e226, hf⟩ := ob1 hf
  refine rt_putf (pc := 481) (x := a0) fw_X10_255 (Or.inr rfl) (pf_a _ _).1 (pf_a _ _).2 dX10_init_481 e226 ?_
  refine rt_aload_n (pc := 484) (k0 := 0) (x := a0) 0 rfl dX10_init_484 ?_
  refine rt_iconst (pc := 485) (n := 1) (v := (1 : Int32)) (by decide) dX10_init_485 ?_
  obtain ⟨w227, e228, hf⟩ := ob1 hf
  refine rt_putf (pc := 486) (x := a0) fw_X10_258 (Or.inl rfl) (pf_i _).1 (pf_i _).2 dX10_init_486 e228 ?_
  refine rt_aload_n (pc := 489) (k0 := 0) (x := a0) 0 rfl dX10_init_489 ?_
  refine rt_iconst (pc := 490) (n := 4) (v := (4 : Int32)) (by decide) dX10_init_490 ?_
  obtain ⟨w229, e230, hf⟩ := ob1 hf
  refine rt_newa (pc := 491) 2 (by decide) rfl wa_int (fun _ _ => rfl) (by decide) dX10_init_491 e230 ?_
  obtain ⟨w231, e232, hf⟩ := ob1 hf
  refine rt_putf (pc := 493) (x := a0) fw_X10_261 (Or.inr rfl) (pf_a _ _).1 (pf_a _ _).2 dX10_init_493 e232 ?_
  refine rt_aload_n (pc := 496) (k0 := 0) (x := a0) 0 rfl dX10_init_496 ?_
  refine rt_sipush (pc := 497) (n := 1000) (v := (1000 : Int32)) (by decide) dX10_init_497 ?_
  obtain ⟨w233, e234, hf⟩ := ob1 hf
  refine rt_newa (pc := 500) 1 (by decide) rfl wa_boolean (fun _ _ => rfl) (by decide) dX10_init_500 e234 ?_
  obtain ⟨w235, e236, hf⟩ := ob1 hf
  refine rt_putf (pc := 502) (x := a0) fw_X10_264 (Or.inr rfl) (pf_a _ _).1 (pf_a _ _).2 dX10_init_502 e236 ?_
  refine rt_aload_n (pc := 505) (k0 := 0) (x := a0) 0 rfl dX10_init_505 ?_
  refine rt_bipush (pc := 506) (n := 60) (v := (60 : Int32)) (by decide) dX10_init_506 ?_
  obtain ⟨w237, e238, hf⟩ := ob1 hf
  refine rt_newa (pc := 508) 2 (by decide) rfl wa_int (fun _ _ => rfl) (by decide) dX10_init_508 e238 ?_
  obtain ⟨w239, e240, hf⟩ := ob1 hf
  refine rt_putf (pc := 510) (x := a0) fw_X10_267 (Or.inr rfl) (pf_a _ _).1 (pf_a _ _).2 dX10_init_510 e240 ?_
  refine rt_aload_n (pc := 513) (k0 := 0) (x := a0) 0 rfl dX10_init_513 ?_
  obtain ⟨w242, e241, hf⟩ := ob1 hf
  have g243 := sX10_clearPages d (by omega) e241
  refine rt_callV (pc := 514) (As := []) (st := []) me_X10_clearPages mi_X10_clearPages wl_X10_270 dX10_init_514 rfl (by decide) rfl g243.1 g243.2 ?_
  refine rt_aload_n (pc := 517) (k0 := 0) (x := a0) 0 rfl dX10_init_517 ?_
  refine rt_aload_n (pc := 518) (k0 := 0) (x := a0) 0 rfl dX10_init_518 ?_
  refine rt_iconst (pc := 519) (n := 1) (v := (1 : Int32)) (by decide) dX10_init_519 ?_
  obtain ⟨v246, w245, e244, hf⟩ := ob2_of hf
  have g247 := sX10_page d (by omega) e244
  refine rt_callV (pc := 520) (As := [.int (1 : Int32)]) (st := [va_rf a0]) me_X10_page mi_X10_page wl_X10_273 dX10_init_520 rfl (by simp [rt_cat, cat_i, cat_l]) rfl g247.1 g247.2 ?_
  obtain ⟨w248, e249, hf⟩ := ob1 hf
  refine rt_putf (pc := 523) (x := a0) fw_X10_277 (Or.inl rfl) (pf_i _).1 (pf_i _).2 dX10_init_523 e249 ?_
  cases hf
  exact rt_ret (pc := 526) dX10_init_526 rfl
noncomputable def fX10_init (E : ah_E) (a0 : Option Nat) (h : ah_H) : Option ah_H := if hp_rcv h a0 11 = false then none else bX10_init_0 E a0 h
set_option maxRecDepth 20000 in
set_option maxHeartbeats 4000000 in
theorem sX10_init {X : ah_X} (d : Nat) (hd : 1 ≤ d) {a0 : Option Nat} {h : ah_H} {h2 : ah_H} (hf : fX10_init X.2.2.2 a0 h = some h2) : hp_rcv h a0 11 = true ∧ Rn X yX10_init cX10_init 1 none d [va_rf a0] h none h2 := by
  unfold fX10_init at hf
  by_cases c0 : hp_rcv h a0 11 = false
  · rw [if_pos c0] at hf; cases hf
  rw [if_neg c0] at hf
  refine ⟨(Bool.not_eq_false _).mp c0, ?_⟩
  obtain ⟨d, rfl⟩ : ∃ k, d = k + 1 := ⟨d - 1, by omega⟩
  exact Rn.of2 me_X10_init (by simp [lg_sl, rt_cat, cat_i, cat_l]) rfl (l := [(0, va_rf a0)]) (by simp [lv_args, rt_cat, cat_i, cat_l]) (rX10_init_0 (by omega) hf)
noncomputable def bX10_letter__54 (E : ah_E) (h : ah_H) : Option (Int32 × ah_H) :=
  some ((-1 : Int32), h)
set_option maxRecDepth 20000 in
set_option maxHeartbeats 4000000 in
theorem rX10_letter__54 {X : ah_X} {d : Nat} (hd : 47 ≤ d)  {h : ah_H} {r : Int32} {h2 : ah_H} (hf : bX10_letter__54 X.2.2.2  h = some (r, h2)) : Rt X yX10_letter_ cX10_letter_ 6 (d + 1) 54 [] [] h (some (.int r)) h2 := by
  unfold bX10_letter__54 at hf
  refine rt_iconst (pc := 54) (n := -1) (v := (-1 : Int32)) (by decide) dX10_letter__54 ?_
  cases hf
  exact rt_ret (pc := 55) dX10_letter__55 rfl
noncomputable def bX10_letter__124 (E : ah_E) (s0 : Int32) (h : ah_H) : Option (Int32 × ah_H) :=
  some (s0, h)
set_option maxRecDepth 20000 in
set_option maxHeartbeats 4000000 in
theorem rX10_letter__124 {X : ah_X} {d : Nat} (hd : 47 ≤ d) {s0 : Int32} {h : ah_H} {r : Int32} {h2 : ah_H} (hf : bX10_letter__124 X.2.2.2 s0 h = some (r, h2)) : Rt X yX10_letter_ cX10_letter_ 6 (d + 1) 124 [] [.int s0] h (some (.int r)) h2 := by
  unfold bX10_letter__124 at hf
  cases hf
  exact rt_ret (pc := 124) dX10_letter__124 rfl
noncomputable def bX10_letter__72 (E : ah_E) : Nat → Option Nat → Int32 → Int32 → Int32 → Int32 → ah_H → Option (Int32 × ah_H)
  | 0 => fun _ _ _ _ _ _ => none
  | n + 1 => fun a0 a2 a3 a4 a5 h =>
  if a2 ≤ a5 then
    if a3 = 0 then
      (hp_gr h a0 11 8).bind fun v3 =>
      (hp_gr h a0 11 36).bind fun v5 =>
      (hp_ldi h v5 a4).bind fun v7 =>
      (hp_ldi h v3 v7).bind fun v9 =>
      bX10_letter__124 E v9 h
    else
    (hp_gr h a0 11 13).bind fun v11 =>
    (hp_gr h a0 11 36).bind fun v13 =>
    (hp_ldi h v13 a4).bind fun v15 =>
    (hp_ldi h v11 v15).bind fun v17 =>
    bX10_letter__124 E v17 h
  else
  (hp_gr h a0 11 39).bind fun v19 =>
  (hp_ldi h v19 a4).bind fun v21 =>
  bX10_letter__72 E n a0 a2 a3 v21 (a5 + 1) h
set_option maxRecDepth 20000 in
set_option maxHeartbeats 4000000 in
theorem rX10_letter__72 {X : ah_X} {d : Nat} (hd : 47 ≤ d) (n : Nat) : ∀ (a0 : Option Nat) (a2 : Int32) (a3 : Int32) (a4 : Int32) (a5 : Int32) (h : ah_H) (r : Int32) (h2 : ah_H), bX10_letter__72 X.2.2.2 n a0 a2 a3 a4 a5 h = some (r, h2) → Rt X yX10_letter_ cX10_letter_ 6 (d + 1) 72 [(0, va_rf a0), (2, .int a2), (3, .int a3), (4, .int a4), (5, .int a5)] [] h (some (.int r)) h2 := by
  induction n with
  | zero => intro a0 a2 a3 a4 a5 h r h2 hf; cases hf
  | succ n ih =>
  intro a0 a2 a3 a4 a5 h r h2 hf
  unfold bX10_letter__72 at hf
  refine rt_iload (pc := 72) (i := 5) (x := a5) 4 rfl dX10_letter__72 ?_
  refine rt_iload_n (pc := 74) (k0 := 2) (x := a2) 1 rfl dX10_letter__74 ?_
  by_cases c1 : a2 ≤ a5
  · rw [if_pos c1] at hf
    refine rt_icmp_ge_p (pc := 75) (x := a5) (z := a2) (tgt := 93) (by decide) dX10_letter__75 c1 ?_
    refine rt_iload_n (pc := 93) (k0 := 3) (x := a3) 2 rfl dX10_letter__93 ?_
    by_cases c2 : a3 = 0
    · rw [if_pos c2] at hf
      refine rt_if_ne_p (pc := 94) (x := a3) (tgt := 112) (by decide) dX10_letter__94 c2 ?_
      refine rt_aload_n (pc := 97) (k0 := 0) (x := a0) 0 rfl dX10_letter__97 ?_
      obtain ⟨v3, e4, hf⟩ := ob1 hf
      refine rt_gr (pc := 98) fd_X10_46 dX10_letter__98 e4 ?_
      refine rt_aload_n (pc := 101) (k0 := 0) (x := a0) 0 rfl dX10_letter__101 ?_
      obtain ⟨v5, e6, hf⟩ := ob1 hf
      refine rt_gr (pc := 102) fd_X10_167 dX10_letter__102 e6 ?_
      refine rt_iload (pc := 105) (i := 4) (x := a4) 3 rfl dX10_letter__105 ?_
      obtain ⟨v7, e8, hf⟩ := ob1 hf
      refine rt_iald (pc := 107) dX10_letter__107 e8 ?_
      obtain ⟨v9, e10, hf⟩ := ob1 hf
      refine rt_iald (pc := 108) dX10_letter__108 e10 ?_
      refine rt_goto (pc := 109) (tgt := 124) (by decide) dX10_letter__109 ?_
      exact rt_locals (rt_sub [] rfl) (rX10_letter__124 hd hf)
    rw [if_neg c2] at hf
    refine rt_if_ne_n (pc := 94) (x := a3) (tgt := 112) (by decide) dX10_letter__94 c2 ?_
    refine rt_aload_n (pc := 112) (k0 := 0) (x := a0) 0 rfl dX10_letter__112 ?_
    obtain ⟨v11, e12, hf⟩ := ob1 hf
    refine rt_gr (pc := 113) fd_X10_69 dX10_letter__113 e12 ?_
    refine rt_aload_n (pc := 116) (k0 := 0) (x := a0) 0 rfl dX10_letter__116 ?_
    obtain ⟨v13, e14, hf⟩ := ob1 hf
    refine rt_gr (pc := 117) fd_X10_167 dX10_letter__117 e14 ?_
    refine rt_iload (pc := 120) (i := 4) (x := a4) 3 rfl dX10_letter__120 ?_
    obtain ⟨v15, e16, hf⟩ := ob1 hf
    refine rt_iald (pc := 122) dX10_letter__122 e16 ?_
    obtain ⟨v17, e18, hf⟩ := ob1 hf
    refine rt_iald (pc := 123) dX10_letter__123 e18 ?_
    exact rt_locals (rt_sub [] rfl) (rX10_letter__124 hd hf)
  rw [if_neg c1] at hf
  refine rt_icmp_ge_n (pc := 75) (x := a5) (z := a2) (tgt := 93) (by decide) dX10_letter__75 c1 ?_
  refine rt_aload_n (pc := 78) (k0 := 0) (x := a0) 0 rfl dX10_letter__78 ?_
  obtain ⟨v19, e20, hf⟩ := ob1 hf
  refine rt_gr (pc := 79) fd_X10_176 dX10_letter__79 e20 ?_
  refine rt_iload (pc := 82) (i := 4) (x := a4) 3 rfl dX10_letter__82 ?_
  obtain ⟨v21, e22, hf⟩ := ob1 hf
  refine rt_iald (pc := 84) dX10_letter__84 e22 ?_
  refine rt_istore (pc := 85) (i := 4) (x := v21) (l2 := [(4, .int v21), (0, va_rf a0), (2, .int a2), (3, .int a3), (5, .int a5)]) (by decide) (by first | rfl | (simp [rt_cat, cat_i, cat_l]; done) | (simp [rt_cat, cat_i, cat_l]; decide)) dX10_letter__85 ?_
  refine rt_iinc (pc := 87) (i := 5) (n := 1) (x := a5) (v := (a5 + 1)) (l2 := [(5, .int (a5 + 1)), (4, .int v21), (0, va_rf a0), (2, .int a2), (3, .int a3)]) 4 rfl rfl (by decide) (by first | rfl | (simp [rt_cat, cat_i, cat_l]; done) | (simp [rt_cat, cat_i, cat_l]; decide)) dX10_letter__87 ?_
  refine rt_goto (pc := 90) (tgt := 72) (by decide) dX10_letter__90 ?_
  exact rt_locals (rt_sub [2, 3, 4, 1, 0] rfl) (ih _ _ _ _ _ _ _ _ hf)
noncomputable def bX10_letter__0 (E : ah_E) (a0 : Option Nat) (a1 : Int32) (a2 : Int32) (a3 : Int32) (h : ah_H) : Option (Int32 × ah_H) :=
  (hp_gi h a0 11 51).bind fun v1 =>
  if v1 = 0 then
    (fX10_number E a0 h).bind fun w5 =>
    if a1 < 0 then
      bX10_letter__54 E  w5
    else
    (hp_gi w5 a0 11 50).bind fun v8 =>
    if v8 ≤ a1 then
      bX10_letter__54 E  w5
    else
    if a2 < 0 then
      bX10_letter__54 E  w5
    else
    if a3 < 0 then
      bX10_letter__54 E  w5
    else
    if (1 : Int32) < a3 then
      bX10_letter__54 E  w5
    else
    (hp_gr w5 a0 11 26).bind fun v14 =>
    (hp_gr w5 a0 11 47).bind fun v16 =>
    (hp_ldi w5 v16 a1).bind fun v18 =>
    (hp_ldi w5 v14 v18).bind fun v20 =>
    if a2 < v20 then
      (hp_gr w5 a0 11 24).bind fun v23 =>
      (hp_gr w5 a0 11 47).bind fun v25 =>
      (hp_ldi w5 v25 a1).bind fun v27 =>
      (hp_ldi w5 v23 v27).bind fun v29 =>
      bX10_letter__72 E zf a0 a2 a3 v29 (0 : Int32) w5
    else
    bX10_letter__54 E  w5
  else
  some ((-4 : Int32), h)
set_option maxRecDepth 20000 in
set_option maxHeartbeats 4000000 in
theorem rX10_letter__0 {X : ah_X} {d : Nat} (hd : 47 ≤ d) {a0 : Option Nat} {a1 : Int32} {a2 : Int32} {a3 : Int32} {h : ah_H} {r : Int32} {h2 : ah_H} (hf : bX10_letter__0 X.2.2.2 a0 a1 a2 a3 h = some (r, h2)) : Rt X yX10_letter_ cX10_letter_ 6 (d + 1) 0 [(0, va_rf a0), (1, .int a1), (2, .int a2), (3, .int a3)] [] h (some (.int r)) h2 := by
  unfold bX10_letter__0 at hf
  refine rt_aload_n (pc := 0) (k0 := 0) (x := a0) 0 rfl dX10_letter__0 ?_
  obtain ⟨v1, e2, hf⟩ := ob1 hf
  refine rt_gi (pc := 1) fd_X10_90 dX10_letter__1 e2 ?_
  by_cases c3 : v1 = 0
  · rw [if_pos c3] at hf
    refine rt_if_eq_p (pc := 4) (x := v1) (tgt := 10) (by decide) dX10_letter__4 c3 ?_
    refine rt_aload_n (pc := 10) (k0 := 0) (x := a0) 0 rfl dX10_letter__10 ?_
    obtain ⟨w5, e4, hf⟩ := ob1 hf
    have g6 := sX10_number d (by omega) e4
    refine rt_callV (pc := 11) (As := []) (st := []) me_X10_number mi_X10_number wl_X10_355 dX10_letter__11 rfl (by decide) rfl g6.1 g6.2 ?_
    refine rt_iload_n (pc := 14) (k0 := 1) (x := a1) 1 rfl dX10_letter__14 ?_
    by_cases c7 : a1 < 0
    · rw [if_pos c7] at hf
      refine rt_if_lt_p (pc := 15) (x := a1) (tgt := 54) (by decide) dX10_letter__15 c7 ?_
      exact rt_locals (rt_sub [] rfl) (rX10_letter__54 hd hf)
    rw [if_neg c7] at hf
    refine rt_if_lt_n (pc := 15) (x := a1) (tgt := 54) (by decide) dX10_letter__15 c7 ?_
    refine rt_iload_n (pc := 18) (k0 := 1) (x := a1) 1 rfl dX10_letter__18 ?_
    refine rt_aload_n (pc := 19) (k0 := 0) (x := a0) 0 rfl dX10_letter__19 ?_
    obtain ⟨v8, e9, hf⟩ := ob1 hf
    refine rt_gi (pc := 20) fd_X10_349 dX10_letter__20 e9 ?_
    by_cases c10 : v8 ≤ a1
    · rw [if_pos c10] at hf
      refine rt_icmp_ge_p (pc := 23) (x := a1) (z := v8) (tgt := 54) (by decide) dX10_letter__23 c10 ?_
      exact rt_locals (rt_sub [] rfl) (rX10_letter__54 hd hf)
    rw [if_neg c10] at hf
    refine rt_icmp_ge_n (pc := 23) (x := a1) (z := v8) (tgt := 54) (by decide) dX10_letter__23 c10 ?_
    refine rt_iload_n (pc := 26) (k0 := 2) (x := a2) 2 rfl dX10_letter__26 ?_
    by_cases c11 : a2 < 0
    · rw [if_pos c11] at hf
      refine rt_if_lt_p (pc := 27) (x := a2) (tgt := 54) (by decide) dX10_letter__27 c11 ?_
      exact rt_locals (rt_sub [] rfl) (rX10_letter__54 hd hf)
    rw [if_neg c11] at hf
    refine rt_if_lt_n (pc := 27) (x := a2) (tgt := 54) (by decide) dX10_letter__27 c11 ?_
    refine rt_iload_n (pc := 30) (k0 := 3) (x := a3) 3 rfl dX10_letter__30 ?_
    by_cases c12 : a3 < 0
    · rw [if_pos c12] at hf
      refine rt_if_lt_p (pc := 31) (x := a3) (tgt := 54) (by decide) dX10_letter__31 c12 ?_
      exact rt_locals (rt_sub [] rfl) (rX10_letter__54 hd hf)
    rw [if_neg c12] at hf
    refine rt_if_lt_n (pc := 31) (x := a3) (tgt := 54) (by decide) dX10_letter__31 c12 ?_
    refine rt_iload_n (pc := 34) (k0 := 3) (x := a3) 3 rfl dX10_letter__34 ?_
    refine rt_iconst (pc := 35) (n := 1) (v := (1 : Int32)) (by decide) dX10_letter__35 ?_
    by_cases c13 : (1 : Int32) < a3
    · rw [if_pos c13] at hf
      refine rt_icmp_gt_p (pc := 36) (x := a3) (z := (1 : Int32)) (tgt := 54) (by decide) dX10_letter__36 c13 ?_
      exact rt_locals (rt_sub [] rfl) (rX10_letter__54 hd hf)
    rw [if_neg c13] at hf
    refine rt_icmp_gt_n (pc := 36) (x := a3) (z := (1 : Int32)) (tgt := 54) (by decide) dX10_letter__36 c13 ?_
    refine rt_iload_n (pc := 39) (k0 := 2) (x := a2) 2 rfl dX10_letter__39 ?_
    refine rt_aload_n (pc := 40) (k0 := 0) (x := a0) 0 rfl dX10_letter__40 ?_
    obtain ⟨v14, e15, hf⟩ := ob1 hf
    refine rt_gr (pc := 41) fd_X10_145 dX10_letter__41 e15 ?_
    refine rt_aload_n (pc := 44) (k0 := 0) (x := a0) 0 rfl dX10_letter__44 ?_
    obtain ⟨v16, e17, hf⟩ := ob1 hf
    refine rt_gr (pc := 45) fd_X10_191 dX10_letter__45 e17 ?_
    refine rt_iload_n (pc := 48) (k0 := 1) (x := a1) 1 rfl dX10_letter__48 ?_
    obtain ⟨v18, e19, hf⟩ := ob1 hf
    refine rt_iald (pc := 49) dX10_letter__49 e19 ?_
    obtain ⟨v20, e21, hf⟩ := ob1 hf
    refine rt_iald (pc := 50) dX10_letter__50 e21 ?_
    by_cases c22 : a2 < v20
    · rw [if_pos c22] at hf
      refine rt_icmp_lt_p (pc := 51) (x := a2) (z := v20) (tgt := 56) (by decide) dX10_letter__51 c22 ?_
      refine rt_aload_n (pc := 56) (k0 := 0) (x := a0) 0 rfl dX10_letter__56 ?_
      obtain ⟨v23, e24, hf⟩ := ob1 hf
      refine rt_gr (pc := 57) fd_X10_139 dX10_letter__57 e24 ?_
      refine rt_aload_n (pc := 60) (k0 := 0) (x := a0) 0 rfl dX10_letter__60 ?_
      obtain ⟨v25, e26, hf⟩ := ob1 hf
      refine rt_gr (pc := 61) fd_X10_191 dX10_letter__61 e26 ?_
      refine rt_iload_n (pc := 64) (k0 := 1) (x := a1) 1 rfl dX10_letter__64 ?_
      obtain ⟨v27, e28, hf⟩ := ob1 hf
      refine rt_iald (pc := 65) dX10_letter__65 e28 ?_
      obtain ⟨v29, e30, hf⟩ := ob1 hf
      refine rt_iald (pc := 66) dX10_letter__66 e30 ?_
      refine rt_istore (pc := 67) (i := 4) (x := v29) (l2 := [(4, .int v29), (0, va_rf a0), (1, .int a1), (2, .int a2), (3, .int a3)]) (by decide) (by first | rfl | (simp [rt_cat, cat_i, cat_l]; done) | (simp [rt_cat, cat_i, cat_l]; decide)) dX10_letter__67 ?_
      refine rt_iconst (pc := 69) (n := 0) (v := (0 : Int32)) (by decide) dX10_letter__69 ?_
      refine rt_istore (pc := 70) (i := 5) (x := (0 : Int32)) (l2 := [(5, .int (0 : Int32)), (4, .int v29), (0, va_rf a0), (1, .int a1), (2, .int a2), (3, .int a3)]) (by decide) (by first | rfl | (simp [rt_cat, cat_i, cat_l]; done) | (simp [rt_cat, cat_i, cat_l]; decide)) dX10_letter__70 ?_
      exact rt_locals (rt_sub [2, 4, 5, 1, 0] rfl) (rX10_letter__72 hd zf _ _ _ _ _ _ _ _ hf)
    rw [if_neg c22] at hf
    refine rt_icmp_lt_n (pc := 51) (x := a2) (z := v20) (tgt := 56) (by decide) dX10_letter__51 c22 ?_
    exact rt_locals (rt_sub [] rfl) (rX10_letter__54 hd hf)
  rw [if_neg c3] at hf
  refine rt_if_eq_n (pc := 4) (x := v1) (tgt := 10) (by decide) dX10_letter__4 c3 ?_
  refine rt_bipush (pc := 7) (n := -4) (v := (-4 : Int32)) (by decide) dX10_letter__7 ?_
  cases hf
  exact rt_ret (pc := 9) dX10_letter__9 rfl
noncomputable def fX10_letter_ (E : ah_E) (a0 : Option Nat) (a1 : Int32) (a2 : Int32) (a3 : Int32) (h : ah_H) : Option (Int32 × ah_H) := if hp_rcv h a0 11 = false then none else bX10_letter__0 E a0 a1 a2 a3 h
set_option maxRecDepth 20000 in
set_option maxHeartbeats 4000000 in
theorem sX10_letter_ {X : ah_X} (d : Nat) (hd : 48 ≤ d) {a0 : Option Nat} {a1 : Int32} {a2 : Int32} {a3 : Int32} {h : ah_H} {r : Int32} {h2 : ah_H} (hf : fX10_letter_ X.2.2.2 a0 a1 a2 a3 h = some (r, h2)) : hp_rcv h a0 11 = true ∧ Rn X yX10_letter_ cX10_letter_ 6 (some .int) d [va_rf a0, .int a1, .int a2, .int a3] h (some (.int r)) h2 := by
  unfold fX10_letter_ at hf
  by_cases c0 : hp_rcv h a0 11 = false
  · rw [if_pos c0] at hf; cases hf
  rw [if_neg c0] at hf
  refine ⟨(Bool.not_eq_false _).mp c0, ?_⟩
  obtain ⟨d, rfl⟩ : ∃ k, d = k + 1 := ⟨d - 1, by omega⟩
  exact Rn.of2 me_X10_letter_ (by simp [lg_sl, rt_cat, cat_i, cat_l]) (ok_i _) (l := [(0, va_rf a0), (1, .int a1), (2, .int a2), (3, .int a3)]) (by simp [lv_args, rt_cat, cat_i, cat_l]) (rX10_letter__0 (by omega) hf)
noncomputable def bX10_letters_18 (E : ah_E) : Nat → Option Nat → Int32 → Int32 → ah_H → Option (Int32 × ah_H)
  | 0 => fun _ _ _ _ => none
  | n + 1 => fun a0 a1 a2 h =>
  (hp_gi h a0 11 50).bind fun v1 =>
  if v1 ≤ a2 then
    some (a1, h)
  else
  (hp_gr h a0 11 26).bind fun v4 =>
  (hp_gr h a0 11 47).bind fun v6 =>
  (hp_ldi h v6 a2).bind fun v8 =>
  (hp_ldi h v4 v8).bind fun v10 =>
  bX10_letters_18 E n a0 (a1 + v10) (a2 + 1) h
set_option maxRecDepth 20000 in
set_option maxHeartbeats 4000000 in
theorem rX10_letters_18 {X : ah_X} {d : Nat} (hd : 47 ≤ d) (n : Nat) : ∀ (a0 : Option Nat) (a1 : Int32) (a2 : Int32) (h : ah_H) (r : Int32) (h2 : ah_H), bX10_letters_18 X.2.2.2 n a0 a1 a2 h = some (r, h2) → Rt X yX10_letters cX10_letters 3 (d + 1) 18 [(0, va_rf a0), (1, .int a1), (2, .int a2)] [] h (some (.int r)) h2 := by
  induction n with
  | zero => intro a0 a1 a2 h r h2 hf; cases hf
  | succ n ih =>
  intro a0 a1 a2 h r h2 hf
  unfold bX10_letters_18 at hf
  refine rt_iload_n (pc := 18) (k0 := 2) (x := a2) 2 rfl dX10_letters_18 ?_
  refine rt_aload_n (pc := 19) (k0 := 0) (x := a0) 0 rfl dX10_letters_19 ?_
  obtain ⟨v1, e2, hf⟩ := ob1 hf
  refine rt_gi (pc := 20) fd_X10_349 dX10_letters_20 e2 ?_
  by_cases c3 : v1 ≤ a2
  · rw [if_pos c3] at hf
    refine rt_icmp_ge_p (pc := 23) (x := a2) (z := v1) (tgt := 46) (by decide) dX10_letters_23 c3 ?_
    refine rt_iload_n (pc := 46) (k0 := 1) (x := a1) 1 rfl dX10_letters_46 ?_
    cases hf
    exact rt_ret (pc := 47) dX10_letters_47 rfl
  rw [if_neg c3] at hf
  refine rt_icmp_ge_n (pc := 23) (x := a2) (z := v1) (tgt := 46) (by decide) dX10_letters_23 c3 ?_
  refine rt_iload_n (pc := 26) (k0 := 1) (x := a1) 1 rfl dX10_letters_26 ?_
  refine rt_aload_n (pc := 27) (k0 := 0) (x := a0) 0 rfl dX10_letters_27 ?_
  obtain ⟨v4, e5, hf⟩ := ob1 hf
  refine rt_gr (pc := 28) fd_X10_145 dX10_letters_28 e5 ?_
  refine rt_aload_n (pc := 31) (k0 := 0) (x := a0) 0 rfl dX10_letters_31 ?_
  obtain ⟨v6, e7, hf⟩ := ob1 hf
  refine rt_gr (pc := 32) fd_X10_191 dX10_letters_32 e7 ?_
  refine rt_iload_n (pc := 35) (k0 := 2) (x := a2) 2 rfl dX10_letters_35 ?_
  obtain ⟨v8, e9, hf⟩ := ob1 hf
  refine rt_iald (pc := 36) dX10_letters_36 e9 ?_
  obtain ⟨v10, e11, hf⟩ := ob1 hf
  refine rt_iald (pc := 37) dX10_letters_37 e11 ?_
  refine rt_iadd (pc := 38) (x := a1) (z := v10) dX10_letters_38 ?_
  refine rt_istore_n (pc := 39) (k0 := 1) (x := (a1 + v10)) (l2 := [(1, .int (a1 + v10)), (0, va_rf a0), (2, .int a2)]) (by decide) (by first | rfl | (simp [rt_cat, cat_i, cat_l]; done) | (simp [rt_cat, cat_i, cat_l]; decide)) dX10_letters_39 ?_
  refine rt_iinc (pc := 40) (i := 2) (n := 1) (x := a2) (v := (a2 + 1)) (l2 := [(2, .int (a2 + 1)), (1, .int (a1 + v10)), (0, va_rf a0)]) 2 rfl rfl (by decide) (by first | rfl | (simp [rt_cat, cat_i, cat_l]; done) | (simp [rt_cat, cat_i, cat_l]; decide)) dX10_letters_40 ?_
  refine rt_goto (pc := 43) (tgt := 18) (by decide) dX10_letters_43 ?_
  exact rt_locals (rt_sub [2, 1, 0] rfl) (ih _ _ _ _ _ _ hf)
noncomputable def bX10_letters_0 (E : ah_E) (a0 : Option Nat) (h : ah_H) : Option (Int32 × ah_H) :=
  (hp_gi h a0 11 51).bind fun v1 =>
  if v1 = 0 then
    (fX10_number E a0 h).bind fun w5 =>
    bX10_letters_18 E zf a0 (0 : Int32) (0 : Int32) w5
  else
  some ((-4 : Int32), h)
set_option maxRecDepth 20000 in
set_option maxHeartbeats 4000000 in
theorem rX10_letters_0 {X : ah_X} {d : Nat} (hd : 47 ≤ d) {a0 : Option Nat} {h : ah_H} {r : Int32} {h2 : ah_H} (hf : bX10_letters_0 X.2.2.2 a0 h = some (r, h2)) : Rt X yX10_letters cX10_letters 3 (d + 1) 0 [(0, va_rf a0)] [] h (some (.int r)) h2 := by
  unfold bX10_letters_0 at hf
  refine rt_aload_n (pc := 0) (k0 := 0) (x := a0) 0 rfl dX10_letters_0 ?_
  obtain ⟨v1, e2, hf⟩ := ob1 hf
  refine rt_gi (pc := 1) fd_X10_90 dX10_letters_1 e2 ?_
  by_cases c3 : v1 = 0
  · rw [if_pos c3] at hf
    refine rt_if_eq_p (pc := 4) (x := v1) (tgt := 10) (by decide) dX10_letters_4 c3 ?_
    refine rt_aload_n (pc := 10) (k0 := 0) (x := a0) 0 rfl dX10_letters_10 ?_
    obtain ⟨w5, e4, hf⟩ := ob1 hf
    have g6 := sX10_number d (by omega) e4
    refine rt_callV (pc := 11) (As := []) (st := []) me_X10_number mi_X10_number wl_X10_355 dX10_letters_11 rfl (by decide) rfl g6.1 g6.2 ?_
    refine rt_iconst (pc := 14) (n := 0) (v := (0 : Int32)) (by decide) dX10_letters_14 ?_
    refine rt_istore_n (pc := 15) (k0 := 1) (x := (0 : Int32)) (l2 := [(1, .int (0 : Int32)), (0, va_rf a0)]) (by decide) (by first | rfl | (simp [rt_cat, cat_i, cat_l]; done) | (simp [rt_cat, cat_i, cat_l]; decide)) dX10_letters_15 ?_
    refine rt_iconst (pc := 16) (n := 0) (v := (0 : Int32)) (by decide) dX10_letters_16 ?_
    refine rt_istore_n (pc := 17) (k0 := 2) (x := (0 : Int32)) (l2 := [(2, .int (0 : Int32)), (1, .int (0 : Int32)), (0, va_rf a0)]) (by decide) (by first | rfl | (simp [rt_cat, cat_i, cat_l]; done) | (simp [rt_cat, cat_i, cat_l]; decide)) dX10_letters_17 ?_
    exact rt_locals (rt_sub [2, 1, 0] rfl) (rX10_letters_18 hd zf _ _ _ _ _ _ hf)
  rw [if_neg c3] at hf
  refine rt_if_eq_n (pc := 4) (x := v1) (tgt := 10) (by decide) dX10_letters_4 c3 ?_
  refine rt_bipush (pc := 7) (n := -4) (v := (-4 : Int32)) (by decide) dX10_letters_7 ?_
  cases hf
  exact rt_ret (pc := 9) dX10_letters_9 rfl
noncomputable def fX10_letters (E : ah_E) (a0 : Option Nat) (h : ah_H) : Option (Int32 × ah_H) := if hp_rcv h a0 11 = false then none else bX10_letters_0 E a0 h
set_option maxRecDepth 20000 in
set_option maxHeartbeats 4000000 in
theorem sX10_letters {X : ah_X} (d : Nat) (hd : 48 ≤ d) {a0 : Option Nat} {h : ah_H} {r : Int32} {h2 : ah_H} (hf : fX10_letters X.2.2.2 a0 h = some (r, h2)) : hp_rcv h a0 11 = true ∧ Rn X yX10_letters cX10_letters 3 (some .int) d [va_rf a0] h (some (.int r)) h2 := by
  unfold fX10_letters at hf
  by_cases c0 : hp_rcv h a0 11 = false
  · rw [if_pos c0] at hf; cases hf
  rw [if_neg c0] at hf
  refine ⟨(Bool.not_eq_false _).mp c0, ?_⟩
  obtain ⟨d, rfl⟩ : ∃ k, d = k + 1 := ⟨d - 1, by omega⟩
  exact Rn.of2 me_X10_letters (by simp [lg_sl, rt_cat, cat_i, cat_l]) (ok_i _) (l := [(0, va_rf a0)]) (by simp [lv_args, rt_cat, cat_i, cat_l]) (rX10_letters_0 (by omega) hf)
noncomputable def bX10_pictureAt_2 (E : ah_E) : Nat → Option Nat → Int32 → Int32 → ah_H → Option (Int32 × ah_H)
  | 0 => fun _ _ _ _ => none
  | n + 1 => fun a0 a1 a2 h =>
  (hp_gi h a0 11 71).bind fun v1 =>
  if v1 ≤ a2 then
    some ((-1 : Int32), h)
  else
  (hp_gr h a0 11 69).bind fun v4 =>
  (hp_ldi h v4 a2).bind fun v6 =>
  if v6 = a1 then
    some (a2, h)
  else
  bX10_pictureAt_2 E n a0 a1 (a2 + 1) h
set_option maxRecDepth 20000 in
set_option maxHeartbeats 4000000 in
theorem rX10_pictureAt_2 {X : ah_X} {d : Nat} (n : Nat) : ∀ (a0 : Option Nat) (a1 : Int32) (a2 : Int32) (h : ah_H) (r : Int32) (h2 : ah_H), bX10_pictureAt_2 X.2.2.2 n a0 a1 a2 h = some (r, h2) → Rt X yX10_pictureAt cX10_pictureAt 3 d 2 [(0, va_rf a0), (1, .int a1), (2, .int a2)] [] h (some (.int r)) h2 := by
  induction n with
  | zero => intro a0 a1 a2 h r h2 hf; cases hf
  | succ n ih =>
  intro a0 a1 a2 h r h2 hf
  unfold bX10_pictureAt_2 at hf
  refine rt_iload_n (pc := 2) (k0 := 2) (x := a2) 2 rfl dX10_pictureAt_2 ?_
  refine rt_aload_n (pc := 3) (k0 := 0) (x := a0) 0 rfl dX10_pictureAt_3 ?_
  obtain ⟨v1, e2, hf⟩ := ob1 hf
  refine rt_gi (pc := 4) fd_X10_363 dX10_pictureAt_4 e2 ?_
  by_cases c3 : v1 ≤ a2
  · rw [if_pos c3] at hf
    refine rt_icmp_ge_p (pc := 7) (x := a2) (z := v1) (tgt := 28) (by decide) dX10_pictureAt_7 c3 ?_
    refine rt_iconst (pc := 28) (n := -1) (v := (-1 : Int32)) (by decide) dX10_pictureAt_28 ?_
    cases hf
    exact rt_ret (pc := 29) dX10_pictureAt_29 rfl
  rw [if_neg c3] at hf
  refine rt_icmp_ge_n (pc := 7) (x := a2) (z := v1) (tgt := 28) (by decide) dX10_pictureAt_7 c3 ?_
  refine rt_aload_n (pc := 10) (k0 := 0) (x := a0) 0 rfl dX10_pictureAt_10 ?_
  obtain ⟨v4, e5, hf⟩ := ob1 hf
  refine rt_gr (pc := 11) fd_X10_252 dX10_pictureAt_11 e5 ?_
  refine rt_iload_n (pc := 14) (k0 := 2) (x := a2) 2 rfl dX10_pictureAt_14 ?_
  obtain ⟨v6, e7, hf⟩ := ob1 hf
  refine rt_iald (pc := 15) dX10_pictureAt_15 e7 ?_
  refine rt_iload_n (pc := 16) (k0 := 1) (x := a1) 1 rfl dX10_pictureAt_16 ?_
  by_cases c8 : v6 = a1
  · rw [if_pos c8] at hf
    refine rt_icmp_ne_p (pc := 17) (x := v6) (z := a1) (tgt := 22) (by decide) dX10_pictureAt_17 c8 ?_
    refine rt_iload_n (pc := 20) (k0 := 2) (x := a2) 2 rfl dX10_pictureAt_20 ?_
    cases hf
    exact rt_ret (pc := 21) dX10_pictureAt_21 rfl
  rw [if_neg c8] at hf
  refine rt_icmp_ne_n (pc := 17) (x := v6) (z := a1) (tgt := 22) (by decide) dX10_pictureAt_17 c8 ?_
  refine rt_iinc (pc := 22) (i := 2) (n := 1) (x := a2) (v := (a2 + 1)) (l2 := [(2, .int (a2 + 1)), (0, va_rf a0), (1, .int a1)]) 2 rfl rfl (by decide) (by first | rfl | (simp [rt_cat, cat_i, cat_l]; done) | (simp [rt_cat, cat_i, cat_l]; decide)) dX10_pictureAt_22 ?_
  refine rt_goto (pc := 25) (tgt := 2) (by decide) dX10_pictureAt_25 ?_
  exact rt_locals (rt_sub [1, 2, 0] rfl) (ih _ _ _ _ _ _ hf)
noncomputable def bX10_pictureAt_0 (E : ah_E) (a0 : Option Nat) (a1 : Int32) (h : ah_H) : Option (Int32 × ah_H) :=
  bX10_pictureAt_2 E zf a0 a1 (0 : Int32) h
set_option maxRecDepth 20000 in
set_option maxHeartbeats 4000000 in
theorem rX10_pictureAt_0 {X : ah_X} {d : Nat} {a0 : Option Nat} {a1 : Int32} {h : ah_H} {r : Int32} {h2 : ah_H} (hf : bX10_pictureAt_0 X.2.2.2 a0 a1 h = some (r, h2)) : Rt X yX10_pictureAt cX10_pictureAt 3 d 0 [(0, va_rf a0), (1, .int a1)] [] h (some (.int r)) h2 := by
  unfold bX10_pictureAt_0 at hf
  refine rt_iconst (pc := 0) (n := 0) (v := (0 : Int32)) (by decide) dX10_pictureAt_0 ?_
  refine rt_istore_n (pc := 1) (k0 := 2) (x := (0 : Int32)) (l2 := [(2, .int (0 : Int32)), (0, va_rf a0), (1, .int a1)]) (by decide) (by first | rfl | (simp [rt_cat, cat_i, cat_l]; done) | (simp [rt_cat, cat_i, cat_l]; decide)) dX10_pictureAt_1 ?_
  exact rt_locals (rt_sub [1, 2, 0] rfl) (rX10_pictureAt_2 zf _ _ _ _ _ _ hf)
noncomputable def fX10_pictureAt (E : ah_E) (a0 : Option Nat) (a1 : Int32) (h : ah_H) : Option (Int32 × ah_H) := if hp_rcv h a0 11 = false then none else bX10_pictureAt_0 E a0 a1 h
set_option maxRecDepth 20000 in
set_option maxHeartbeats 4000000 in
theorem sX10_pictureAt {X : ah_X} (d : Nat) (hd : 0 ≤ d) {a0 : Option Nat} {a1 : Int32} {h : ah_H} {r : Int32} {h2 : ah_H} (hf : fX10_pictureAt X.2.2.2 a0 a1 h = some (r, h2)) : hp_rcv h a0 11 = true ∧ Rn X yX10_pictureAt cX10_pictureAt 3 (some .int) d [va_rf a0, .int a1] h (some (.int r)) h2 := by
  unfold fX10_pictureAt at hf
  by_cases c0 : hp_rcv h a0 11 = false
  · rw [if_pos c0] at hf; cases hf
  rw [if_neg c0] at hf
  refine ⟨(Bool.not_eq_false _).mp c0, ?_⟩
  exact Rn.of2 me_X10_pictureAt (by simp [lg_sl, rt_cat, cat_i, cat_l]) (ok_i _) (l := [(0, va_rf a0), (1, .int a1)]) (by simp [lv_args, rt_cat, cat_i, cat_l]) (rX10_pictureAt_0 hf)
