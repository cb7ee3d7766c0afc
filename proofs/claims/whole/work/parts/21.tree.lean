noncomputable def bX1_firstNotBelow_73 (E : ah_E) (a3 : Int32) (h : ah_H) : Option (Int32 × ah_H) :=
  some (a3, h)
set_option maxRecDepth 20000 in
set_option maxHeartbeats 4000000 in
theorem rX1_firstNotBelow_73 {X : ah_X} {d : Nat} (hd : 2 ≤ d) {a3 : Int32} {h : ah_H} {r : Int32} {h2 : ah_H} (hf : bX1_firstNotBelow_73 X.2.2.2 a3 h = some (r, h2)) : Rt X yX1_firstNotBelow cX1_firstNotBelow 7 (d + 1) 73 [(3, .int a3)] [] h (some (.int r)) h2 := by
  unfold bX1_firstNotBelow_73 at hf
  refine rt_iload_n (pc := 73) (k0 := 3) (x := a3) 0 rfl dX1_firstNotBelow_73 ?_
  cases hf
  exact rt_ret (pc := 74) dX1_firstNotBelow_74 rfl
noncomputable def bX1_firstNotBelow_67 (E : ah_E) (k14 : Option Nat → Int64 → Int32 → Int32 → Int32 → ah_H → Option (Int32 × ah_H)) (a0 : Option Nat) (a1 : Int64) (a3 : Int32) (a4 : Int32) (a5 : Int32) (h : ah_H) : Option (Int32 × ah_H) :=
  k14 a0 a1 a3 a4 (a5 + 1) h
set_option maxRecDepth 20000 in
set_option maxHeartbeats 4000000 in
theorem rX1_firstNotBelow_67 {X : ah_X} {d : Nat} (hd : 2 ≤ d) {k14 : Option Nat → Int64 → Int32 → Int32 → Int32 → ah_H → Option (Int32 × ah_H)} (hk14 : ∀ (x0 : Option Nat) (x1 : Int64) (x2 : Int32) (x3 : Int32) (x4 : Int32) (h : ah_H) (r : Int32) (h2 : ah_H), k14 x0 x1 x2 x3 x4 h = some (r, h2) → Rt X yX1_firstNotBelow cX1_firstNotBelow 7 (d + 1) 14 [(0, va_rf x0), (1, .long x1), (3, .int x2), (4, .int x3), (5, .int x4)] [] h (some (.int r)) h2) {a0 : Option Nat} {a1 : Int64} {a3 : Int32} {a4 : Int32} {a5 : Int32} {h : ah_H} {r : Int32} {h2 : ah_H} (hf : bX1_firstNotBelow_67 X.2.2.2 k14 a0 a1 a3 a4 a5 h = some (r, h2)) : Rt X yX1_firstNotBelow cX1_firstNotBelow 7 (d + 1) 67 [(0, va_rf a0), (1, .long a1), (3, .int a3), (4, .int a4), (5, .int a5)] [] h (some (.int r)) h2 := by
  unfold bX1_firstNotBelow_67 at hf
  refine rt_iinc (pc := 67) (i := 5) (n := 1) (x := a5) (v := (a5 + 1)) (l2 := [(5, .int (a5 + 1)), (0, va_rf a0), (1, .long a1), (3, .int a3), (4, .int a4)]) 4 rfl rfl (by decide) (by first | rfl | (simp [rt_cat, cat_i, cat_l]; done) | (simp [rt_cat, cat_i, cat_l]; decide)) dX1_firstNotBelow_67 ?_
  refine rt_goto (pc := 70) (tgt := 14) (by decide) dX1_firstNotBelow_70 ?_
  exact rt_locals (rt_sub [1, 2, 3, 4, 0] rfl) (hk14 _ _ _ _ _ _ _ _ hf)
noncomputable def bX1_firstNotBelow_14 (E : ah_E) : Nat → Option Nat → Int64 → Int32 → Int32 → Int32 → ah_H → Option (Int32 × ah_H)
  | 0 => fun _ _ _ _ _ _ => none
  | n + 1 => fun a0 a1 a3 a4 a5 h =>
  if (32 : Int32) ≤ a5 then
    bX1_firstNotBelow_73 E a3 h
  else
  if a4 ≤ a3 then
    bX1_firstNotBelow_73 E a3 h
  else
  (hp_gr h a0 2 0).bind fun v4 =>
  ob2 (fJx4a65c_get_915e3 E v4 ((a3 + a4) / (2 : Int32)) h) fun v8 w7 =>
  if hp_cls w7 v8 3 = false then none else
  (hp_gl w7 v8 3 0).bind fun v11 =>
  if a1 ≤ v11 then
    bX1_firstNotBelow_67 E (bX1_firstNotBelow_14 E n) a0 a1 a3 ((a3 + a4) / (2 : Int32)) a5 w7
  else
  bX1_firstNotBelow_67 E (bX1_firstNotBelow_14 E n) a0 a1 (((a3 + a4) / (2 : Int32)) + (1 : Int32)) a4 a5 w7
set_option maxRecDepth 20000 in
set_option maxHeartbeats 4000000 in
theorem rX1_firstNotBelow_14 {X : ah_X} {d : Nat} (hd : 2 ≤ d) (n : Nat) : ∀ (a0 : Option Nat) (a1 : Int64) (a3 : Int32) (a4 : Int32) (a5 : Int32) (h : ah_H) (r : Int32) (h2 : ah_H), bX1_firstNotBelow_14 X.2.2.2 n a0 a1 a3 a4 a5 h = some (r, h2) → Rt X yX1_firstNotBelow cX1_firstNotBelow 7 (d + 1) 14 [(0, va_rf a0), (1, .long a1), (3, .int a3), (4, .int a4), (5, .int a5)] [] h (some (.int r)) h2 := by
  induction n with
  | zero => intro a0 a1 a3 a4 a5 h r h2 hf; cases hf
  | succ n ih =>
  intro a0 a1 a3 a4 a5 h r h2 hf
  unfold bX1_firstNotBelow_14 at hf
  refine rt_iload (pc := 14) (i := 5) (x := a5) 4 rfl dX1_firstNotBelow_14 ?_
  refine rt_bipush (pc := 16) (n := 32) (v := (32 : Int32)) (by decide) dX1_firstNotBelow_16 ?_
  by_cases c1 : (32 : Int32) ≤ a5
  · rw [if_pos c1] at hf
    refine rt_icmp_ge_p (pc := 18) (x := a5) (z := (32 : Int32)) (tgt := 73) (by decide) dX1_firstNotBelow_18 c1 ?_
    exact rt_locals (rt_sub [2] rfl) (rX1_firstNotBelow_73 hd hf)
  rw [if_neg c1] at hf
  refine rt_icmp_ge_n (pc := 18) (x := a5) (z := (32 : Int32)) (tgt := 73) (by decide) dX1_firstNotBelow_18 c1 ?_
  refine rt_iload_n (pc := 21) (k0 := 3) (x := a3) 2 rfl dX1_firstNotBelow_21 ?_
  refine rt_iload (pc := 22) (i := 4) (x := a4) 3 rfl dX1_firstNotBelow_22 ?_
  by_cases c2 : a4 ≤ a3
  · rw [if_pos c2] at hf
    refine rt_icmp_ge_p (pc := 24) (x := a3) (z := a4) (tgt := 73) (by decide) dX1_firstNotBelow_24 c2 ?_
    exact rt_locals (rt_sub [2] rfl) (rX1_firstNotBelow_73 hd hf)
  rw [if_neg c2] at hf
  refine rt_icmp_ge_n (pc := 24) (x := a3) (z := a4) (tgt := 73) (by decide) dX1_firstNotBelow_24 c2 ?_
  refine rt_iload_n (pc := 27) (k0 := 3) (x := a3) 2 rfl dX1_firstNotBelow_27 ?_
  refine rt_iload (pc := 28) (i := 4) (x := a4) 3 rfl dX1_firstNotBelow_28 ?_
  refine rt_iadd (pc := 30) (x := a3) (z := a4) dX1_firstNotBelow_30 ?_
  refine rt_iconst (pc := 31) (n := 2) (v := (2 : Int32)) (by decide) dX1_firstNotBelow_31 ?_
  refine rt_idiv (pc := 32) (x := (a3 + a4)) (z := (2 : Int32)) (by decide) dX1_firstNotBelow_32 ?_
  refine rt_istore (pc := 33) (i := 6) (x := ((a3 + a4) / (2 : Int32))) (l2 := [(6, .int ((a3 + a4) / (2 : Int32))), (0, va_rf a0), (1, .long a1), (3, .int a3), (4, .int a4), (5, .int a5)]) (by decide) (by first | rfl | (simp [rt_cat, cat_i, cat_l]; done) | (simp [rt_cat, cat_i, cat_l]; decide)) dX1_firstNotBelow_33 ?_
  refine rt_aload_n (pc := 35) (k0 := 0) (x := a0) 1 rfl dX1_firstNotBelow_35 ?_
  obtain ⟨v4, e5, hf⟩ := ob1 hf
  refine rt_gr (pc := 36) fd_X1_12 dX1_firstNotBelow_36 e5 ?_
  refine rt_iload (pc := 39) (i := 6) (x := ((a3 + a4) / (2 : Int32))) 0 rfl dX1_firstNotBelow_39 ?_
  obtain ⟨v8, w7, e6, hf⟩ := ob2_of hf
  have g9 := sJx4a65c_get_915e3 d (by omega) e6
  refine rt_callV (pc := 41) (As := [.int ((a3 + a4) / (2 : Int32))]) (st := []) me_Jx4a65c_get_915e3 mi_Jx4a65c_get_915e3 wl_X1_22 dX1_firstNotBelow_41 rfl (by decide) rfl g9.1 g9.2 ?_
  by_cases c10 : hp_cls w7 v8 3 = false
  · rw [if_pos c10] at hf; cases hf
  rw [if_neg c10] at hf
  refine rt_cast (pc := 44) (x := v8) (show vwCl[3]? = some (RX2, TX2, 2) from rfl) wc_X1_26 dX1_firstNotBelow_44 ((Bool.not_eq_false _).mp c10) ?_
  obtain ⟨v11, e12, hf⟩ := ob1 hf
  refine rt_gl (pc := 47) fd_X1_28 dX1_firstNotBelow_47 e12 ?_
  refine rt_lload_n (pc := 50) (k0 := 1) (x := a1) 2 rfl dX1_firstNotBelow_50 ?_
  by_cases c13 : a1 ≤ v11
  · rw [if_pos c13] at hf
    refine rt_lif_ge_p (pc := 51) (x := v11) (z := a1) (tgt := 63) (by decide) dX1_firstNotBelow_51 dX1_firstNotBelow_52 c13 ?_
    refine rt_iload (pc := 63) (i := 6) (x := ((a3 + a4) / (2 : Int32))) 0 rfl dX1_firstNotBelow_63 ?_
    refine rt_istore (pc := 65) (i := 4) (x := ((a3 + a4) / (2 : Int32))) (l2 := [(4, .int ((a3 + a4) / (2 : Int32))), (6, .int ((a3 + a4) / (2 : Int32))), (0, va_rf a0), (1, .long a1), (3, .int a3), (5, .int a5)]) (by decide) (by first | rfl | (simp [rt_cat, cat_i, cat_l]; done) | (simp [rt_cat, cat_i, cat_l]; decide)) dX1_firstNotBelow_65 ?_
    exact rt_locals (rt_sub [2, 3, 4, 0, 5] rfl) (rX1_firstNotBelow_67 hd ih hf)
  rw [if_neg c13] at hf
  refine rt_lif_ge_n (pc := 51) (x := v11) (z := a1) (tgt := 63) (by decide) dX1_firstNotBelow_51 dX1_firstNotBelow_52 c13 ?_
  refine rt_iload (pc := 55) (i := 6) (x := ((a3 + a4) / (2 : Int32))) 0 rfl dX1_firstNotBelow_55 ?_
  refine rt_iconst (pc := 57) (n := 1) (v := (1 : Int32)) (by decide) dX1_firstNotBelow_57 ?_
  refine rt_iadd (pc := 58) (x := ((a3 + a4) / (2 : Int32))) (z := (1 : Int32)) dX1_firstNotBelow_58 ?_
  refine rt_istore_n (pc := 59) (k0 := 3) (x := (((a3 + a4) / (2 : Int32)) + (1 : Int32))) (l2 := [(3, .int (((a3 + a4) / (2 : Int32)) + (1 : Int32))), (6, .int ((a3 + a4) / (2 : Int32))), (0, va_rf a0), (1, .long a1), (4, .int a4), (5, .int a5)]) (by decide) (by first | rfl | (simp [rt_cat, cat_i, cat_l]; done) | (simp [rt_cat, cat_i, cat_l]; decide)) dX1_firstNotBelow_59 ?_
  refine rt_goto (pc := 60) (tgt := 67) (by decide) dX1_firstNotBelow_60 ?_
  exact rt_locals (rt_sub [2, 3, 0, 4, 5] rfl) (rX1_firstNotBelow_67 hd ih hf)
noncomputable def bX1_firstNotBelow_0 (E : ah_E) (a0 : Option Nat) (a1 : Int64) (h : ah_H) : Option (Int32 × ah_H) :=
  (hp_gr h a0 2 0).bind fun v1 =>
  ob2 (fJx4a65c_size_8abf5 E v1 h) fun v5 w4 =>
  bX1_firstNotBelow_14 E zf a0 a1 (0 : Int32) v5 (0 : Int32) w4
set_option maxRecDepth 20000 in
set_option maxHeartbeats 4000000 in
theorem rX1_firstNotBelow_0 {X : ah_X} {d : Nat} (hd : 2 ≤ d) {a0 : Option Nat} {a1 : Int64} {h : ah_H} {r : Int32} {h2 : ah_H} (hf : bX1_firstNotBelow_0 X.2.2.2 a0 a1 h = some (r, h2)) : Rt X yX1_firstNotBelow cX1_firstNotBelow 7 (d + 1) 0 [(0, va_rf a0), (1, .long a1)] [] h (some (.int r)) h2 := by
  unfold bX1_firstNotBelow_0 at hf
  refine rt_iconst (pc := 0) (n := 0) (v := (0 : Int32)) (by decide) dX1_firstNotBelow_0 ?_
  refine rt_istore_n (pc := 1) (k0 := 3) (x := (0 : Int32)) (l2 := [(3, .int (0 : Int32)), (0, va_rf a0), (1, .long a1)]) (by decide) (by first | rfl | (simp [rt_cat, cat_i, cat_l]; done) | (simp [rt_cat, cat_i, cat_l]; decide)) dX1_firstNotBelow_1 ?_
  refine rt_aload_n (pc := 2) (k0 := 0) (x := a0) 1 rfl dX1_firstNotBelow_2 ?_
  obtain ⟨v1, e2, hf⟩ := ob1 hf
  refine rt_gr (pc := 3) fd_X1_12 dX1_firstNotBelow_3 e2 ?_
  obtain ⟨v5, w4, e3, hf⟩ := ob2_of hf
  have g6 := sJx4a65c_size_8abf5 d (by omega) e3
  refine rt_callV (pc := 6) (As := []) (st := []) me_Jx4a65c_size_8abf5 mi_Jx4a65c_size_8abf5 wl_X1_18 dX1_firstNotBelow_6 rfl (by decide) rfl g6.1 g6.2 ?_
  refine rt_istore (pc := 9) (i := 4) (x := v5) (l2 := [(4, .int v5), (3, .int (0 : Int32)), (0, va_rf a0), (1, .long a1)]) (by decide) (by first | rfl | (simp [rt_cat, cat_i, cat_l]; done) | (simp [rt_cat, cat_i, cat_l]; decide)) dX1_firstNotBelow_9 ?_
  refine rt_iconst (pc := 11) (n := 0) (v := (0 : Int32)) (by decide) dX1_firstNotBelow_11 ?_
  refine rt_istore (pc := 12) (i := 5) (x := (0 : Int32)) (l2 := [(5, .int (0 : Int32)), (4, .int v5), (3, .int (0 : Int32)), (0, va_rf a0), (1, .long a1)]) (by decide) (by first | rfl | (simp [rt_cat, cat_i, cat_l]; done) | (simp [rt_cat, cat_i, cat_l]; decide)) dX1_firstNotBelow_12 ?_
  exact rt_locals (rt_sub [3, 4, 2, 1, 0] rfl) (rX1_firstNotBelow_14 hd zf _ _ _ _ _ _ _ _ hf)
noncomputable def fX1_firstNotBelow (E : ah_E) (a0 : Option Nat) (a1 : Int64) (h : ah_H) : Option (Int32 × ah_H) := if hp_rcv h a0 2 = false then none else bX1_firstNotBelow_0 E a0 a1 h
set_option maxRecDepth 20000 in
set_option maxHeartbeats 4000000 in
theorem sX1_firstNotBelow {X : ah_X} (d : Nat) (hd : 3 ≤ d) {a0 : Option Nat} {a1 : Int64} {h : ah_H} {r : Int32} {h2 : ah_H} (hf : fX1_firstNotBelow X.2.2.2 a0 a1 h = some (r, h2)) : hp_rcv h a0 2 = true ∧ Rn X yX1_firstNotBelow cX1_firstNotBelow 7 (some .int) d [va_rf a0, .long a1] h (some (.int r)) h2 := by
  unfold fX1_firstNotBelow at hf
  by_cases c0 : hp_rcv h a0 2 = false
  · rw [if_pos c0] at hf; cases hf
  rw [if_neg c0] at hf
  refine ⟨(Bool.not_eq_false _).mp c0, ?_⟩
  obtain ⟨d, rfl⟩ : ∃ k, d = k + 1 := ⟨d - 1, by omega⟩
  exact Rn.of2 me_X1_firstNotBelow (by simp [lg_sl, rt_cat, cat_i, cat_l]) (ok_i _) (l := [(0, va_rf a0), (1, .long a1)]) (by simp [lv_args, rt_cat, cat_i, cat_l]) (rX1_firstNotBelow_0 (by omega) hf)
noncomputable def bX1_hasAt_39 (E : ah_E) (s0 : Int32) (h : ah_H) : Option (Int32 × ah_H) :=
  some (s0, h)
set_option maxRecDepth 20000 in
set_option maxHeartbeats 4000000 in
theorem rX1_hasAt_39 {X : ah_X} {d : Nat} (hd : 2 ≤ d) {s0 : Int32} {h : ah_H} {r : Int32} {h2 : ah_H} (hf : bX1_hasAt_39 X.2.2.2 s0 h = some (r, h2)) : Rt X yX1_hasAt cX1_hasAt 4 (d + 1) 39 [] [.int s0] h (some (.int r)) h2 := by
  unfold bX1_hasAt_39 at hf
  cases hf
  exact rt_ret (pc := 39) dX1_hasAt_39 rfl
noncomputable def bX1_hasAt_38 (E : ah_E) (h : ah_H) : Option (Int32 × ah_H) :=
  bX1_hasAt_39 E (0 : Int32) h
set_option maxRecDepth 20000 in
set_option maxHeartbeats 4000000 in
theorem rX1_hasAt_38 {X : ah_X} {d : Nat} (hd : 2 ≤ d)  {h : ah_H} {r : Int32} {h2 : ah_H} (hf : bX1_hasAt_38 X.2.2.2  h = some (r, h2)) : Rt X yX1_hasAt cX1_hasAt 4 (d + 1) 38 [] [] h (some (.int r)) h2 := by
  unfold bX1_hasAt_38 at hf
  refine rt_iconst (pc := 38) (n := 0) (v := (0 : Int32)) (by decide) dX1_hasAt_38 ?_
  exact rX1_hasAt_39 hd hf
noncomputable def bX1_hasAt_0 (E : ah_E) (a0 : Option Nat) (a1 : Int32) (a2 : Int64) (h : ah_H) : Option (Int32 × ah_H) :=
  if a1 < 0 then
    bX1_hasAt_38 E  h
  else
  (hp_gr h a0 2 0).bind fun v2 =>
  ob2 (fJx4a65c_size_8abf5 E v2 h) fun v6 w5 =>
  if v6 ≤ a1 then
    bX1_hasAt_38 E  w5
  else
  (hp_gr w5 a0 2 0).bind fun v9 =>
  ob2 (fJx4a65c_get_915e3 E v9 a1 w5) fun v13 w12 =>
  if hp_cls w12 v13 3 = false then none else
  (hp_gl w12 v13 3 0).bind fun v16 =>
  if v16 = a2 then
    bX1_hasAt_39 E (1 : Int32) w12
  else
  bX1_hasAt_38 E  w12
set_option maxRecDepth 20000 in
set_option maxHeartbeats 4000000 in
theorem rX1_hasAt_0 {X : ah_X} {d : Nat} (hd : 2 ≤ d) {a0 : Option Nat} {a1 : Int32} {a2 : Int64} {h : ah_H} {r : Int32} {h2 : ah_H} (hf : bX1_hasAt_0 X.2.2.2 a0 a1 a2 h = some (r, h2)) : Rt X yX1_hasAt cX1_hasAt 4 (d + 1) 0 [(0, va_rf a0), (1, .int a1), (2, .long a2)] [] h (some (.int r)) h2 := by
  unfold bX1_hasAt_0 at hf
  refine rt_iload_n (pc := 0) (k0 := 1) (x := a1) 1 rfl dX1_hasAt_0 ?_
  by_cases c1 : a1 < 0
  · rw [if_pos c1] at hf
    refine rt_if_lt_p (pc := 1) (x := a1) (tgt := 38) (by decide) dX1_hasAt_1 c1 ?_
    exact rt_locals (rt_sub [] rfl) (rX1_hasAt_38 hd hf)
  rw [if_neg c1] at hf
  refine rt_if_lt_n (pc := 1) (x := a1) (tgt := 38) (by decide) dX1_hasAt_1 c1 ?_
  refine rt_iload_n (pc := 4) (k0 := 1) (x := a1) 1 rfl dX1_hasAt_4 ?_
  refine rt_aload_n (pc := 5) (k0 := 0) (x := a0) 0 rfl dX1_hasAt_5 ?_
  obtain ⟨v2, e3, hf⟩ := ob1 hf
  refine rt_gr (pc := 6) fd_X1_12 dX1_hasAt_6 e3 ?_
  obtain ⟨v6, w5, e4, hf⟩ := ob2_of hf
  have g7 := sJx4a65c_size_8abf5 d (by omega) e4
  refine rt_callV (pc := 9) (As := []) (st := [.int a1]) me_Jx4a65c_size_8abf5 mi_Jx4a65c_size_8abf5 wl_X1_18 dX1_hasAt_9 rfl (by simp [rt_cat, cat_i, cat_l]) rfl g7.1 g7.2 ?_
  by_cases c8 : v6 ≤ a1
  · rw [if_pos c8] at hf
    refine rt_icmp_ge_p (pc := 12) (x := a1) (z := v6) (tgt := 38) (by decide) dX1_hasAt_12 c8 ?_
    exact rt_locals (rt_sub [] rfl) (rX1_hasAt_38 hd hf)
  rw [if_neg c8] at hf
  refine rt_icmp_ge_n (pc := 12) (x := a1) (z := v6) (tgt := 38) (by decide) dX1_hasAt_12 c8 ?_
  refine rt_aload_n (pc := 15) (k0 := 0) (x := a0) 0 rfl dX1_hasAt_15 ?_
  obtain ⟨v9, e10, hf⟩ := ob1 hf
  refine rt_gr (pc := 16) fd_X1_12 dX1_hasAt_16 e10 ?_
  refine rt_iload_n (pc := 19) (k0 := 1) (x := a1) 1 rfl dX1_hasAt_19 ?_
  obtain ⟨v13, w12, e11, hf⟩ := ob2_of hf
  have g14 := sJx4a65c_get_915e3 d (by omega) e11
  refine rt_callV (pc := 20) (As := [.int a1]) (st := []) me_Jx4a65c_get_915e3 mi_Jx4a65c_get_915e3 wl_X1_22 dX1_hasAt_20 rfl (by decide) rfl g14.1 g14.2 ?_
  by_cases c15 : hp_cls w12 v13 3 = false
  · rw [if_pos c15] at hf; cases hf
  rw [if_neg c15] at hf
  refine rt_cast (pc := 23) (x := v13) (show vwCl[3]? = some (RX2, TX2, 2) from rfl) wc_X1_26 dX1_hasAt_23 ((Bool.not_eq_false _).mp c15) ?_
  obtain ⟨v16, e17, hf⟩ := ob1 hf
  refine rt_gl (pc := 26) fd_X1_28 dX1_hasAt_26 e17 ?_
  refine rt_lload_n (pc := 29) (k0 := 2) (x := a2) 2 rfl dX1_hasAt_29 ?_
  by_cases c18 : v16 = a2
  · rw [if_pos c18] at hf
    refine rt_lif_ne_p (pc := 30) (x := v16) (z := a2) (tgt := 38) (by decide) dX1_hasAt_30 dX1_hasAt_31 c18 ?_
    refine rt_iconst (pc := 34) (n := 1) (v := (1 : Int32)) (by decide) dX1_hasAt_34 ?_
    refine rt_goto (pc := 35) (tgt := 39) (by decide) dX1_hasAt_35 ?_
    exact rt_locals (rt_sub [] rfl) (rX1_hasAt_39 hd hf)
  rw [if_neg c18] at hf
  refine rt_lif_ne_n (pc := 30) (x := v16) (z := a2) (tgt := 38) (by decide) dX1_hasAt_30 dX1_hasAt_31 c18 ?_
  exact rt_locals (rt_sub [] rfl) (rX1_hasAt_38 hd hf)
noncomputable def fX1_hasAt (E : ah_E) (a0 : Option Nat) (a1 : Int32) (a2 : Int64) (h : ah_H) : Option (Int32 × ah_H) := if hp_rcv h a0 2 = false then none else zb (bX1_hasAt_0 E a0 a1 a2 h)
set_option maxRecDepth 20000 in
set_option maxHeartbeats 4000000 in
theorem sX1_hasAt {X : ah_X} (d : Nat) (hd : 3 ≤ d) {a0 : Option Nat} {a1 : Int32} {a2 : Int64} {h : ah_H} {r : Int32} {h2 : ah_H} (hf : fX1_hasAt X.2.2.2 a0 a1 a2 h = some (r, h2)) : hp_rcv h a0 2 = true ∧ Rn X yX1_hasAt cX1_hasAt 4 (some .boolean) d [va_rf a0, .int a1, .long a2] h (some (.int r)) h2 := by
  unfold fX1_hasAt at hf
  by_cases c0 : hp_rcv h a0 2 = false
  · rw [if_pos c0] at hf; cases hf
  rw [if_neg c0] at hf
  refine ⟨(Bool.not_eq_false _).mp c0, ?_⟩
  obtain ⟨hf, hz⟩ := zb_of hf
  obtain ⟨d, rfl⟩ : ∃ k, d = k + 1 := ⟨d - 1, by omega⟩
  exact Rn.of2 me_X1_hasAt (by simp [lg_sl, rt_cat, cat_i, cat_l]) (ok_z hz) (l := [(0, va_rf a0), (1, .int a1), (2, .long a2)]) (by simp [lv_args, rt_cat, cat_i, cat_l]) (rX1_hasAt_0 (by omega) hf)
noncomputable def bX1_rowOf_33 (E : ah_E) (s0 : Option Nat) (h : ah_H) : Option (Option Nat × ah_H) :=
  some (s0, h)
set_option maxRecDepth 20000 in
set_option maxHeartbeats 4000000 in
theorem rX1_rowOf_33 {X : ah_X} {d : Nat} (hd : 3 ≤ d) {s0 : Option Nat} {h : ah_H} {r : Option Nat} {h2 : ah_H} (hf : bX1_rowOf_33 X.2.2.2 s0 h = some (r, h2)) : Rt X yX1_rowOf cX1_rowOf 4 (d + 1) 33 [] [va_rf s0] h (some (va_rf r)) h2 := by
  unfold bX1_rowOf_33 at hf
  cases hf
  exact rt_ret (pc := 33) (rt_atR _ dX1_rowOf_33) rfl
noncomputable def bX1_rowOf_0 (E : ah_E) (a0 : Option Nat) (a1 : Int64) (h : ah_H) : Option (Option Nat × ah_H) :=
  ob2 (fX1_firstNotBelow E a0 a1 h) fun v3 w2 =>
  ob2 (fX1_hasAt E a0 v3 a1 w2) fun v7 w6 =>
  if v7 = 0 then
    bX1_rowOf_33 E none w6
  else
  (hp_gr w6 a0 2 0).bind fun v10 =>
  ob2 (fJx4a65c_get_915e3 E v10 v3 w6) fun v14 w13 =>
  if hp_cls w13 v14 3 = false then none else
  (hp_gr w13 v14 3 1).bind fun v17 =>
  bX1_rowOf_33 E v17 w13
set_option maxRecDepth 20000 in
set_option maxHeartbeats 4000000 in
theorem rX1_rowOf_0 {X : ah_X} {d : Nat} (hd : 3 ≤ d) {a0 : Option Nat} {a1 : Int64} {h : ah_H} {r : Option Nat} {h2 : ah_H} (hf : bX1_rowOf_0 X.2.2.2 a0 a1 h = some (r, h2)) : Rt X yX1_rowOf cX1_rowOf 4 (d + 1) 0 [(0, va_rf a0), (1, .long a1)] [] h (some (va_rf r)) h2 := by
  unfold bX1_rowOf_0 at hf
  refine rt_aload_n (pc := 0) (k0 := 0) (x := a0) 0 rfl dX1_rowOf_0 ?_
  refine rt_lload_n (pc := 1) (k0 := 1) (x := a1) 1 rfl dX1_rowOf_1 ?_
  obtain ⟨v3, w2, e1, hf⟩ := ob2_of hf
  have g4 := sX1_firstNotBelow d (by omega) e1
  refine rt_callV (pc := 2) (As := [.long a1]) (st := []) me_X1_firstNotBelow mi_X1_firstNotBelow wl_X1_32 dX1_rowOf_2 rfl (by decide) rfl g4.1 g4.2 ?_
  refine rt_istore_n (pc := 5) (k0 := 3) (x := v3) (l2 := [(3, .int v3), (0, va_rf a0), (1, .long a1)]) (by decide) (by first | rfl | (simp [rt_cat, cat_i, cat_l]; done) | (simp [rt_cat, cat_i, cat_l]; decide)) dX1_rowOf_5 ?_
  refine rt_aload_n (pc := 6) (k0 := 0) (x := a0) 1 rfl dX1_rowOf_6 ?_
  refine rt_iload_n (pc := 7) (k0 := 3) (x := v3) 0 rfl dX1_rowOf_7 ?_
  refine rt_lload_n (pc := 8) (k0 := 1) (x := a1) 2 rfl dX1_rowOf_8 ?_
  obtain ⟨v7, w6, e5, hf⟩ := ob2_of hf
  have g8 := sX1_hasAt d (by omega) e5
  refine rt_callV (pc := 9) (As := [.int v3, .long a1]) (st := []) me_X1_hasAt mi_X1_hasAt wl_X1_36 dX1_rowOf_9 rfl (by decide) rfl g8.1 g8.2 ?_
  by_cases c9 : v7 = 0
  · rw [if_pos c9] at hf
    refine rt_if_eq_p (pc := 12) (x := v7) (tgt := 32) (by decide) dX1_rowOf_12 c9 ?_
    refine rt_null (pc := 32) dX1_rowOf_32 ?_
    exact rt_locals (rt_sub [] rfl) (rX1_rowOf_33 hd hf)
  rw [if_neg c9] at hf
  refine rt_if_eq_n (pc := 12) (x := v7) (tgt := 32) (by decide) dX1_rowOf_12 c9 ?_
  refine rt_aload_n (pc := 15) (k0 := 0) (x := a0) 1 rfl dX1_rowOf_15 ?_
  obtain ⟨v10, e11, hf⟩ := ob1 hf
  refine rt_gr (pc := 16) fd_X1_12 dX1_rowOf_16 e11 ?_
  refine rt_iload_n (pc := 19) (k0 := 3) (x := v3) 0 rfl dX1_rowOf_19 ?_
  obtain ⟨v14, w13, e12, hf⟩ := ob2_of hf
  have g15 := sJx4a65c_get_915e3 d (by omega) e12
  refine rt_callV (pc := 20) (As := [.int v3]) (st := []) me_Jx4a65c_get_915e3 mi_Jx4a65c_get_915e3 wl_X1_22 dX1_rowOf_20 rfl (by decide) rfl g15.1 g15.2 ?_
  by_cases c16 : hp_cls w13 v14 3 = false
  · rw [if_pos c16] at hf; cases hf
  rw [if_neg c16] at hf
  refine rt_cast (pc := 23) (x := v14) (show vwCl[3]? = some (RX2, TX2, 2) from rfl) wc_X1_26 dX1_rowOf_23 ((Bool.not_eq_false _).mp c16) ?_
  obtain ⟨v17, e18, hf⟩ := ob1 hf
  refine rt_gr (pc := 26) fd_X1_40 dX1_rowOf_26 e18 ?_
  refine rt_goto (pc := 29) (tgt := 33) (by decide) dX1_rowOf_29 ?_
  exact rt_locals (rt_sub [] rfl) (rX1_rowOf_33 hd hf)
noncomputable def fX1_rowOf (E : ah_E) (a0 : Option Nat) (a1 : Int64) (h : ah_H) : Option (Option Nat × ah_H) := if hp_rcv h a0 2 = false then none else bX1_rowOf_0 E a0 a1 h
set_option maxRecDepth 20000 in
set_option maxHeartbeats 4000000 in
theorem sX1_rowOf {X : ah_X} (d : Nat) (hd : 4 ≤ d) {a0 : Option Nat} {a1 : Int64} {h : ah_H} {r : Option Nat} {h2 : ah_H} (hf : fX1_rowOf X.2.2.2 a0 a1 h = some (r, h2)) : hp_rcv h a0 2 = true ∧ Rn X yX1_rowOf cX1_rowOf 4 (some (.array .byte)) d [va_rf a0, .long a1] h (some (va_rf r)) h2 := by
  unfold fX1_rowOf at hf
  by_cases c0 : hp_rcv h a0 2 = false
  · rw [if_pos c0] at hf; cases hf
  rw [if_neg c0] at hf
  refine ⟨(Bool.not_eq_false _).mp c0, ?_⟩
  obtain ⟨d, rfl⟩ : ∃ k, d = k + 1 := ⟨d - 1, by omega⟩
  exact Rn.of2 me_X1_rowOf (by simp [lg_sl, rt_cat, cat_i, cat_l]) (ok_a _ _) (l := [(0, va_rf a0), (1, .long a1)]) (by simp [lv_args, rt_cat, cat_i, cat_l]) (rX1_rowOf_0 (by omega) hf)
noncomputable def bX1_removeFrom_64 (E : ah_E) (a0 : Option Nat) (a4 : Int32) (h : ah_H) : Option (Int32 × ah_H) :=
  (hp_gr h a0 2 0).bind fun v1 =>
  ob2 (fJx4a65c_size_8abf5 E v1 h) fun v5 w4 =>
  some ((a4 - v5), w4)
set_option maxRecDepth 20000 in
set_option maxHeartbeats 4000000 in
theorem rX1_removeFrom_64 {X : ah_X} {d : Nat} (hd : 2 ≤ d) {a0 : Option Nat} {a4 : Int32} {h : ah_H} {r : Int32} {h2 : ah_H} (hf : bX1_removeFrom_64 X.2.2.2 a0 a4 h = some (r, h2)) : Rt X yX1_removeFrom cX1_removeFrom 6 (d + 1) 64 [(0, va_rf a0), (4, .int a4)] [] h (some (.int r)) h2 := by
  unfold bX1_removeFrom_64 at hf
  refine rt_iload (pc := 64) (i := 4) (x := a4) 1 rfl dX1_removeFrom_64 ?_
  refine rt_aload_n (pc := 66) (k0 := 0) (x := a0) 0 rfl dX1_removeFrom_66 ?_
  obtain ⟨v1, e2, hf⟩ := ob1 hf
  refine rt_gr (pc := 67) fd_X1_12 dX1_removeFrom_67 e2 ?_
  obtain ⟨v5, w4, e3, hf⟩ := ob2_of hf
  have g6 := sJx4a65c_size_8abf5 d (by omega) e3
  refine rt_callV (pc := 70) (As := []) (st := [.int a4]) me_Jx4a65c_size_8abf5 mi_Jx4a65c_size_8abf5 wl_X1_18 dX1_removeFrom_70 rfl (by simp [rt_cat, cat_i, cat_l]) rfl g6.1 g6.2 ?_
  refine rt_isub (pc := 73) (x := a4) (z := v5) dX1_removeFrom_73 ?_
  cases hf
  exact rt_ret (pc := 74) dX1_removeFrom_74 rfl
noncomputable def bX1_removeFrom_12 (E : ah_E) : Nat → Option Nat → Int32 → Int64 → Int32 → Int32 → ah_H → Option (Int32 × ah_H)
  | 0 => fun _ _ _ _ _ _ => none
  | n + 1 => fun a0 a1 a2 a4 a5 h =>
  if a4 ≤ a5 then
    bX1_removeFrom_64 E a0 a4 h
  else
  (hp_gr h a0 2 0).bind fun v2 =>
  ob2 (fJx4a65c_size_8abf5 E v2 h) fun v6 w5 =>
  if v6 ≤ a1 then
    bX1_removeFrom_64 E a0 a4 w5
  else
  (hp_gr w5 a0 2 0).bind fun v9 =>
  ob2 (fJx4a65c_get_915e3 E v9 a1 w5) fun v13 w12 =>
  if hp_cls w12 v13 3 = false then none else
  (hp_gl w12 v13 3 0).bind fun v16 =>
  if a2 < v16 then
    bX1_removeFrom_64 E a0 a4 w12
  else
  (hp_gr w12 a0 2 0).bind fun v19 =>
  ob2 (fJx4a65c_remove_915e3 E v19 a1 w12) fun v23 w22 =>
  bX1_removeFrom_12 E n a0 a1 a2 a4 (a5 + 1) w22
set_option maxRecDepth 20000 in
set_option maxHeartbeats 4000000 in
theorem rX1_removeFrom_12 {X : ah_X} {d : Nat} (hd : 2 ≤ d) (n : Nat) : ∀ (a0 : Option Nat) (a1 : Int32) (a2 : Int64) (a4 : Int32) (a5 : Int32) (h : ah_H) (r : Int32) (h2 : ah_H), bX1_removeFrom_12 X.2.2.2 n a0 a1 a2 a4 a5 h = some (r, h2) → Rt X yX1_removeFrom cX1_removeFrom 6 (d + 1) 12 [(0, va_rf a0), (1, .int a1), (2, .long a2), (4, .int a4), (5, .int a5)] [] h (some (.int r)) h2 := by
  induction n with
  | zero => intro a0 a1 a2 a4 a5 h r h2 hf; cases hf
  | succ n ih =>
  intro a0 a1 a2 a4 a5 h r h2 hf
  unfold bX1_removeFrom_12 at hf
  refine rt_iload (pc := 12) (i := 5) (x := a5) 4 rfl dX1_removeFrom_12 ?_
  refine rt_iload (pc := 14) (i := 4) (x := a4) 3 rfl dX1_removeFrom_14 ?_
  by_cases c1 : a4 ≤ a5
  · rw [if_pos c1] at hf
    refine rt_icmp_ge_p (pc := 16) (x := a5) (z := a4) (tgt := 64) (by decide) dX1_removeFrom_16 c1 ?_
    exact rt_locals (rt_sub [0, 3] rfl) (rX1_removeFrom_64 hd hf)
  rw [if_neg c1] at hf
  refine rt_icmp_ge_n (pc := 16) (x := a5) (z := a4) (tgt := 64) (by decide) dX1_removeFrom_16 c1 ?_
  refine rt_iload_n (pc := 19) (k0 := 1) (x := a1) 1 rfl dX1_removeFrom_19 ?_
  refine rt_aload_n (pc := 20) (k0 := 0) (x := a0) 0 rfl dX1_removeFrom_20 ?_
  obtain ⟨v2, e3, hf⟩ := ob1 hf
  refine rt_gr (pc := 21) fd_X1_12 dX1_removeFrom_21 e3 ?_
  obtain ⟨v6, w5, e4, hf⟩ := ob2_of hf
  have g7 := sJx4a65c_size_8abf5 d (by omega) e4
  refine rt_callV (pc := 24) (As := []) (st := [.int a1]) me_Jx4a65c_size_8abf5 mi_Jx4a65c_size_8abf5 wl_X1_18 dX1_removeFrom_24 rfl (by simp [rt_cat, cat_i, cat_l]) rfl g7.1 g7.2 ?_
  by_cases c8 : v6 ≤ a1
  · rw [if_pos c8] at hf
    refine rt_icmp_ge_p (pc := 27) (x := a1) (z := v6) (tgt := 64) (by decide) dX1_removeFrom_27 c8 ?_
    exact rt_locals (rt_sub [0, 3] rfl) (rX1_removeFrom_64 hd hf)
  rw [if_neg c8] at hf
  refine rt_icmp_ge_n (pc := 27) (x := a1) (z := v6) (tgt := 64) (by decide) dX1_removeFrom_27 c8 ?_
  refine rt_aload_n (pc := 30) (k0 := 0) (x := a0) 0 rfl dX1_removeFrom_30 ?_
  obtain ⟨v9, e10, hf⟩ := ob1 hf
  refine rt_gr (pc := 31) fd_X1_12 dX1_removeFrom_31 e10 ?_
  refine rt_iload_n (pc := 34) (k0 := 1) (x := a1) 1 rfl dX1_removeFrom_34 ?_
  obtain ⟨v13, w12, e11, hf⟩ := ob2_of hf
  have g14 := sJx4a65c_get_915e3 d (by omega) e11
  refine rt_callV (pc := 35) (As := [.int a1]) (st := []) me_Jx4a65c_get_915e3 mi_Jx4a65c_get_915e3 wl_X1_22 dX1_removeFrom_35 rfl (by decide) rfl g14.1 g14.2 ?_
  by_cases c15 : hp_cls w12 v13 3 = false
  · rw [if_pos c15] at hf; cases hf
  rw [if_neg c15] at hf
  refine rt_cast (pc := 38) (x := v13) (show vwCl[3]? = some (RX2, TX2, 2) from rfl) wc_X1_26 dX1_removeFrom_38 ((Bool.not_eq_false _).mp c15) ?_
  obtain ⟨v16, e17, hf⟩ := ob1 hf
  refine rt_gl (pc := 41) fd_X1_28 dX1_removeFrom_41 e17 ?_
  refine rt_lload_n (pc := 44) (k0 := 2) (x := a2) 2 rfl dX1_removeFrom_44 ?_
  by_cases c18 : a2 < v16
  · rw [if_pos c18] at hf
    refine rt_lif_gt_p (pc := 45) (x := v16) (z := a2) (tgt := 64) (by decide) dX1_removeFrom_45 dX1_removeFrom_46 c18 ?_
    exact rt_locals (rt_sub [0, 3] rfl) (rX1_removeFrom_64 hd hf)
  rw [if_neg c18] at hf
  refine rt_lif_gt_n (pc := 45) (x := v16) (z := a2) (tgt := 64) (by decide) dX1_removeFrom_45 dX1_removeFrom_46 c18 ?_
  refine rt_aload_n (pc := 49) (k0 := 0) (x := a0) 0 rfl dX1_removeFrom_49 ?_
  obtain ⟨v19, e20, hf⟩ := ob1 hf
  refine rt_gr (pc := 50) fd_X1_12 dX1_removeFrom_50 e20 ?_
  refine rt_iload_n (pc := 53) (k0 := 1) (x := a1) 1 rfl dX1_removeFrom_53 ?_
  obtain ⟨v23, w22, e21, hf⟩ := ob2_of hf
  have g24 := sJx4a65c_remove_915e3 d (by omega) e21
  refine rt_callV (pc := 54) (As := [.int a1]) (st := []) me_Jx4a65c_remove_915e3 mi_Jx4a65c_remove_915e3 wl_X1_81 dX1_removeFrom_54 rfl (by decide) rfl g24.1 g24.2 ?_
  refine rt_pop (pc := 57) (rt_cat _) dX1_removeFrom_57 ?_
  refine rt_iinc (pc := 58) (i := 5) (n := 1) (x := a5) (v := (a5 + 1)) (l2 := [(5, .int (a5 + 1)), (0, va_rf a0), (1, .int a1), (2, .long a2), (4, .int a4)]) 4 rfl rfl (by decide) (by first | rfl | (simp [rt_cat, cat_i, cat_l]; done) | (simp [rt_cat, cat_i, cat_l]; decide)) dX1_removeFrom_58 ?_
  refine rt_goto (pc := 61) (tgt := 12) (by decide) dX1_removeFrom_61 ?_
  exact rt_locals (rt_sub [1, 2, 3, 4, 0] rfl) (ih _ _ _ _ _ _ _ _ hf)
noncomputable def bX1_removeFrom_0 (E : ah_E) (a0 : Option Nat) (a1 : Int32) (a2 : Int64) (h : ah_H) : Option (Int32 × ah_H) :=
  (hp_gr h a0 2 0).bind fun v1 =>
  ob2 (fJx4a65c_size_8abf5 E v1 h) fun v5 w4 =>
  bX1_removeFrom_12 E zf a0 a1 a2 v5 (0 : Int32) w4
set_option maxRecDepth 20000 in
set_option maxHeartbeats 4000000 in
theorem rX1_removeFrom_0 {X : ah_X} {d : Nat} (hd : 2 ≤ d) {a0 : Option Nat} {a1 : Int32} {a2 : Int64} {h : ah_H} {r : Int32} {h2 : ah_H} (hf : bX1_removeFrom_0 X.2.2.2 a0 a1 a2 h = some (r, h2)) : Rt X yX1_removeFrom cX1_removeFrom 6 (d + 1) 0 [(0, va_rf a0), (1, .int a1), (2, .long a2)] [] h (some (.int r)) h2 := by
  unfold bX1_removeFrom_0 at hf
  refine rt_aload_n (pc := 0) (k0 := 0) (x := a0) 0 rfl dX1_removeFrom_0 ?_
  obtain ⟨v1, e2, hf⟩ := ob1 hf
  refine rt_gr (pc := 1) fd_X1_12 dX1_removeFrom_1 e2 ?_
  obtain ⟨v5, w4, e3, hf⟩ := ob2_of hf
  have g6 := sJx4a65c_size_8abf5 d (by omega) e3
  refine rt_callV (pc := 4) (As := []) (st := []) me_Jx4a65c_size_8abf5 mi_Jx4a65c_size_8abf5 wl_X1_18 dX1_removeFrom_4 rfl (by decide) rfl g6.1 g6.2 ?_
  refine rt_istore (pc := 7) (i := 4) (x := v5) (l2 := [(4, .int v5), (0, va_rf a0), (1, .int a1), (2, .long a2)]) (by decide) (by first | rfl | (simp [rt_cat, cat_i, cat_l]; done) | (simp [rt_cat, cat_i, cat_l]; decide)) dX1_removeFrom_7 ?_
  refine rt_iconst (pc := 9) (n := 0) (v := (0 : Int32)) (by decide) dX1_removeFrom_9 ?_
  refine rt_istore (pc := 10) (i := 5) (x := (0 : Int32)) (l2 := [(5, .int (0 : Int32)), (4, .int v5), (0, va_rf a0), (1, .int a1), (2, .long a2)]) (by decide) (by first | rfl | (simp [rt_cat, cat_i, cat_l]; done) | (simp [rt_cat, cat_i, cat_l]; decide)) dX1_removeFrom_10 ?_
  exact rt_locals (rt_sub [2, 3, 4, 1, 0] rfl) (rX1_removeFrom_12 hd zf _ _ _ _ _ _ _ _ hf)
noncomputable def fX1_removeFrom (E : ah_E) (a0 : Option Nat) (a1 : Int32) (a2 : Int64) (h : ah_H) : Option (Int32 × ah_H) := if hp_rcv h a0 2 = false then none else bX1_removeFrom_0 E a0 a1 a2 h
set_option maxRecDepth 20000 in
set_option maxHeartbeats 4000000 in
theorem sX1_removeFrom {X : ah_X} (d : Nat) (hd : 3 ≤ d) {a0 : Option Nat} {a1 : Int32} {a2 : Int64} {h : ah_H} {r : Int32} {h2 : ah_H} (hf : fX1_removeFrom X.2.2.2 a0 a1 a2 h = some (r, h2)) : hp_rcv h a0 2 = true ∧ Rn X yX1_removeFrom cX1_removeFrom 6 (some .int) d [va_rf a0, .int a1, .long a2] h (some (.int r)) h2 := by
  unfold fX1_removeFrom at hf
  by_cases c0 : hp_rcv h a0 2 = false
  · rw [if_pos c0] at hf; cases hf
  rw [if_neg c0] at hf
  refine ⟨(Bool.not_eq_false _).mp c0, ?_⟩
  obtain ⟨d, rfl⟩ : ∃ k, d = k + 1 := ⟨d - 1, by omega⟩
  exact Rn.of2 me_X1_removeFrom (by simp [lg_sl, rt_cat, cat_i, cat_l]) (ok_i _) (l := [(0, va_rf a0), (1, .int a1), (2, .long a2)]) (by simp [lv_args, rt_cat, cat_i, cat_l]) (rX1_removeFrom_0 (by omega) hf)
noncomputable def bX2_init_0 (E : ah_E) (a0 : Option Nat) (a1 : Int64) (a3 : Option Nat) (h : ah_H) : Option ah_H :=
  if hp_rcv h a0 3 = false then none else
  (hp_pv h a0 3 0 (.long a1)).bind fun w3 =>
  (hp_pv w3 a0 3 1 (va_rf a3)).bind fun w5 =>
  some w5
set_option maxRecDepth 20000 in
set_option maxHeartbeats 4000000 in
theorem rX2_init_0 {X : ah_X} {d : Nat} (hd : 0 ≤ d) {a0 : Option Nat} {a1 : Int64} {a3 : Option Nat} {h : ah_H} {h2 : ah_H} (hf : bX2_init_0 X.2.2.2 a0 a1 a3 h = some h2) : Rt X yX2_init cX2_init 4 (d + 1) 0 [(0, va_rf a0), (1, .long a1), (3, va_rf a3)] [] h none h2 := by
  unfold bX2_init_0 at hf
  refine rt_aload_n (pc := 0) (k0 := 0) (x := a0) 0 rfl dX2_init_0 ?_
  by_cases c1 : hp_rcv h a0 3 = false
  · rw [if_pos c1] at hf; cases hf
  rw [if_neg c1] at hf
  refine rt_objInit (pc := 1) wl_X2_1 (by decide) dX2_init_1 (by obtain ⟨q, _, q2, _⟩ := hp_rcv_spec ((Bool.not_eq_false _).mp c1); exact ⟨q, q2⟩) ?_
  refine rt_aload_n (pc := 4) (k0 := 0) (x := a0) 0 rfl dX2_init_4 ?_
  refine rt_lload_n (pc := 5) (k0 := 1) (x := a1) 1 rfl dX2_init_5 ?_
  obtain ⟨w3, e4, hf⟩ := ob1 hf
  refine rt_putf (pc := 6) (x := a0) fw_X2_7 (Or.inr rfl) (pf_l _).1 (pf_l _).2 dX2_init_6 e4 ?_
  refine rt_aload_n (pc := 9) (k0 := 0) (x := a0) 0 rfl dX2_init_9 ?_
  refine rt_aload_n (pc := 10) (k0 := 3) (x := a3) 2 rfl dX2_init_10 ?_
  obtain ⟨w5, e6, hf⟩ := ob1 hf
  refine rt_putf (pc := 11) (x := a0) fw_X2_13 (Or.inr rfl) (pf_a _ _).1 (pf_a _ _).2 dX2_init_11 e6 ?_
  cases hf
  exact rt_ret (pc := 14) dX2_init_14 rfl
noncomputable def fX2_init (E : ah_E) (a0 : Option Nat) (a1 : Int64) (a3 : Option Nat) (h : ah_H) : Option ah_H := if hp_rcv h a0 3 = false then none else bX2_init_0 E a0 a1 a3 h
set_option maxRecDepth 20000 in
set_option maxHeartbeats 4000000 in
theorem sX2_init {X : ah_X} (d : Nat) (hd : 1 ≤ d) {a0 : Option Nat} {a1 : Int64} {a3 : Option Nat} {h : ah_H} {h2 : ah_H} (hf : fX2_init X.2.2.2 a0 a1 a3 h = some h2) : hp_rcv h a0 3 = true ∧ Rn X yX2_init cX2_init 4 none d [va_rf a0, .long a1, va_rf a3] h none h2 := by
  unfold fX2_init at hf
  by_cases c0 : hp_rcv h a0 3 = false
  · rw [if_pos c0] at hf; cases hf
  rw [if_neg c0] at hf
  refine ⟨(Bool.not_eq_false _).mp c0, ?_⟩
  obtain ⟨d, rfl⟩ : ∃ k, d = k + 1 := ⟨d - 1, by omega⟩
  exact Rn.of2 me_X2_init (by simp [lg_sl, rt_cat, cat_i, cat_l]) rfl (l := [(0, va_rf a0), (1, .long a1), (3, va_rf a3)]) (by simp [lv_args, rt_cat, cat_i, cat_l]) (rX2_init_0 (by omega) hf)
noncomputable def bX4_changes_16 (E : ah_E) (h : ah_H) : Option (Int32 × ah_H) :=
  some ((1 : Int32), h)
set_option maxRecDepth 20000 in
set_option maxHeartbeats 4000000 in
theorem rX4_changes_16 {X : ah_X} {d : Nat}  {h : ah_H} {r : Int32} {h2 : ah_H} (hf : bX4_changes_16 X.2.2.2  h = some (r, h2)) : Rt X yX4_changes cX4_changes 4 d 16 [] [] h (some (.int r)) h2 := by
  unfold bX4_changes_16 at hf
  refine rt_iconst (pc := 16) (n := 1) (v := (1 : Int32)) (by decide) dX4_changes_16 ?_
  cases hf
  exact rt_ret (pc := 17) dX4_changes_17 rfl
noncomputable def bX4_changes_39 (E : ah_E) (s0 : Int32) (h : ah_H) : Option (Int32 × ah_H) :=
  some (s0, h)
set_option maxRecDepth 20000 in
set_option maxHeartbeats 4000000 in
theorem rX4_changes_39 {X : ah_X} {d : Nat} {s0 : Int32} {h : ah_H} {r : Int32} {h2 : ah_H} (hf : bX4_changes_39 X.2.2.2 s0 h = some (r, h2)) : Rt X yX4_changes cX4_changes 4 d 39 [] [.int s0] h (some (.int r)) h2 := by
  unfold bX4_changes_39 at hf
  cases hf
  exact rt_ret (pc := 39) dX4_changes_39 rfl
noncomputable def bX4_changes_30 (E : ah_E) (a1 : Option Nat) (h : ah_H) : Option (Int32 × ah_H) :=
  if a1 = none then
    bX4_changes_39 E (0 : Int32) h
  else
  bX4_changes_39 E (1 : Int32) h
set_option maxRecDepth 20000 in
set_option maxHeartbeats 4000000 in
theorem rX4_changes_30 {X : ah_X} {d : Nat} {a1 : Option Nat} {h : ah_H} {r : Int32} {h2 : ah_H} (hf : bX4_changes_30 X.2.2.2 a1 h = some (r, h2)) : Rt X yX4_changes cX4_changes 4 d 30 [(1, va_rf a1)] [] h (some (.int r)) h2 := by
  unfold bX4_changes_30 at hf
  refine rt_aload_n (pc := 30) (k0 := 1) (x := a1) 0 rfl dX4_changes_30 ?_
  by_cases c1 : a1 = none
  · rw [if_pos c1] at hf
    refine rt_ifnull_p (pc := 31) (x := a1) (tgt := 38) (by decide) dX4_changes_31 c1 ?_
    refine rt_iconst (pc := 38) (n := 0) (v := (0 : Int32)) (by decide) dX4_changes_38 ?_
    exact rt_locals (rt_sub [] rfl) (rX4_changes_39 hf)
  rw [if_neg c1] at hf
  refine rt_ifnull_n (pc := 31) (x := a1) (tgt := 38) (by decide) dX4_changes_31 c1 ?_
  refine rt_iconst (pc := 34) (n := 1) (v := (1 : Int32)) (by decide) dX4_changes_34 ?_
  refine rt_goto (pc := 35) (tgt := 39) (by decide) dX4_changes_35 ?_
  exact rt_locals (rt_sub [] rfl) (rX4_changes_39 hf)
noncomputable def bX4_changes_92 (E : ah_E) (a2 : Int32) (h : ah_H) : Option (Int32 × ah_H) :=
  some (a2, h)
set_option maxRecDepth 20000 in
set_option maxHeartbeats 4000000 in
theorem rX4_changes_92 {X : ah_X} {d : Nat} {a2 : Int32} {h : ah_H} {r : Int32} {h2 : ah_H} (hf : bX4_changes_92 X.2.2.2 a2 h = some (r, h2)) : Rt X yX4_changes cX4_changes 4 d 92 [(2, .int a2)] [] h (some (.int r)) h2 := by
  unfold bX4_changes_92 at hf
  refine rt_iload_n (pc := 92) (k0 := 2) (x := a2) 0 rfl dX4_changes_92 ?_
  cases hf
  exact rt_ret (pc := 93) dX4_changes_93 rfl
noncomputable def bX4_changes_85 (E : ah_E) (k58 : Option Nat → Option Nat → Int32 → Int32 → ah_H → Option (Int32 × ah_H)) (a0 : Option Nat) (a1 : Option Nat) (a3 : Int32) (s0 : Int32) (h : ah_H) : Option (Int32 × ah_H) :=
  k58 a0 a1 s0 (a3 + 1) h
set_option maxRecDepth 20000 in
set_option maxHeartbeats 4000000 in
theorem rX4_changes_85 {X : ah_X} {d : Nat} {k58 : Option Nat → Option Nat → Int32 → Int32 → ah_H → Option (Int32 × ah_H)} (hk58 : ∀ (x0 : Option Nat) (x1 : Option Nat) (x2 : Int32) (x3 : Int32) (h : ah_H) (r : Int32) (h2 : ah_H), k58 x0 x1 x2 x3 h = some (r, h2) → Rt X yX4_changes cX4_changes 4 d 58 [(0, va_rf x0), (1, va_rf x1), (2, .int x2), (3, .int x3)] [] h (some (.int r)) h2) {a0 : Option Nat} {a1 : Option Nat} {a3 : Int32} {s0 : Int32} {h : ah_H} {r : Int32} {h2 : ah_H} (hf : bX4_changes_85 X.2.2.2 k58 a0 a1 a3 s0 h = some (r, h2)) : Rt X yX4_changes cX4_changes 4 d 85 [(0, va_rf a0), (1, va_rf a1), (3, .int a3)] [.int s0] h (some (.int r)) h2 := by
  unfold bX4_changes_85 at hf
  refine rt_istore_n (pc := 85) (k0 := 2) (x := s0) (l2 := [(2, .int s0), (0, va_rf a0), (1, va_rf a1), (3, .int a3)]) (by decide) (by first | rfl | (simp [rt_cat, cat_i, cat_l]; done) | (simp [rt_cat, cat_i, cat_l]; decide)) dX4_changes_85 ?_
  refine rt_iinc (pc := 86) (i := 3) (n := 1) (x := a3) (v := (a3 + 1)) (l2 := [(3, .int (a3 + 1)), (2, .int s0), (0, va_rf a0), (1, va_rf a1)]) 3 rfl rfl (by decide) (by first | rfl | (simp [rt_cat, cat_i, cat_l]; done) | (simp [rt_cat, cat_i, cat_l]; decide)) dX4_changes_86 ?_
  refine rt_goto (pc := 89) (tgt := 58) (by decide) dX4_changes_89 ?_
  exact rt_locals (rt_sub [2, 3, 1, 0] rfl) (hk58 _ _ _ _ _ _ _ hf)
noncomputable def bX4_changes_58 (E : ah_E) : Nat → Option Nat → Option Nat → Int32 → Int32 → ah_H → Option (Int32 × ah_H)
  | 0 => fun _ _ _ _ _ => none
  | n + 1 => fun a0 a1 a2 a3 h =>
  if a2 = 0 then
    bX4_changes_92 E a2 h
  else
  (hp_len h a1).bind fun v2 =>
  if v2 ≤ a3 then
    bX4_changes_92 E a2 h
  else
  (hp_ldb h a1 a3).bind fun v5 =>
  (hp_gr h a0 5 4).bind fun v7 =>
  (hp_ldb h v7 a3).bind fun v9 =>
  if v5 = v9 then
    bX4_changes_85 E (bX4_changes_58 E n) a0 a1 a3 (1 : Int32) h
  else
  bX4_changes_85 E (bX4_changes_58 E n) a0 a1 a3 (0 : Int32) h
set_option maxRecDepth 20000 in
set_option maxHeartbeats 4000000 in
theorem rX4_changes_58 {X : ah_X} {d : Nat} (n : Nat) : ∀ (a0 : Option Nat) (a1 : Option Nat) (a2 : Int32) (a3 : Int32) (h : ah_H) (r : Int32) (h2 : ah_H), bX4_changes_58 X.2.2.2 n a0 a1 a2 a3 h = some (r, h2) → Rt X yX4_changes cX4_changes 4 d 58 [(0, va_rf a0), (1, va_rf a1), (2, .int a2), (3, .int a3)] [] h (some (.int r)) h2 := by
  induction n with
  | zero => intro a0 a1 a2 a3 h r h2 hf; cases hf
  | succ n ih =>
  intro a0 a1 a2 a3 h r h2 hf
  unfold bX4_changes_58 at hf
  refine rt_iload_n (pc := 58) (k0 := 2) (x := a2) 2 rfl dX4_changes_58 ?_
  by_cases c1 : a2 = 0
  · rw [if_pos c1] at hf
    refine rt_if_eq_p (pc := 59) (x := a2) (tgt := 92) (by decide) dX4_changes_59 c1 ?_
    exact rt_locals (rt_sub [2] rfl) (rX4_changes_92 hf)
  rw [if_neg c1] at hf
  refine rt_if_eq_n (pc := 59) (x := a2) (tgt := 92) (by decide) dX4_changes_59 c1 ?_
  refine rt_iload_n (pc := 62) (k0 := 3) (x := a3) 3 rfl dX4_changes_62 ?_
  refine rt_aload_n (pc := 63) (k0 := 1) (x := a1) 1 rfl dX4_changes_63 ?_
  obtain ⟨v2, e3, hf⟩ := ob1 hf
  refine rt_alen (pc := 64) dX4_changes_64 e3 ?_
  by_cases c4 : v2 ≤ a3
  · rw [if_pos c4] at hf
    refine rt_icmp_ge_p (pc := 65) (x := a3) (z := v2) (tgt := 92) (by decide) dX4_changes_65 c4 ?_
    exact rt_locals (rt_sub [2] rfl) (rX4_changes_92 hf)
  rw [if_neg c4] at hf
  refine rt_icmp_ge_n (pc := 65) (x := a3) (z := v2) (tgt := 92) (by decide) dX4_changes_65 c4 ?_
  refine rt_aload_n (pc := 68) (k0 := 1) (x := a1) 1 rfl dX4_changes_68 ?_
  refine rt_iload_n (pc := 69) (k0 := 3) (x := a3) 3 rfl dX4_changes_69 ?_
  obtain ⟨v5, e6, hf⟩ := ob1 hf
  refine rt_bald (pc := 70) dX4_changes_70 e6 ?_
  refine rt_aload_n (pc := 71) (k0 := 0) (x := a0) 0 rfl dX4_changes_71 ?_
  obtain ⟨v7, e8, hf⟩ := ob1 hf
  refine rt_gr (pc := 72) fd_X4_25 dX4_changes_72 e8 ?_
  refine rt_iload_n (pc := 75) (k0 := 3) (x := a3) 3 rfl dX4_changes_75 ?_
  obtain ⟨v9, e10, hf⟩ := ob1 hf
  refine rt_bald (pc := 76) dX4_changes_76 e10 ?_
  by_cases c11 : v5 = v9
  · rw [if_pos c11] at hf
    refine rt_icmp_ne_p (pc := 77) (x := v5) (z := v9) (tgt := 84) (by decide) dX4_changes_77 c11 ?_
    refine rt_iconst (pc := 80) (n := 1) (v := (1 : Int32)) (by decide) dX4_changes_80 ?_
    refine rt_goto (pc := 81) (tgt := 85) (by decide) dX4_changes_81 ?_
    exact rt_locals (rt_sub [0, 1, 3] rfl) (rX4_changes_85 ih hf)
  rw [if_neg c11] at hf
  refine rt_icmp_ne_n (pc := 77) (x := v5) (z := v9) (tgt := 84) (by decide) dX4_changes_77 c11 ?_
  refine rt_iconst (pc := 84) (n := 0) (v := (0 : Int32)) (by decide) dX4_changes_84 ?_
  exact rt_locals (rt_sub [0, 1, 3] rfl) (rX4_changes_85 ih hf)
noncomputable def bX4_changes_55 (E : ah_E) (a0 : Option Nat) (a1 : Option Nat) (s0 : Int32) (h : ah_H) : Option (Int32 × ah_H) :=
  bX4_changes_58 E zf a0 a1 s0 (0 : Int32) h
set_option maxRecDepth 20000 in
set_option maxHeartbeats 4000000 in
theorem rX4_changes_55 {X : ah_X} {d : Nat} {a0 : Option Nat} {a1 : Option Nat} {s0 : Int32} {h : ah_H} {r : Int32} {h2 : ah_H} (hf : bX4_changes_55 X.2.2.2 a0 a1 s0 h = some (r, h2)) : Rt X yX4_changes cX4_changes 4 d 55 [(0, va_rf a0), (1, va_rf a1)] [.int s0] h (some (.int r)) h2 := by
  unfold bX4_changes_55 at hf
  refine rt_istore_n (pc := 55) (k0 := 2) (x := s0) (l2 := [(2, .int s0), (0, va_rf a0), (1, va_rf a1)]) (by decide) (by first | rfl | (simp [rt_cat, cat_i, cat_l]; done) | (simp [rt_cat, cat_i, cat_l]; decide)) dX4_changes_55 ?_
  refine rt_iconst (pc := 56) (n := 0) (v := (0 : Int32)) (by decide) dX4_changes_56 ?_
  refine rt_istore_n (pc := 57) (k0 := 3) (x := (0 : Int32)) (l2 := [(3, .int (0 : Int32)), (2, .int s0), (0, va_rf a0), (1, va_rf a1)]) (by decide) (by first | rfl | (simp [rt_cat, cat_i, cat_l]; done) | (simp [rt_cat, cat_i, cat_l]; decide)) dX4_changes_57 ?_
  exact rt_locals (rt_sub [2, 3, 1, 0] rfl) (rX4_changes_58 zf _ _ _ _ _ _ _ hf)
noncomputable def bX4_changes_0 (E : ah_E) (a0 : Option Nat) (a1 : Option Nat) (h : ah_H) : Option (Int32 × ah_H) :=
  (hp_gi h a0 5 0).bind fun v1 =>
  if v1 = (1 : Int32) then
    bX4_changes_16 E  h
  else
  (hp_gi h a0 5 0).bind fun v4 =>
  if v4 = (2 : Int32) then
    bX4_changes_16 E  h
  else
  (hp_gi h a0 5 0).bind fun v7 =>
  if v7 = (3 : Int32) then
    if a1 = none then
      bX4_changes_30 E a1 h
    else
    (hp_len h a1).bind fun v11 =>
    (hp_gr h a0 5 4).bind fun v13 =>
    (hp_len h v13).bind fun v15 =>
    if v11 = v15 then
      bX4_changes_55 E a0 a1 (1 : Int32) h
    else
    bX4_changes_55 E a0 a1 (0 : Int32) h
  else
  bX4_changes_30 E a1 h
set_option maxRecDepth 20000 in
set_option maxHeartbeats 4000000 in
theorem rX4_changes_0 {X : ah_X} {d : Nat} {a0 : Option Nat} {a1 : Option Nat} {h : ah_H} {r : Int32} {h2 : ah_H} (hf : bX4_changes_0 X.2.2.2 a0 a1 h = some (r, h2)) : Rt X yX4_changes cX4_changes 4 d 0 [(0, va_rf a0), (1, va_rf a1)] [] h (some (.int r)) h2 := by
  unfold bX4_changes_0 at hf
  refine rt_aload_n (pc := 0) (k0 := 0) (x := a0) 0 rfl dX4_changes_0 ?_
  obtain ⟨v1, e2, hf⟩ := ob1 hf
  refine rt_gi (pc := 1) fd_X4_9 dX4_changes_1 e2 ?_
  refine rt_iconst (pc := 4) (n := 1) (v := (1 : Int32)) (by decide) dX4_changes_4 ?_
  by_cases c3 : v1 = (1 : Int32)
  · rw [if_pos c3] at hf
    refine rt_icmp_eq_p (pc := 5) (x := v1) (z := (1 : Int32)) (tgt := 16) (by decide) dX4_changes_5 c3 ?_
    exact rt_locals (rt_sub [] rfl) (rX4_changes_16 hf)
  rw [if_neg c3] at hf
  refine rt_icmp_eq_n (pc := 5) (x := v1) (z := (1 : Int32)) (tgt := 16) (by decide) dX4_changes_5 c3 ?_
  refine rt_aload_n (pc := 8) (k0 := 0) (x := a0) 0 rfl dX4_changes_8 ?_
  obtain ⟨v4, e5, hf⟩ := ob1 hf
  refine rt_gi (pc := 9) fd_X4_9 dX4_changes_9 e5 ?_
  refine rt_iconst (pc := 12) (n := 2) (v := (2 : Int32)) (by decide) dX4_changes_12 ?_
  by_cases c6 : v4 = (2 : Int32)
  · rw [if_pos c6] at hf
    refine rt_icmp_ne_p (pc := 13) (x := v4) (z := (2 : Int32)) (tgt := 18) (by decide) dX4_changes_13 c6 ?_
    exact rt_locals (rt_sub [] rfl) (rX4_changes_16 hf)
  rw [if_neg c6] at hf
  refine rt_icmp_ne_n (pc := 13) (x := v4) (z := (2 : Int32)) (tgt := 18) (by decide) dX4_changes_13 c6 ?_
  refine rt_aload_n (pc := 18) (k0 := 0) (x := a0) 0 rfl dX4_changes_18 ?_
  obtain ⟨v7, e8, hf⟩ := ob1 hf
  refine rt_gi (pc := 19) fd_X4_9 dX4_changes_19 e8 ?_
  refine rt_iconst (pc := 22) (n := 3) (v := (3 : Int32)) (by decide) dX4_changes_22 ?_
  by_cases c9 : v7 = (3 : Int32)
  · rw [if_pos c9] at hf
    refine rt_icmp_ne_p (pc := 23) (x := v7) (z := (3 : Int32)) (tgt := 30) (by decide) dX4_changes_23 c9 ?_
    refine rt_aload_n (pc := 26) (k0 := 1) (x := a1) 1 rfl dX4_changes_26 ?_
    by_cases c10 : a1 = none
    · rw [if_pos c10] at hf
      refine rt_ifnonnull_p (pc := 27) (x := a1) (tgt := 40) (by decide) dX4_changes_27 c10 ?_
      exact rt_locals (rt_sub [1] rfl) (rX4_changes_30 hf)
    rw [if_neg c10] at hf
    refine rt_ifnonnull_n (pc := 27) (x := a1) (tgt := 40) (by decide) dX4_changes_27 c10 ?_
    refine rt_aload_n (pc := 40) (k0 := 1) (x := a1) 1 rfl dX4_changes_40 ?_
    obtain ⟨v11, e12, hf⟩ := ob1 hf
    refine rt_alen (pc := 41) dX4_changes_41 e12 ?_
    refine rt_aload_n (pc := 42) (k0 := 0) (x := a0) 0 rfl dX4_changes_42 ?_
    obtain ⟨v13, e14, hf⟩ := ob1 hf
    refine rt_gr (pc := 43) fd_X4_25 dX4_changes_43 e14 ?_
    obtain ⟨v15, e16, hf⟩ := ob1 hf
    refine rt_alen (pc := 46) dX4_changes_46 e16 ?_
    by_cases c17 : v11 = v15
    · rw [if_pos c17] at hf
      refine rt_icmp_ne_p (pc := 47) (x := v11) (z := v15) (tgt := 54) (by decide) dX4_changes_47 c17 ?_
      refine rt_iconst (pc := 50) (n := 1) (v := (1 : Int32)) (by decide) dX4_changes_50 ?_
      refine rt_goto (pc := 51) (tgt := 55) (by decide) dX4_changes_51 ?_
      exact rX4_changes_55 hf
    rw [if_neg c17] at hf
    refine rt_icmp_ne_n (pc := 47) (x := v11) (z := v15) (tgt := 54) (by decide) dX4_changes_47 c17 ?_
    refine rt_iconst (pc := 54) (n := 0) (v := (0 : Int32)) (by decide) dX4_changes_54 ?_
    exact rX4_changes_55 hf
  rw [if_neg c9] at hf
  refine rt_icmp_ne_n (pc := 23) (x := v7) (z := (3 : Int32)) (tgt := 30) (by decide) dX4_changes_23 c9 ?_
  exact rt_locals (rt_sub [1] rfl) (rX4_changes_30 hf)
noncomputable def fX4_changes (E : ah_E) (a0 : Option Nat) (a1 : Option Nat) (h : ah_H) : Option (Int32 × ah_H) := if hp_rcv h a0 5 = false then none else zb (bX4_changes_0 E a0 a1 h)
set_option maxRecDepth 20000 in
set_option maxHeartbeats 4000000 in
theorem sX4_changes {X : ah_X} (d : Nat) (hd : 0 ≤ d) {a0 : Option Nat} {a1 : Option Nat} {h : ah_H} {r : Int32} {h2 : ah_H} (hf : fX4_changes X.2.2.2 a0 a1 h = some (r, h2)) : hp_rcv h a0 5 = true ∧ Rn X yX4_changes cX4_changes 4 (some .boolean) d [va_rf a0, va_rf a1] h (some (.int r)) h2 := by
  unfold fX4_changes at hf
  by_cases c0 : hp_rcv h a0 5 = false
  · rw [if_pos c0] at hf; cases hf
  rw [if_neg c0] at hf
  refine ⟨(Bool.not_eq_false _).mp c0, ?_⟩
  obtain ⟨hf, hz⟩ := zb_of hf
  exact Rn.of2 me_X4_changes (by simp [lg_sl, rt_cat, cat_i, cat_l]) (ok_z hz) (l := [(0, va_rf a0), (1, va_rf a1)]) (by simp [lv_args, rt_cat, cat_i, cat_l]) (rX4_changes_0 hf)
noncomputable def bX4_rowAfter_16 (E : ah_E) (h : ah_H) : Option (Option Nat × ah_H) :=
  some (none, h)
set_option maxRecDepth 20000 in
set_option maxHeartbeats 4000000 in
theorem rX4_rowAfter_16 {X : ah_X} {d : Nat} (hd : 1 ≤ d)  {h : ah_H} {r : Option Nat} {h2 : ah_H} (hf : bX4_rowAfter_16 X.2.2.2  h = some (r, h2)) : Rt X yX4_rowAfter cX4_rowAfter 5 (d + 1) 16 [] [] h (some (va_rf r)) h2 := by
  unfold bX4_rowAfter_16 at hf
  refine rt_null (pc := 16) dX4_rowAfter_16 ?_
  cases hf
  exact rt_ret (pc := 17) (rt_atR _ dX4_rowAfter_17) rfl
noncomputable def bX4_rowAfter_30 (E : ah_E) (a0 : Option Nat) (h : ah_H) : Option (Option Nat × ah_H) :=
  (hp_gr h a0 5 5).bind fun v1 =>
  some (v1, h)
set_option maxRecDepth 20000 in
set_option maxHeartbeats 4000000 in
theorem rX4_rowAfter_30 {X : ah_X} {d : Nat} (hd : 1 ≤ d) {a0 : Option Nat} {h : ah_H} {r : Option Nat} {h2 : ah_H} (hf : bX4_rowAfter_30 X.2.2.2 a0 h = some (r, h2)) : Rt X yX4_rowAfter cX4_rowAfter 5 (d + 1) 30 [(0, va_rf a0)] [] h (some (va_rf r)) h2 := by
  unfold bX4_rowAfter_30 at hf
  refine rt_aload_n (pc := 30) (k0 := 0) (x := a0) 0 rfl dX4_rowAfter_30 ?_
  obtain ⟨v1, e2, hf⟩ := ob1 hf
  refine rt_gr (pc := 31) fd_X4_29 dX4_rowAfter_31 e2 ?_
  cases hf
  exact rt_ret (pc := 34) (rt_atR _ dX4_rowAfter_34) rfl
noncomputable def bX4_rowAfter_59 (E : ah_E) : Nat → Option Nat → Option Nat → Int32 → Option Nat → Int32 → ah_H → Option (Option Nat × ah_H)
  | 0 => fun _ _ _ _ _ _ => none
  | n + 1 => fun a0 a1 a2 a3 a4 h =>
  if a2 ≤ a4 then
    some (a3, h)
  else
  (hp_gr h a0 5 5).bind fun v2 =>
  (hp_len h a1).bind fun v4 =>
  (hp_ldb h v2 (a4 - v4)).bind fun v6 =>
  (hp_stb h a3 a4 v6).bind fun w8 =>
  bX4_rowAfter_59 E n a0 a1 a2 a3 (a4 + 1) w8
set_option maxRecDepth 20000 in
set_option maxHeartbeats 4000000 in
theorem rX4_rowAfter_59 {X : ah_X} {d : Nat} (hd : 1 ≤ d) (n : Nat) : ∀ (a0 : Option Nat) (a1 : Option Nat) (a2 : Int32) (a3 : Option Nat) (a4 : Int32) (h : ah_H) (r : Option Nat) (h2 : ah_H), bX4_rowAfter_59 X.2.2.2 n a0 a1 a2 a3 a4 h = some (r, h2) → Rt X yX4_rowAfter cX4_rowAfter 5 (d + 1) 59 [(0, va_rf a0), (1, va_rf a1), (2, .int a2), (3, va_rf a3), (4, .int a4)] [] h (some (va_rf r)) h2 := by
  induction n with
  | zero => intro a0 a1 a2 a3 a4 h r h2 hf; cases hf
  | succ n ih =>
  intro a0 a1 a2 a3 a4 h r h2 hf
  unfold bX4_rowAfter_59 at hf
  refine rt_iload (pc := 59) (i := 4) (x := a4) 4 rfl dX4_rowAfter_59 ?_
  refine rt_iload_n (pc := 61) (k0 := 2) (x := a2) 2 rfl dX4_rowAfter_61 ?_
  by_cases c1 : a2 ≤ a4
  · rw [if_pos c1] at hf
    refine rt_icmp_ge_p (pc := 62) (x := a4) (z := a2) (tgt := 85) (by decide) dX4_rowAfter_62 c1 ?_
    refine rt_aload_n (pc := 85) (k0 := 3) (x := a3) 3 rfl dX4_rowAfter_85 ?_
    cases hf
    exact rt_ret (pc := 86) (rt_atR _ dX4_rowAfter_86) rfl
  rw [if_neg c1] at hf
  refine rt_icmp_ge_n (pc := 62) (x := a4) (z := a2) (tgt := 85) (by decide) dX4_rowAfter_62 c1 ?_
  refine rt_aload_n (pc := 65) (k0 := 3) (x := a3) 3 rfl dX4_rowAfter_65 ?_
  refine rt_iload (pc := 66) (i := 4) (x := a4) 4 rfl dX4_rowAfter_66 ?_
  refine rt_aload_n (pc := 68) (k0 := 0) (x := a0) 0 rfl dX4_rowAfter_68 ?_
  obtain ⟨v2, e3, hf⟩ := ob1 hf
  refine rt_gr (pc := 69) fd_X4_29 dX4_rowAfter_69 e3 ?_
  refine rt_iload (pc := 72) (i := 4) (x := a4) 4 rfl dX4_rowAfter_72 ?_
  refine rt_aload_n (pc := 74) (k0 := 1) (x := a1) 1 rfl dX4_rowAfter_74 ?_
  obtain ⟨v4, e5, hf⟩ := ob1 hf
  refine rt_alen (pc := 75) dX4_rowAfter_75 e5 ?_
  refine rt_isub (pc := 76) (x := a4) (z := v4) dX4_rowAfter_76 ?_
  obtain ⟨v6, e7, hf⟩ := ob1 hf
  refine rt_bald (pc := 77) dX4_rowAfter_77 e7 ?_
  obtain ⟨w8, e9, hf⟩ := ob1 hf
  refine rt_bast (pc := 78) dX4_rowAfter_78 e9 ?_
  refine rt_iinc (pc := 79) (i := 4) (n := 1) (x := a4) (v := (a4 + 1)) (l2 := [(4, .int (a4 + 1)), (0, va_rf a0), (1, va_rf a1), (2, .int a2), (3, va_rf a3)]) 4 rfl rfl (by decide) (by first | rfl | (simp [rt_cat, cat_i, cat_l]; done) | (simp [rt_cat, cat_i, cat_l]; decide)) dX4_rowAfter_79 ?_
  refine rt_goto (pc := 82) (tgt := 59) (by decide) dX4_rowAfter_82 ?_
  exact rt_locals (rt_sub [1, 2, 3, 4, 0] rfl) (ih _ _ _ _ _ _ _ _ hf)
noncomputable def bX4_rowAfter_0 (E : ah_E) (a0 : Option Nat) (a1 : Option Nat) (h : ah_H) : Option (Option Nat × ah_H) :=
  (hp_gi h a0 5 0).bind fun v1 =>
  if v1 = (4 : Int32) then
    bX4_rowAfter_16 E  h
  else
  (hp_gi h a0 5 0).bind fun v4 =>
  if v4 = (5 : Int32) then
    bX4_rowAfter_16 E  h
  else
  (hp_gi h a0 5 0).bind fun v7 =>
  if v7 = (2 : Int32) then
    if a1 = none then
      bX4_rowAfter_30 E a0 h
    else
    (hp_len h a1).bind fun v11 =>
    (hp_gr h a0 5 5).bind fun v13 =>
    (hp_len h v13).bind fun v15 =>
    ob2 (fJ9_min_7cf53 E (20 : Int32) (v11 + v15) h) fun v19 w18 =>
    ob2 (fJ7_copyOf_9075b E a1 v19 w18) fun v23 w22 =>
    (hp_len w22 a1).bind fun v25 =>
    bX4_rowAfter_59 E zf a0 a1 v19 v23 v25 w22
  else
  bX4_rowAfter_30 E a0 h
set_option maxRecDepth 20000 in
set_option maxHeartbeats 4000000 in
theorem rX4_rowAfter_0 {X : ah_X} {d : Nat} (hd : 1 ≤ d) {a0 : Option Nat} {a1 : Option Nat} {h : ah_H} {r : Option Nat} {h2 : ah_H} (hf : bX4_rowAfter_0 X.2.2.2 a0 a1 h = some (r, h2)) : Rt X yX4_rowAfter cX4_rowAfter 5 (d + 1) 0 [(0, va_rf a0), (1, va_rf a1)] [] h (some (va_rf r)) h2 := by
  unfold bX4_rowAfter_0 at hf
  refine rt_aload_n (pc := 0) (k0 := 0) (x := a0) 0 rfl dX4_rowAfter_0 ?_
  obtain ⟨v1, e2, hf⟩ := ob1 hf
  refine rt_gi (pc := 1) fd_X4_9 dX4_rowAfter_1 e2 ?_
  refine rt_iconst (pc := 4) (n := 4) (v := (4 : Int32)) (by decide) dX4_rowAfter_4 ?_
  by_cases c3 : v1 = (4 : Int32)
  · rw [if_pos c3] at hf
    refine rt_icmp_eq_p (pc := 5) (x := v1) (z := (4 : Int32)) (tgt := 16) (by decide) dX4_rowAfter_5 c3 ?_
    exact rt_locals (rt_sub [] rfl) (rX4_rowAfter_16 hd hf)
  rw [if_neg c3] at hf
  refine rt_icmp_eq_n (pc := 5) (x := v1) (z := (4 : Int32)) (tgt := 16) (by decide) dX4_rowAfter_5 c3 ?_
  refine rt_aload_n (pc := 8) (k0 := 0) (x := a0) 0 rfl dX4_rowAfter_8 ?_
  obtain ⟨v4, e5, hf⟩ := ob1 hf
  refine rt_gi (pc := 9) fd_X4_9 dX4_rowAfter_9 e5 ?_
  refine rt_iconst (pc := 12) (n := 5) (v := (5 : Int32)) (by decide) dX4_rowAfter_12 ?_
  by_cases c6 : v4 = (5 : Int32)
  · rw [if_pos c6] at hf
    refine rt_icmp_ne_p (pc := 13) (x := v4) (z := (5 : Int32)) (tgt := 18) (by decide) dX4_rowAfter_13 c6 ?_
    exact rt_locals (rt_sub [] rfl) (rX4_rowAfter_16 hd hf)
  rw [if_neg c6] at hf
  refine rt_icmp_ne_n (pc := 13) (x := v4) (z := (5 : Int32)) (tgt := 18) (by decide) dX4_rowAfter_13 c6 ?_
  refine rt_aload_n (pc := 18) (k0 := 0) (x := a0) 0 rfl dX4_rowAfter_18 ?_
  obtain ⟨v7, e8, hf⟩ := ob1 hf
  refine rt_gi (pc := 19) fd_X4_9 dX4_rowAfter_19 e8 ?_
  refine rt_iconst (pc := 22) (n := 2) (v := (2 : Int32)) (by decide) dX4_rowAfter_22 ?_
  by_cases c9 : v7 = (2 : Int32)
  · rw [if_pos c9] at hf
    refine rt_icmp_ne_p (pc := 23) (x := v7) (z := (2 : Int32)) (tgt := 30) (by decide) dX4_rowAfter_23 c9 ?_
    refine rt_aload_n (pc := 26) (k0 := 1) (x := a1) 1 rfl dX4_rowAfter_26 ?_
    by_cases c10 : a1 = none
    · rw [if_pos c10] at hf
      refine rt_ifnonnull_p (pc := 27) (x := a1) (tgt := 35) (by decide) dX4_rowAfter_27 c10 ?_
      exact rt_locals (rt_sub [0] rfl) (rX4_rowAfter_30 hd hf)
    rw [if_neg c10] at hf
    refine rt_ifnonnull_n (pc := 27) (x := a1) (tgt := 35) (by decide) dX4_rowAfter_27 c10 ?_
    refine rt_bipush (pc := 35) (n := 20) (v := (20 : Int32)) (by decide) dX4_rowAfter_35 ?_
    refine rt_aload_n (pc := 37) (k0 := 1) (x := a1) 1 rfl dX4_rowAfter_37 ?_
    obtain ⟨v11, e12, hf⟩ := ob1 hf
    refine rt_alen (pc := 38) dX4_rowAfter_38 e12 ?_
    refine rt_aload_n (pc := 39) (k0 := 0) (x := a0) 0 rfl dX4_rowAfter_39 ?_
    obtain ⟨v13, e14, hf⟩ := ob1 hf
    refine rt_gr (pc := 40) fd_X4_29 dX4_rowAfter_40 e14 ?_
    obtain ⟨v15, e16, hf⟩ := ob1 hf
    refine rt_alen (pc := 43) dX4_rowAfter_43 e16 ?_
    refine rt_iadd (pc := 44) (x := v11) (z := v15) dX4_rowAfter_44 ?_
    obtain ⟨v19, w18, e17, hf⟩ := ob2_of hf
    have g20 := sJ9_min_7cf53 d (by omega) e17
    refine rt_callS (pc := 45) (As := [.int (20 : Int32), .int (v11 + v15)]) (st := []) me_J9_min_7cf53 ms_J9_min_7cf53 wl_X4_32 dX4_rowAfter_45 rfl (by decide) rfl g20 ?_
    refine rt_istore_n (pc := 48) (k0 := 2) (x := v19) (l2 := [(2, .int v19), (0, va_rf a0), (1, va_rf a1)]) (by decide) (by first | rfl | (simp [rt_cat, cat_i, cat_l]; done) | (simp [rt_cat, cat_i, cat_l]; decide)) dX4_rowAfter_48 ?_
    refine rt_aload_n (pc := 49) (k0 := 1) (x := a1) 2 rfl dX4_rowAfter_49 ?_
    refine rt_iload_n (pc := 50) (k0 := 2) (x := v19) 0 rfl dX4_rowAfter_50 ?_
    obtain ⟨v23, w22, e21, hf⟩ := ob2_of hf
    have g24 := sJ7_copyOf_9075b d (by omega) e21
    refine rt_callS (pc := 51) (As := [va_rf a1, .int v19]) (st := []) me_J7_copyOf_9075b ms_J7_copyOf_9075b wl_X4_38 dX4_rowAfter_51 rfl (by decide) rfl g24 ?_
    refine rt_astore_n (pc := 54) (k0 := 3) (x := v23) (l2 := [(3, va_rf v23), (2, .int v19), (0, va_rf a0), (1, va_rf a1)]) (by decide) (by first | rfl | (simp [rt_cat, cat_i, cat_l]; done) | (simp [rt_cat, cat_i, cat_l]; decide)) dX4_rowAfter_54 ?_
    refine rt_aload_n (pc := 55) (k0 := 1) (x := a1) 3 rfl dX4_rowAfter_55 ?_
    obtain ⟨v25, e26, hf⟩ := ob1 hf
    refine rt_alen (pc := 56) dX4_rowAfter_56 e26 ?_
    refine rt_istore (pc := 57) (i := 4) (x := v25) (l2 := [(4, .int v25), (3, va_rf v23), (2, .int v19), (0, va_rf a0), (1, va_rf a1)]) (by decide) (by first | rfl | (simp [rt_cat, cat_i, cat_l]; done) | (simp [rt_cat, cat_i, cat_l]; decide)) dX4_rowAfter_57 ?_
    exact rt_locals (rt_sub [3, 4, 2, 1, 0] rfl) (rX4_rowAfter_59 hd zf _ _ _ _ _ _ _ _ hf)
  rw [if_neg c9] at hf
  refine rt_icmp_ne_n (pc := 23) (x := v7) (z := (2 : Int32)) (tgt := 30) (by decide) dX4_rowAfter_23 c9 ?_
  exact rt_locals (rt_sub [0] rfl) (rX4_rowAfter_30 hd hf)
noncomputable def fX4_rowAfter (E : ah_E) (a0 : Option Nat) (a1 : Option Nat) (h : ah_H) : Option (Option Nat × ah_H) := if hp_rcv h a0 5 = false then none else bX4_rowAfter_0 E a0 a1 h
set_option maxRecDepth 20000 in
set_option maxHeartbeats 4000000 in
theorem sX4_rowAfter {X : ah_X} (d : Nat) (hd : 2 ≤ d) {a0 : Option Nat} {a1 : Option Nat} {h : ah_H} {r : Option Nat} {h2 : ah_H} (hf : fX4_rowAfter X.2.2.2 a0 a1 h = some (r, h2)) : hp_rcv h a0 5 = true ∧ Rn X yX4_rowAfter cX4_rowAfter 5 (some (.array .byte)) d [va_rf a0, va_rf a1] h (some (va_rf r)) h2 := by
  unfold fX4_rowAfter at hf
  by_cases c0 : hp_rcv h a0 5 = false
  · rw [if_pos c0] at hf; cases hf
  rw [if_neg c0] at hf
  refine ⟨(Bool.not_eq_false _).mp c0, ?_⟩
  obtain ⟨d, rfl⟩ : ∃ k, d = k + 1 := ⟨d - 1, by omega⟩
  exact Rn.of2 me_X4_rowAfter (by simp [lg_sl, rt_cat, cat_i, cat_l]) (ok_a _ _) (l := [(0, va_rf a0), (1, va_rf a1)]) (by simp [lv_args, rt_cat, cat_i, cat_l]) (rX4_rowAfter_0 (by omega) hf)
noncomputable def bX1_act_25 (E : ah_E) (a0 : Option Nat) (a1 : Option Nat) (a2 : Int32) (h : ah_H) : Option (Int32 × ah_H) :=
  (hp_gl h a1 5 3).bind fun v1 =>
  ob2 (fX1_removeFrom E a0 a2 v1 h) fun v5 w4 =>
  some (v5, w4)
set_option maxRecDepth 20000 in
set_option maxHeartbeats 4000000 in
theorem rX1_act_25 {X : ah_X} {d : Nat} (hd : 5 ≤ d) {a0 : Option Nat} {a1 : Option Nat} {a2 : Int32} {h : ah_H} {r : Int32} {h2 : ah_H} (hf : bX1_act_25 X.2.2.2 a0 a1 a2 h = some (r, h2)) : Rt X yX1_act cX1_act 6 (d + 1) 25 [(0, va_rf a0), (1, va_rf a1), (2, .int a2)] [] h (some (.int r)) h2 := by
  unfold bX1_act_25 at hf
  refine rt_aload_n (pc := 25) (k0 := 0) (x := a0) 0 rfl dX1_act_25 ?_
  refine rt_iload_n (pc := 26) (k0 := 2) (x := a2) 2 rfl dX1_act_26 ?_
  refine rt_aload_n (pc := 27) (k0 := 1) (x := a1) 1 rfl dX1_act_27 ?_
  obtain ⟨v1, e2, hf⟩ := ob1 hf
  refine rt_gl (pc := 28) fd_X1_59 dX1_act_28 e2 ?_
  obtain ⟨v5, w4, e3, hf⟩ := ob2_of hf
  have g6 := sX1_removeFrom d (by omega) e3
  refine rt_callV (pc := 31) (As := [.int a2, .long v1]) (st := []) me_X1_removeFrom mi_X1_removeFrom wl_X1_62 dX1_act_31 rfl (by decide) rfl g6.1 g6.2 ?_
  cases hf
  exact rt_ret (pc := 34) dX1_act_34 rfl
noncomputable def bX1_act_127 (E : ah_E) (h : ah_H) : Option (Int32 × ah_H) :=
  some ((1 : Int32), h)
set_option maxRecDepth 20000 in
set_option maxHeartbeats 4000000 in
theorem rX1_act_127 {X : ah_X} {d : Nat} (hd : 5 ≤ d)  {h : ah_H} {r : Int32} {h2 : ah_H} (hf : bX1_act_127 X.2.2.2  h = some (r, h2)) : Rt X yX1_act cX1_act 6 (d + 1) 127 [] [] h (some (.int r)) h2 := by
  unfold bX1_act_127 at hf
  refine rt_iconst (pc := 127) (n := 1) (v := (1 : Int32)) (by decide) dX1_act_127 ?_
  cases hf
  exact rt_ret (pc := 128) dX1_act_128 rfl
noncomputable def bX1_act_67 (E : ah_E) (a0 : Option Nat) (a1 : Option Nat) (a2 : Int32) (a3 : Int32) (s0 : Option Nat) (h : ah_H) : Option (Int32 × ah_H) :=
  ob2 (fX4_changes E a1 s0 h) fun v3 w2 =>
  if v3 = 0 then
    some ((0 : Int32), w2)
  else
  (hp_new w2 3 nf_3 2).bind fun w6 =>
  (hp_gl w6 a1 5 2).bind fun v8 =>
  ob2 (fX4_rowAfter E a1 s0 w6) fun v12 w11 =>
  (fX2_init E (some w2.1) v8 v12 w11).bind fun w15 =>
  if a3 = 0 then
    (hp_gr w15 a0 2 0).bind fun v18 =>
    (fJx4a65c_add_7a177 E v18 a2 (some w2.1) w15).bind fun w21 =>
    bX1_act_127 E  w21
  else
  (hp_gr w15 a0 2 0).bind fun v23 =>
  ob2 (fJx4a65c_set_bcc79 E v23 a2 (some w2.1) w15) fun v27 w26 =>
  bX1_act_127 E  w26
set_option maxRecDepth 20000 in
set_option maxHeartbeats 4000000 in
theorem rX1_act_67 {X : ah_X} {d : Nat} (hd : 5 ≤ d) {a0 : Option Nat} {a1 : Option Nat} {a2 : Int32} {a3 : Int32} {s0 : Option Nat} {h : ah_H} {r : Int32} {h2 : ah_H} (hf : bX1_act_67 X.2.2.2 a0 a1 a2 a3 s0 h = some (r, h2)) : Rt X yX1_act cX1_act 6 (d + 1) 67 [(0, va_rf a0), (1, va_rf a1), (2, .int a2), (3, .int a3)] [va_rf s0] h (some (.int r)) h2 := by
  unfold bX1_act_67 at hf
  refine rt_astore (pc := 67) (i := 4) (x := s0) (l2 := [(4, va_rf s0), (0, va_rf a0), (1, va_rf a1), (2, .int a2), (3, .int a3)]) (by decide) (by first | rfl | (simp [rt_cat, cat_i, cat_l]; done) | (simp [rt_cat, cat_i, cat_l]; decide)) dX1_act_67 ?_
  refine rt_aload_n (pc := 69) (k0 := 1) (x := a1) 2 rfl dX1_act_69 ?_
  refine rt_aload (pc := 70) (i := 4) (x := s0) 0 rfl dX1_act_70 ?_
  obtain ⟨v3, w2, e1, hf⟩ := ob2_of hf
  have g4 := sX4_changes d (by omega) e1
  refine rt_callV (pc := 72) (As := [va_rf s0]) (st := []) me_X4_changes mi_X4_changes wl_X1_51 dX1_act_72 rfl (by decide) rfl g4.1 g4.2 ?_
  by_cases c5 : v3 = 0
  · rw [if_pos c5] at hf
    refine rt_if_ne_p (pc := 75) (x := v3) (tgt := 80) (by decide) dX1_act_75 c5 ?_
    refine rt_iconst (pc := 78) (n := 0) (v := (0 : Int32)) (by decide) dX1_act_78 ?_
    cases hf
    exact rt_ret (pc := 79) dX1_act_79 rfl
  rw [if_neg c5] at hf
  refine rt_if_ne_n (pc := 75) (x := v3) (tgt := 80) (by decide) dX1_act_75 c5 ?_
  obtain ⟨w6, e7, hf⟩ := ob1 hf
  refine rt_newB (pc := 80) nw_X1_26 dX1_act_80 e7 ?_
  refine rt_dup (pc := 83) (rt_cat _) dX1_act_83 ?_
  refine rt_aload_n (pc := 84) (k0 := 1) (x := a1) 2 rfl dX1_act_84 ?_
  obtain ⟨v8, e9, hf⟩ := ob1 hf
  refine rt_gl (pc := 85) fd_X1_44 dX1_act_85 e9 ?_
  refine rt_aload_n (pc := 88) (k0 := 1) (x := a1) 2 rfl dX1_act_88 ?_
  refine rt_aload (pc := 89) (i := 4) (x := s0) 0 rfl dX1_act_89 ?_
  obtain ⟨v12, w11, e10, hf⟩ := ob2_of hf
  have g13 := sX4_rowAfter d (by omega) e10
  refine rt_callV (pc := 91) (As := [va_rf s0]) (st := [.long v8, va_rf (some w2.1), va_rf (some w2.1)]) me_X4_rowAfter mi_X4_rowAfter wl_X1_66 dX1_act_91 rfl (by simp [rt_cat, cat_i, cat_l]) rfl g13.1 g13.2 ?_
  obtain ⟨w15, e14, hf⟩ := ob1 hf
  have g16 := sX2_init d (by omega) e14
  refine rt_callI (pc := 94) (As := [.long v8, va_rf v12]) (st := [va_rf (some w2.1)]) (ci := 3) me_X2_init mI_X2_init wl_X1_70 dX1_act_94 rfl (by simp [rt_cat, cat_i, cat_l]) rfl g16.1 g16.2 ?_
  refine rt_astore (pc := 97) (i := 5) (x := (some w2.1)) (l2 := [(5, va_rf (some w2.1)), (4, va_rf s0), (0, va_rf a0), (1, va_rf a1), (2, .int a2), (3, .int a3)]) (by decide) (by first | rfl | (simp [rt_cat, cat_i, cat_l]; done) | (simp [rt_cat, cat_i, cat_l]; decide)) dX1_act_97 ?_
  refine rt_iload_n (pc := 99) (k0 := 3) (x := a3) 5 rfl dX1_act_99 ?_
  by_cases c17 : a3 = 0
  · rw [if_pos c17] at hf
    refine rt_if_eq_p (pc := 100) (x := a3) (tgt := 117) (by decide) dX1_act_100 c17 ?_
    refine rt_aload_n (pc := 117) (k0 := 0) (x := a0) 2 rfl dX1_act_117 ?_
    obtain ⟨v18, e19, hf⟩ := ob1 hf
    refine rt_gr (pc := 118) fd_X1_12 dX1_act_118 e19 ?_
    refine rt_iload_n (pc := 121) (k0 := 2) (x := a2) 4 rfl dX1_act_121 ?_
    refine rt_aload (pc := 122) (i := 5) (x := (some w2.1)) 0 rfl dX1_act_122 ?_
    obtain ⟨w21, e20, hf⟩ := ob1 hf
    have g22 := sJx4a65c_add_7a177 d (by omega) e20
    refine rt_callV (pc := 124) (As := [.int a2, va_rf (some w2.1)]) (st := []) me_Jx4a65c_add_7a177 mi_Jx4a65c_add_7a177 wl_X1_77 dX1_act_124 rfl (by decide) rfl g22.1 g22.2 ?_
    exact rt_locals (rt_sub [] rfl) (rX1_act_127 hd hf)
  rw [if_neg c17] at hf
  refine rt_if_eq_n (pc := 100) (x := a3) (tgt := 117) (by decide) dX1_act_100 c17 ?_
  refine rt_aload_n (pc := 103) (k0 := 0) (x := a0) 2 rfl dX1_act_103 ?_
  obtain ⟨v23, e24, hf⟩ := ob1 hf
  refine rt_gr (pc := 104) fd_X1_12 dX1_act_104 e24 ?_
  refine rt_iload_n (pc := 107) (k0 := 2) (x := a2) 4 rfl dX1_act_107 ?_
  refine rt_aload (pc := 108) (i := 5) (x := (some w2.1)) 0 rfl dX1_act_108 ?_
  obtain ⟨v27, w26, e25, hf⟩ := ob2_of hf
  have g28 := sJx4a65c_set_bcc79 d (by omega) e25
  refine rt_callV (pc := 110) (As := [.int a2, va_rf (some w2.1)]) (st := []) me_Jx4a65c_set_bcc79 mi_Jx4a65c_set_bcc79 wl_X1_73 dX1_act_110 rfl (by decide) rfl g28.1 g28.2 ?_
  refine rt_pop (pc := 113) (rt_cat _) dX1_act_113 ?_
  refine rt_goto (pc := 114) (tgt := 127) (by decide) dX1_act_114 ?_
  exact rt_locals (rt_sub [] rfl) (rX1_act_127 hd hf)
noncomputable def bX1_act_0 (E : ah_E) (a0 : Option Nat) (a1 : Option Nat) (h : ah_H) : Option (Int32 × ah_H) :=
  (hp_gl h a1 5 2).bind fun v1 =>
  ob2 (fX1_firstNotBelow E a0 v1 h) fun v5 w4 =>
  (hp_gi w4 a1 5 0).bind fun v7 =>
  if v7 = (4 : Int32) then
    bX1_act_25 E a0 a1 v5 w4
  else
  (hp_gi w4 a1 5 0).bind fun v10 =>
  if v10 = (5 : Int32) then
    bX1_act_25 E a0 a1 v5 w4
  else
  (hp_gl w4 a1 5 2).bind fun v13 =>
  ob2 (fX1_hasAt E a0 v5 v13 w4) fun v17 w16 =>
  if v17 = 0 then
    bX1_act_67 E a0 a1 v5 v17 none w16
  else
  (hp_gr w16 a0 2 0).bind fun v20 =>
  ob2 (fJx4a65c_get_915e3 E v20 v5 w16) fun v24 w23 =>
  if hp_cls w23 v24 3 = false then none else
  (hp_gr w23 v24 3 1).bind fun v27 =>
  bX1_act_67 E a0 a1 v5 v17 v27 w23
set_option maxRecDepth 20000 in
set_option maxHeartbeats 4000000 in
theorem rX1_act_0 {X : ah_X} {d : Nat} (hd : 5 ≤ d) {a0 : Option Nat} {a1 : Option Nat} {h : ah_H} {r : Int32} {h2 : ah_H} (hf : bX1_act_0 X.2.2.2 a0 a1 h = some (r, h2)) : Rt X yX1_act cX1_act 6 (d + 1) 0 [(0, va_rf a0), (1, va_rf a1)] [] h (some (.int r)) h2 := by
  unfold bX1_act_0 at hf
  refine rt_aload_n (pc := 0) (k0 := 0) (x := a0) 0 rfl dX1_act_0 ?_
  refine rt_aload_n (pc := 1) (k0 := 1) (x := a1) 1 rfl dX1_act_1 ?_
  obtain ⟨v1, e2, hf⟩ := ob1 hf
  refine rt_gl (pc := 2) fd_X1_44 dX1_act_2 e2 ?_
  obtain ⟨v5, w4, e3, hf⟩ := ob2_of hf
  have g6 := sX1_firstNotBelow d (by omega) e3
  refine rt_callV (pc := 5) (As := [.long v1]) (st := []) me_X1_firstNotBelow mi_X1_firstNotBelow wl_X1_32 dX1_act_5 rfl (by decide) rfl g6.1 g6.2 ?_
  refine rt_istore_n (pc := 8) (k0 := 2) (x := v5) (l2 := [(2, .int v5), (0, va_rf a0), (1, va_rf a1)]) (by decide) (by first | rfl | (simp [rt_cat, cat_i, cat_l]; done) | (simp [rt_cat, cat_i, cat_l]; decide)) dX1_act_8 ?_
  refine rt_aload_n (pc := 9) (k0 := 1) (x := a1) 2 rfl dX1_act_9 ?_
  obtain ⟨v7, e8, hf⟩ := ob1 hf
  refine rt_gi (pc := 10) fd_X1_55 dX1_act_10 e8 ?_
  refine rt_iconst (pc := 13) (n := 4) (v := (4 : Int32)) (by decide) dX1_act_13 ?_
  by_cases c9 : v7 = (4 : Int32)
  · rw [if_pos c9] at hf
    refine rt_icmp_eq_p (pc := 14) (x := v7) (z := (4 : Int32)) (tgt := 25) (by decide) dX1_act_14 c9 ?_
    exact rt_locals (rt_sub [1, 2, 0] rfl) (rX1_act_25 hd hf)
  rw [if_neg c9] at hf
  refine rt_icmp_eq_n (pc := 14) (x := v7) (z := (4 : Int32)) (tgt := 25) (by decide) dX1_act_14 c9 ?_
  refine rt_aload_n (pc := 17) (k0 := 1) (x := a1) 2 rfl dX1_act_17 ?_
  obtain ⟨v10, e11, hf⟩ := ob1 hf
  refine rt_gi (pc := 18) fd_X1_55 dX1_act_18 e11 ?_
  refine rt_iconst (pc := 21) (n := 5) (v := (5 : Int32)) (by decide) dX1_act_21 ?_
  by_cases c12 : v10 = (5 : Int32)
  · rw [if_pos c12] at hf
    refine rt_icmp_ne_p (pc := 22) (x := v10) (z := (5 : Int32)) (tgt := 35) (by decide) dX1_act_22 c12 ?_
    exact rt_locals (rt_sub [1, 2, 0] rfl) (rX1_act_25 hd hf)
  rw [if_neg c12] at hf
  refine rt_icmp_ne_n (pc := 22) (x := v10) (z := (5 : Int32)) (tgt := 35) (by decide) dX1_act_22 c12 ?_
  refine rt_aload_n (pc := 35) (k0 := 0) (x := a0) 1 rfl dX1_act_35 ?_
  refine rt_iload_n (pc := 36) (k0 := 2) (x := v5) 0 rfl dX1_act_36 ?_
  refine rt_aload_n (pc := 37) (k0 := 1) (x := a1) 2 rfl dX1_act_37 ?_
  obtain ⟨v13, e14, hf⟩ := ob1 hf
  refine rt_gl (pc := 38) fd_X1_44 dX1_act_38 e14 ?_
  obtain ⟨v17, w16, e15, hf⟩ := ob2_of hf
  have g18 := sX1_hasAt d (by omega) e15
  refine rt_callV (pc := 41) (As := [.int v5, .long v13]) (st := []) me_X1_hasAt mi_X1_hasAt wl_X1_36 dX1_act_41 rfl (by decide) rfl g18.1 g18.2 ?_
  refine rt_istore_n (pc := 44) (k0 := 3) (x := v17) (l2 := [(3, .int v17), (2, .int v5), (0, va_rf a0), (1, va_rf a1)]) (by decide) (by first | rfl | (simp [rt_cat, cat_i, cat_l]; done) | (simp [rt_cat, cat_i, cat_l]; decide)) dX1_act_44 ?_
  refine rt_iload_n (pc := 45) (k0 := 3) (x := v17) 0 rfl dX1_act_45 ?_
  by_cases c19 : v17 = 0
  · rw [if_pos c19] at hf
    refine rt_if_eq_p (pc := 46) (x := v17) (tgt := 66) (by decide) dX1_act_46 c19 ?_
    refine rt_null (pc := 66) dX1_act_66 ?_
    exact rt_locals (rt_sub [2, 3, 1, 0] rfl) (rX1_act_67 hd hf)
  rw [if_neg c19] at hf
  refine rt_if_eq_n (pc := 46) (x := v17) (tgt := 66) (by decide) dX1_act_46 c19 ?_
  refine rt_aload_n (pc := 49) (k0 := 0) (x := a0) 2 rfl dX1_act_49 ?_
  obtain ⟨v20, e21, hf⟩ := ob1 hf
  refine rt_gr (pc := 50) fd_X1_12 dX1_act_50 e21 ?_
  refine rt_iload_n (pc := 53) (k0 := 2) (x := v5) 1 rfl dX1_act_53 ?_
  obtain ⟨v24, w23, e22, hf⟩ := ob2_of hf
  have g25 := sJx4a65c_get_915e3 d (by omega) e22
  refine rt_callV (pc := 54) (As := [.int v5]) (st := []) me_Jx4a65c_get_915e3 mi_Jx4a65c_get_915e3 wl_X1_22 dX1_act_54 rfl (by decide) rfl g25.1 g25.2 ?_
  by_cases c26 : hp_cls w23 v24 3 = false
  · rw [if_pos c26] at hf; cases hf
  rw [if_neg c26] at hf
  refine rt_cast (pc := 57) (x := v24) (show vwCl[3]? = some (RX2, TX2, 2) from rfl) wc_X1_26 dX1_act_57 ((Bool.not_eq_false _).mp c26) ?_
  obtain ⟨v27, e28, hf⟩ := ob1 hf
  refine rt_gr (pc := 60) fd_X1_40 dX1_act_60 e28 ?_
  refine rt_goto (pc := 63) (tgt := 67) (by decide) dX1_act_63 ?_
  exact rt_locals (rt_sub [2, 3, 1, 0] rfl) (rX1_act_67 hd hf)
noncomputable def fX1_act (E : ah_E) (a0 : Option Nat) (a1 : Option Nat) (h : ah_H) : Option (Int32 × ah_H) := if hp_rcv h a0 2 = false then none else bX1_act_0 E a0 a1 h
set_option maxRecDepth 20000 in
set_option maxHeartbeats 4000000 in
theorem sX1_act {X : ah_X} (d : Nat) (hd : 6 ≤ d) {a0 : Option Nat} {a1 : Option Nat} {h : ah_H} {r : Int32} {h2 : ah_H} (hf : fX1_act X.2.2.2 a0 a1 h = some (r, h2)) : hp_rcv h a0 2 = true ∧ Rn X yX1_act cX1_act 6 (some .int) d [va_rf a0, va_rf a1] h (some (.int r)) h2 := by
  unfold fX1_act at hf
  by_cases c0 : hp_rcv h a0 2 = false
  · rw [if_pos c0] at hf; cases hf
  rw [if_neg c0] at hf
  refine ⟨(Bool.not_eq_false _).mp c0, ?_⟩
  obtain ⟨d, rfl⟩ : ∃ k, d = k + 1 := ⟨d - 1, by omega⟩
  exact Rn.of2 me_X1_act (by simp [lg_sl, rt_cat, cat_i, cat_l]) (ok_i _) (l := [(0, va_rf a0), (1, va_rf a1)]) (by simp [lv_args, rt_cat, cat_i, cat_l]) (rX1_act_0 (by omega) hf)
noncomputable def bX4_init_0 (E : ah_E) (a0 : Option Nat) (a1 : Int32) (a2 : Int32) (a3 : Int64) (a5 : Int64) (a7 : Option Nat) (a8 : Option Nat) (h : ah_H) : Option ah_H :=
  if hp_rcv h a0 5 = false then none else
  (hp_pv h a0 5 0 (.int a1)).bind fun w3 =>
  (hp_pv w3 a0 5 1 (.int a2)).bind fun w5 =>
  (hp_pv w5 a0 5 2 (.long a3)).bind fun w7 =>
  (hp_pv w7 a0 5 3 (.long a5)).bind fun w9 =>
  (hp_pv w9 a0 5 4 (va_rf a7)).bind fun w11 =>
  (hp_pv w11 a0 5 5 (va_rf a8)).bind fun w13 =>
  some w13
set_option maxRecDepth 20000 in
set_option maxHeartbeats 4000000 in
theorem rX4_init_0 {X : ah_X} {d : Nat} (hd : 0 ≤ d) {a0 : Option Nat} {a1 : Int32} {a2 : Int32} {a3 : Int64} {a5 : Int64} {a7 : Option Nat} {a8 : Option Nat} {h : ah_H} {h2 : ah_H} (hf : bX4_init_0 X.2.2.2 a0 a1 a2 a3 a5 a7 a8 h = some h2) : Rt X yX4_init cX4_init 9 (d + 1) 0 [(0, va_rf a0), (1, .int a1), (2, .int a2), (3, .long a3), (5, .long a5), (7, va_rf a7), (8, va_rf a8)] [] h none h2 := by
  unfold bX4_init_0 at hf
  refine rt_aload_n (pc := 0) (k0 := 0) (x := a0) 0 rfl dX4_init_0 ?_
  by_cases c1 : hp_rcv h a0 5 = false
  · rw [if_pos c1] at hf; cases hf
  rw [if_neg c1] at hf
  refine rt_objInit (pc := 1) wl_X4_3 (by decide) dX4_init_1 (by obtain ⟨q, _, q2, _⟩ := hp_rcv_spec ((Bool.not_eq_false _).mp c1); exact ⟨q, q2⟩) ?_
  refine rt_aload_n (pc := 4) (k0 := 0) (x := a0) 0 rfl dX4_init_4 ?_
  refine rt_iload_n (pc := 5) (k0 := 1) (x := a1) 1 rfl dX4_init_5 ?_
  obtain ⟨w3, e4, hf⟩ := ob1 hf
  refine rt_putf (pc := 6) (x := a0) fw_X4_9 (Or.inr rfl) (pf_i _).1 (pf_i _).2 dX4_init_6 e4 ?_
  refine rt_aload_n (pc := 9) (k0 := 0) (x := a0) 0 rfl dX4_init_9 ?_
  refine rt_iload_n (pc := 10) (k0 := 2) (x := a2) 2 rfl dX4_init_10 ?_
  obtain ⟨w5, e6, hf⟩ := ob1 hf
  refine rt_putf (pc := 11) (x := a0) fw_X4_15 (Or.inr rfl) (pf_i _).1 (pf_i _).2 dX4_init_11 e6 ?_
  refine rt_aload_n (pc := 14) (k0 := 0) (x := a0) 0 rfl dX4_init_14 ?_
  refine rt_lload_n (pc := 15) (k0 := 3) (x := a3) 3 rfl dX4_init_15 ?_
  obtain ⟨w7, e8, hf⟩ := ob1 hf
  refine rt_putf (pc := 16) (x := a0) fw_X4_18 (Or.inr rfl) (pf_l _).1 (pf_l _).2 dX4_init_16 e8 ?_
  refine rt_aload_n (pc := 19) (k0 := 0) (x := a0) 0 rfl dX4_init_19 ?_
  refine rt_lload (pc := 20) (i := 5) (x := a5) 4 rfl dX4_init_20 ?_
  obtain ⟨w9, e10, hf⟩ := ob1 hf
  refine rt_putf (pc := 22) (x := a0) fw_X4_22 (Or.inr rfl) (pf_l _).1 (pf_l _).2 dX4_init_22 e10 ?_
  refine rt_aload_n (pc := 25) (k0 := 0) (x := a0) 0 rfl dX4_init_25 ?_
  refine rt_aload (pc := 26) (i := 7) (x := a7) 5 rfl dX4_init_26 ?_
  obtain ⟨w11, e12, hf⟩ := ob1 hf
  refine rt_putf (pc := 28) (x := a0) fw_X4_25 (Or.inr rfl) (pf_a _ _).1 (pf_a _ _).2 dX4_init_28 e12 ?_
  refine rt_aload_n (pc := 31) (k0 := 0) (x := a0) 0 rfl dX4_init_31 ?_
  refine rt_aload (pc := 32) (i := 8) (x := a8) 6 rfl dX4_init_32 ?_
  obtain ⟨w13, e14, hf⟩ := ob1 hf
  refine rt_putf (pc := 34) (x := a0) fw_X4_29 (Or.inr rfl) (pf_a _ _).1 (pf_a _ _).2 dX4_init_34 e14 ?_
  cases hf
  exact rt_ret (pc := 37) dX4_init_37 rfl
noncomputable def fX4_init (E : ah_E) (a0 : Option Nat) (a1 : Int32) (a2 : Int32) (a3 : Int64) (a5 : Int64) (a7 : Option Nat) (a8 : Option Nat) (h : ah_H) : Option ah_H := if hp_rcv h a0 5 = false then none else bX4_init_0 E a0 a1 a2 a3 a5 a7 a8 h
set_option maxRecDepth 20000 in
set_option maxHeartbeats 4000000 in
theorem sX4_init {X : ah_X} (d : Nat) (hd : 1 ≤ d) {a0 : Option Nat} {a1 : Int32} {a2 : Int32} {a3 : Int64} {a5 : Int64} {a7 : Option Nat} {a8 : Option Nat} {h : ah_H} {h2 : ah_H} (hf : fX4_init X.2.2.2 a0 a1 a2 a3 a5 a7 a8 h = some h2) : hp_rcv h a0 5 = true ∧ Rn X yX4_init cX4_init 9 none d [va_rf a0, .int a1, .int a2, .long a3, .long a5, va_rf a7, va_rf a8] h none h2 := by
  unfold fX4_init at hf
  by_cases c0 : hp_rcv h a0 5 = false
  · rw [if_pos c0] at hf; cases hf
  rw [if_neg c0] at hf
  refine ⟨(Bool.not_eq_false _).mp c0, ?_⟩
  obtain ⟨d, rfl⟩ : ∃ k, d = k + 1 := ⟨d - 1, by omega⟩
  exact Rn.of2 me_X4_init (by simp [lg_sl, rt_cat, cat_i, cat_l]) rfl (l := [(0, va_rf a0), (1, .int a1), (2, .int a2), (3, .long a3), (5, .long a5), (7, va_rf a7), (8, va_rf a8)]) (by simp [lv_args, rt_cat, cat_i, cat_l]) (rX4_init_0 (by omega) hf)
noncomputable def bX7_part_17 (E : ah_E) (h : ah_H) : Option (Option Nat × ah_H) :=
  some ((some E.2.1), h)
set_option maxRecDepth 20000 in
set_option maxHeartbeats 4000000 in
theorem rX7_part_17 {X : ah_X} {d : Nat} (hd : 2 ≤ d)  {h : ah_H} {r : Option Nat} {h2 : ah_H} (hf : bX7_part_17 X.2.2.2  h = some (r, h2)) : Rt X yX7_part cX7_part 3 (d + 1) 17 [] [] h (some (va_rf r)) h2 := by
  unfold bX7_part_17 at hf
  refine rt_getNn (pc := 17) wfn_X7_19 dX7_part_17 ?_
  cases hf
  exact rt_ret (pc := 20) (rt_atR _ dX7_part_20) rfl
noncomputable def bX7_part_0 (E : ah_E) (a0 : Option Nat) (a1 : Int32) (a2 : Int32) (h : ah_H) : Option (Option Nat × ah_H) :=
  if a1 < 0 then
    bX7_part_17 E  h
  else
  if a2 ≤ a1 then
    bX7_part_17 E  h
  else
  (hp_gi h a0 8 1).bind fun v3 =>
  if a2 ≤ v3 then
    (hp_gr h a0 8 0).bind fun v6 =>
    ob2 (fJ7_copyOfRange_39247 E v6 a1 a2 h) fun v10 w9 =>
    some (v10, w9)
  else
  bX7_part_17 E  h
set_option maxRecDepth 20000 in
set_option maxHeartbeats 4000000 in
theorem rX7_part_0 {X : ah_X} {d : Nat} (hd : 2 ≤ d) {a0 : Option Nat} {a1 : Int32} {a2 : Int32} {h : ah_H} {r : Option Nat} {h2 : ah_H} (hf : bX7_part_0 X.2.2.2 a0 a1 a2 h = some (r, h2)) : Rt X yX7_part cX7_part 3 (d + 1) 0 [(0, va_rf a0), (1, .int a1), (2, .int a2)] [] h (some (va_rf r)) h2 := by
  unfold bX7_part_0 at hf
  refine rt_iload_n (pc := 0) (k0 := 1) (x := a1) 1 rfl dX7_part_0 ?_
  by_cases c1 : a1 < 0
  · rw [if_pos c1] at hf
    refine rt_if_lt_p (pc := 1) (x := a1) (tgt := 17) (by decide) dX7_part_1 c1 ?_
    exact rt_locals (rt_sub [] rfl) (rX7_part_17 hd hf)
  rw [if_neg c1] at hf
  refine rt_if_lt_n (pc := 1) (x := a1) (tgt := 17) (by decide) dX7_part_1 c1 ?_
  refine rt_iload_n (pc := 4) (k0 := 1) (x := a1) 1 rfl dX7_part_4 ?_
  refine rt_iload_n (pc := 5) (k0 := 2) (x := a2) 2 rfl dX7_part_5 ?_
  by_cases c2 : a2 ≤ a1
  · rw [if_pos c2] at hf
    refine rt_icmp_ge_p (pc := 6) (x := a1) (z := a2) (tgt := 17) (by decide) dX7_part_6 c2 ?_
    exact rt_locals (rt_sub [] rfl) (rX7_part_17 hd hf)
  rw [if_neg c2] at hf
  refine rt_icmp_ge_n (pc := 6) (x := a1) (z := a2) (tgt := 17) (by decide) dX7_part_6 c2 ?_
  refine rt_iload_n (pc := 9) (k0 := 2) (x := a2) 2 rfl dX7_part_9 ?_
  refine rt_aload_n (pc := 10) (k0 := 0) (x := a0) 0 rfl dX7_part_10 ?_
  obtain ⟨v3, e4, hf⟩ := ob1 hf
  refine rt_gi (pc := 11) fd_X7_15 dX7_part_11 e4 ?_
  by_cases c5 : a2 ≤ v3
  · rw [if_pos c5] at hf
    refine rt_icmp_le_p (pc := 14) (x := a2) (z := v3) (tgt := 21) (by decide) dX7_part_14 c5 ?_
    refine rt_aload_n (pc := 21) (k0 := 0) (x := a0) 0 rfl dX7_part_21 ?_
    obtain ⟨v6, e7, hf⟩ := ob1 hf
    refine rt_gr (pc := 22) fd_X7_9 dX7_part_22 e7 ?_
    refine rt_iload_n (pc := 25) (k0 := 1) (x := a1) 1 rfl dX7_part_25 ?_
    refine rt_iload_n (pc := 26) (k0 := 2) (x := a2) 2 rfl dX7_part_26 ?_
    obtain ⟨v10, w9, e8, hf⟩ := ob2_of hf
    have g11 := sJ7_copyOfRange_39247 d (by omega) e8
    refine rt_callS (pc := 27) (As := [va_rf v6, .int a1, .int a2]) (st := []) me_J7_copyOfRange_39247 ms_J7_copyOfRange_39247 wl_X7_22 dX7_part_27 rfl (by decide) rfl g11 ?_
    cases hf
    exact rt_ret (pc := 30) (rt_atR _ dX7_part_30) rfl
  rw [if_neg c5] at hf
  refine rt_icmp_le_n (pc := 14) (x := a2) (z := v3) (tgt := 21) (by decide) dX7_part_14 c5 ?_
  exact rt_locals (rt_sub [] rfl) (rX7_part_17 hd hf)
noncomputable def fX7_part (E : ah_E) (a0 : Option Nat) (a1 : Int32) (a2 : Int32) (h : ah_H) : Option (Option Nat × ah_H) := if hp_rcv h a0 8 = false then none else bX7_part_0 E a0 a1 a2 h
set_option maxRecDepth 20000 in
set_option maxHeartbeats 4000000 in
theorem sX7_part {X : ah_X} (d : Nat) (hd : 3 ≤ d) {a0 : Option Nat} {a1 : Int32} {a2 : Int32} {h : ah_H} {r : Option Nat} {h2 : ah_H} (hf : fX7_part X.2.2.2 a0 a1 a2 h = some (r, h2)) : hp_rcv h a0 8 = true ∧ Rn X yX7_part cX7_part 3 (some (.array .byte)) d [va_rf a0, .int a1, .int a2] h (some (va_rf r)) h2 := by
  unfold fX7_part at hf
  by_cases c0 : hp_rcv h a0 8 = false
  · rw [if_pos c0] at hf; cases hf
  rw [if_neg c0] at hf
  refine ⟨(Bool.not_eq_false _).mp c0, ?_⟩
  obtain ⟨d, rfl⟩ : ∃ k, d = k + 1 := ⟨d - 1, by omega⟩
  exact Rn.of2 me_X7_part (by simp [lg_sl, rt_cat, cat_i, cat_l]) (ok_a _ _) (l := [(0, va_rf a0), (1, .int a1), (2, .int a2)]) (by simp [lv_args, rt_cat, cat_i, cat_l]) (rX7_part_0 (by omega) hf)
noncomputable def bX4_meets_23 (E : ah_E) (s0 : Int32) (h : ah_H) : Option (Int32 × ah_H) :=
  some (s0, h)
set_option maxRecDepth 20000 in
set_option maxHeartbeats 4000000 in
theorem rX4_meets_23 {X : ah_X} {d : Nat} {s0 : Int32} {h : ah_H} {r : Int32} {h2 : ah_H} (hf : bX4_meets_23 X.2.2.2 s0 h = some (r, h2)) : Rt X yX4_meets cX4_meets 3 d 23 [] [.int s0] h (some (.int r)) h2 := by
  unfold bX4_meets_23 at hf
  cases hf
  exact rt_ret (pc := 23) dX4_meets_23 rfl
noncomputable def bX4_meets_22 (E : ah_E) (h : ah_H) : Option (Int32 × ah_H) :=
  bX4_meets_23 E (0 : Int32) h
set_option maxRecDepth 20000 in
set_option maxHeartbeats 4000000 in
theorem rX4_meets_22 {X : ah_X} {d : Nat}  {h : ah_H} {r : Int32} {h2 : ah_H} (hf : bX4_meets_22 X.2.2.2  h = some (r, h2)) : Rt X yX4_meets cX4_meets 3 d 22 [] [] h (some (.int r)) h2 := by
  unfold bX4_meets_22 at hf
  refine rt_iconst (pc := 22) (n := 0) (v := (0 : Int32)) (by decide) dX4_meets_22 ?_
  exact rX4_meets_23 hf
noncomputable def bX4_meets_0 (E : ah_E) (a0 : Option Nat) (a1 : Int64) (h : ah_H) : Option (Int32 × ah_H) :=
  (hp_gl h a0 5 2).bind fun v1 =>
  if a1 < v1 then
    bX4_meets_22 E  h
  else
  (hp_gl h a0 5 3).bind fun v4 =>
  if v4 < a1 then
    bX4_meets_22 E  h
  else
  bX4_meets_23 E (1 : Int32) h
set_option maxRecDepth 20000 in
set_option maxHeartbeats 4000000 in
theorem rX4_meets_0 {X : ah_X} {d : Nat} {a0 : Option Nat} {a1 : Int64} {h : ah_H} {r : Int32} {h2 : ah_H} (hf : bX4_meets_0 X.2.2.2 a0 a1 h = some (r, h2)) : Rt X yX4_meets cX4_meets 3 d 0 [(0, va_rf a0), (1, .long a1)] [] h (some (.int r)) h2 := by
  unfold bX4_meets_0 at hf
  refine rt_aload_n (pc := 0) (k0 := 0) (x := a0) 0 rfl dX4_meets_0 ?_
  obtain ⟨v1, e2, hf⟩ := ob1 hf
  refine rt_gl (pc := 1) fd_X4_18 dX4_meets_1 e2 ?_
  refine rt_lload_n (pc := 4) (k0 := 1) (x := a1) 1 rfl dX4_meets_4 ?_
  by_cases c3 : a1 < v1
  · rw [if_pos c3] at hf
    refine rt_lif_gt_p (pc := 5) (x := v1) (z := a1) (tgt := 22) (by decide) dX4_meets_5 dX4_meets_6 c3 ?_
    exact rt_locals (rt_sub [] rfl) (rX4_meets_22 hf)
  rw [if_neg c3] at hf
  refine rt_lif_gt_n (pc := 5) (x := v1) (z := a1) (tgt := 22) (by decide) dX4_meets_5 dX4_meets_6 c3 ?_
  refine rt_lload_n (pc := 9) (k0 := 1) (x := a1) 1 rfl dX4_meets_9 ?_
  refine rt_aload_n (pc := 10) (k0 := 0) (x := a0) 0 rfl dX4_meets_10 ?_
  obtain ⟨v4, e5, hf⟩ := ob1 hf
  refine rt_gl (pc := 11) fd_X4_22 dX4_meets_11 e5 ?_
  by_cases c6 : v4 < a1
  · rw [if_pos c6] at hf
    refine rt_lif_gt_p (pc := 14) (x := a1) (z := v4) (tgt := 22) (by decide) dX4_meets_14 dX4_meets_15 c6 ?_
    exact rt_locals (rt_sub [] rfl) (rX4_meets_22 hf)
  rw [if_neg c6] at hf
  refine rt_lif_gt_n (pc := 14) (x := a1) (z := v4) (tgt := 22) (by decide) dX4_meets_14 dX4_meets_15 c6 ?_
  refine rt_iconst (pc := 18) (n := 1) (v := (1 : Int32)) (by decide) dX4_meets_18 ?_
  refine rt_goto (pc := 19) (tgt := 23) (by decide) dX4_meets_19 ?_
  exact rt_locals (rt_sub [] rfl) (rX4_meets_23 hf)
noncomputable def fX4_meets (E : ah_E) (a0 : Option Nat) (a1 : Int64) (h : ah_H) : Option (Int32 × ah_H) := if hp_rcv h a0 5 = false then none else zb (bX4_meets_0 E a0 a1 h)
set_option maxRecDepth 20000 in
set_option maxHeartbeats 4000000 in
theorem sX4_meets {X : ah_X} (d : Nat) (hd : 0 ≤ d) {a0 : Option Nat} {a1 : Int64} {h : ah_H} {r : Int32} {h2 : ah_H} (hf : fX4_meets X.2.2.2 a0 a1 h = some (r, h2)) : hp_rcv h a0 5 = true ∧ Rn X yX4_meets cX4_meets 3 (some .boolean) d [va_rf a0, .long a1] h (some (.int r)) h2 := by
  unfold fX4_meets at hf
  by_cases c0 : hp_rcv h a0 5 = false
  · rw [if_pos c0] at hf; cases hf
  rw [if_neg c0] at hf
  refine ⟨(Bool.not_eq_false _).mp c0, ?_⟩
  obtain ⟨hf, hz⟩ := zb_of hf
  exact Rn.of2 me_X4_meets (by simp [lg_sl, rt_cat, cat_i, cat_l]) (ok_z hz) (l := [(0, va_rf a0), (1, .long a1)]) (by simp [lv_args, rt_cat, cat_i, cat_l]) (rX4_meets_0 hf)
noncomputable def bX1_isChangedBy_60 (E : ah_E) (a1 : Option Nat) (h : ah_H) : Option (Int32 × ah_H) :=
  ob2 (fX4_changes E a1 none h) fun v3 w2 =>
  some (v3, w2)
set_option maxRecDepth 20000 in
set_option maxHeartbeats 4000000 in
theorem rX1_isChangedBy_60 {X : ah_X} {d : Nat} (hd : 3 ≤ d) {a1 : Option Nat} {h : ah_H} {r : Int32} {h2 : ah_H} (hf : bX1_isChangedBy_60 X.2.2.2 a1 h = some (r, h2)) : Rt X yX1_isChangedBy cX1_isChangedBy 3 (d + 1) 60 [(1, va_rf a1)] [] h (some (.int r)) h2 := by
  unfold bX1_isChangedBy_60 at hf
  refine rt_aload_n (pc := 60) (k0 := 1) (x := a1) 0 rfl dX1_isChangedBy_60 ?_
  refine rt_null (pc := 61) dX1_isChangedBy_61 ?_
  obtain ⟨v3, w2, e1, hf⟩ := ob2_of hf
  have g4 := sX4_changes d (by omega) e1
  refine rt_callV (pc := 62) (As := [va_rf none]) (st := []) me_X4_changes mi_X4_changes wl_X1_51 dX1_isChangedBy_62 rfl (by decide) rfl g4.1 g4.2 ?_
  cases hf
  exact rt_ret (pc := 65) dX1_isChangedBy_65 rfl
noncomputable def bX1_isChangedBy_0 (E : ah_E) (a0 : Option Nat) (a1 : Option Nat) (h : ah_H) : Option (Int32 × ah_H) :=
  (hp_gl h a1 5 2).bind fun v1 =>
  ob2 (fX1_firstNotBelow E a0 v1 h) fun v5 w4 =>
  (hp_gr w4 a0 2 0).bind fun v7 =>
  ob2 (fJx4a65c_size_8abf5 E v7 w4) fun v11 w10 =>
  if v11 ≤ v5 then
    bX1_isChangedBy_60 E a1 w10
  else
  (hp_gr w10 a0 2 0).bind fun v14 =>
  ob2 (fJx4a65c_get_915e3 E v14 v5 w10) fun v18 w17 =>
  if hp_cls w17 v18 3 = false then none else
  (hp_gl w17 v18 3 0).bind fun v21 =>
  ob2 (fX4_meets E a1 v21 w17) fun v25 w24 =>
  if v25 = 0 then
    bX1_isChangedBy_60 E a1 w24
  else
  (hp_gr w24 a0 2 0).bind fun v28 =>
  ob2 (fJx4a65c_get_915e3 E v28 v5 w24) fun v32 w31 =>
  if hp_cls w31 v32 3 = false then none else
  (hp_gr w31 v32 3 1).bind fun v35 =>
  ob2 (fX4_changes E a1 v35 w31) fun v39 w38 =>
  some (v39, w38)
set_option maxRecDepth 20000 in
set_option maxHeartbeats 4000000 in
theorem rX1_isChangedBy_0 {X : ah_X} {d : Nat} (hd : 3 ≤ d) {a0 : Option Nat} {a1 : Option Nat} {h : ah_H} {r : Int32} {h2 : ah_H} (hf : bX1_isChangedBy_0 X.2.2.2 a0 a1 h = some (r, h2)) : Rt X yX1_isChangedBy cX1_isChangedBy 3 (d + 1) 0 [(0, va_rf a0), (1, va_rf a1)] [] h (some (.int r)) h2 := by
  unfold bX1_isChangedBy_0 at hf
  refine rt_aload_n (pc := 0) (k0 := 0) (x := a0) 0 rfl dX1_isChangedBy_0 ?_
  refine rt_aload_n (pc := 1) (k0 := 1) (x := a1) 1 rfl dX1_isChangedBy_1 ?_
  obtain ⟨v1, e2, hf⟩ := ob1 hf
  refine rt_gl (pc := 2) fd_X1_44 dX1_isChangedBy_2 e2 ?_
  obtain ⟨v5, w4, e3, hf⟩ := ob2_of hf
  have g6 := sX1_firstNotBelow d (by omega) e3
  refine rt_callV (pc := 5) (As := [.long v1]) (st := []) me_X1_firstNotBelow mi_X1_firstNotBelow wl_X1_32 dX1_isChangedBy_5 rfl (by decide) rfl g6.1 g6.2 ?_
  refine rt_istore_n (pc := 8) (k0 := 2) (x := v5) (l2 := [(2, .int v5), (0, va_rf a0), (1, va_rf a1)]) (by decide) (by first | rfl | (simp [rt_cat, cat_i, cat_l]; done) | (simp [rt_cat, cat_i, cat_l]; decide)) dX1_isChangedBy_8 ?_
  refine rt_iload_n (pc := 9) (k0 := 2) (x := v5) 0 rfl dX1_isChangedBy_9 ?_
  refine rt_aload_n (pc := 10) (k0 := 0) (x := a0) 1 rfl dX1_isChangedBy_10 ?_
  obtain ⟨v7, e8, hf⟩ := ob1 hf
  refine rt_gr (pc := 11) fd_X1_12 dX1_isChangedBy_11 e8 ?_
  obtain ⟨v11, w10, e9, hf⟩ := ob2_of hf
  have g12 := sJx4a65c_size_8abf5 d (by omega) e9
  refine rt_callV (pc := 14) (As := []) (st := [.int v5]) me_Jx4a65c_size_8abf5 mi_Jx4a65c_size_8abf5 wl_X1_18 dX1_isChangedBy_14 rfl (by simp [rt_cat, cat_i, cat_l]) rfl g12.1 g12.2 ?_
  by_cases c13 : v11 ≤ v5
  · rw [if_pos c13] at hf
    refine rt_icmp_ge_p (pc := 17) (x := v5) (z := v11) (tgt := 60) (by decide) dX1_isChangedBy_17 c13 ?_
    exact rt_locals (rt_sub [2] rfl) (rX1_isChangedBy_60 hd hf)
  rw [if_neg c13] at hf
  refine rt_icmp_ge_n (pc := 17) (x := v5) (z := v11) (tgt := 60) (by decide) dX1_isChangedBy_17 c13 ?_
  refine rt_aload_n (pc := 20) (k0 := 1) (x := a1) 2 rfl dX1_isChangedBy_20 ?_
  refine rt_aload_n (pc := 21) (k0 := 0) (x := a0) 1 rfl dX1_isChangedBy_21 ?_
  obtain ⟨v14, e15, hf⟩ := ob1 hf
  refine rt_gr (pc := 22) fd_X1_12 dX1_isChangedBy_22 e15 ?_
  refine rt_iload_n (pc := 25) (k0 := 2) (x := v5) 0 rfl dX1_isChangedBy_25 ?_
  obtain ⟨v18, w17, e16, hf⟩ := ob2_of hf
  have g19 := sJx4a65c_get_915e3 d (by omega) e16
  refine rt_callV (pc := 26) (As := [.int v5]) (st := [va_rf a1]) me_Jx4a65c_get_915e3 mi_Jx4a65c_get_915e3 wl_X1_22 dX1_isChangedBy_26 rfl (by simp [rt_cat, cat_i, cat_l]) rfl g19.1 g19.2 ?_
  by_cases c20 : hp_cls w17 v18 3 = false
  · rw [if_pos c20] at hf; cases hf
  rw [if_neg c20] at hf
  refine rt_cast (pc := 29) (x := v18) (show vwCl[3]? = some (RX2, TX2, 2) from rfl) wc_X1_26 dX1_isChangedBy_29 ((Bool.not_eq_false _).mp c20) ?_
  obtain ⟨v21, e22, hf⟩ := ob1 hf
  refine rt_gl (pc := 32) fd_X1_28 dX1_isChangedBy_32 e22 ?_
  obtain ⟨v25, w24, e23, hf⟩ := ob2_of hf
  have g26 := sX4_meets d (by omega) e23
  refine rt_callV (pc := 35) (As := [.long v21]) (st := []) me_X4_meets mi_X4_meets wl_X1_47 dX1_isChangedBy_35 rfl (by decide) rfl g26.1 g26.2 ?_
  by_cases c27 : v25 = 0
  · rw [if_pos c27] at hf
    refine rt_if_eq_p (pc := 38) (x := v25) (tgt := 60) (by decide) dX1_isChangedBy_38 c27 ?_
    exact rt_locals (rt_sub [2] rfl) (rX1_isChangedBy_60 hd hf)
  rw [if_neg c27] at hf
  refine rt_if_eq_n (pc := 38) (x := v25) (tgt := 60) (by decide) dX1_isChangedBy_38 c27 ?_
  refine rt_aload_n (pc := 41) (k0 := 1) (x := a1) 2 rfl dX1_isChangedBy_41 ?_
  refine rt_aload_n (pc := 42) (k0 := 0) (x := a0) 1 rfl dX1_isChangedBy_42 ?_
  obtain ⟨v28, e29, hf⟩ := ob1 hf
  refine rt_gr (pc := 43) fd_X1_12 dX1_isChangedBy_43 e29 ?_
  refine rt_iload_n (pc := 46) (k0 := 2) (x := v5) 0 rfl dX1_isChangedBy_46 ?_
  obtain ⟨v32, w31, e30, hf⟩ := ob2_of hf
  have g33 := sJx4a65c_get_915e3 d (by omega) e30
  refine rt_callV (pc := 47) (As := [.int v5]) (st := [va_rf a1]) me_Jx4a65c_get_915e3 mi_Jx4a65c_get_915e3 wl_X1_22 dX1_isChangedBy_47 rfl (by simp [rt_cat, cat_i, cat_l]) rfl g33.1 g33.2 ?_
  by_cases c34 : hp_cls w31 v32 3 = false
  · rw [if_pos c34] at hf; cases hf
  rw [if_neg c34] at hf
  refine rt_cast (pc := 50) (x := v32) (show vwCl[3]? = some (RX2, TX2, 2) from rfl) wc_X1_26 dX1_isChangedBy_50 ((Bool.not_eq_false _).mp c34) ?_
  obtain ⟨v35, e36, hf⟩ := ob1 hf
  refine rt_gr (pc := 53) fd_X1_40 dX1_isChangedBy_53 e36 ?_
  obtain ⟨v39, w38, e37, hf⟩ := ob2_of hf
  have g40 := sX4_changes d (by omega) e37
  refine rt_callV (pc := 56) (As := [va_rf v35]) (st := []) me_X4_changes mi_X4_changes wl_X1_51 dX1_isChangedBy_56 rfl (by decide) rfl g40.1 g40.2 ?_
  cases hf
  exact rt_ret (pc := 59) dX1_isChangedBy_59 rfl
noncomputable def fX1_isChangedBy (E : ah_E) (a0 : Option Nat) (a1 : Option Nat) (h : ah_H) : Option (Int32 × ah_H) := if hp_rcv h a0 2 = false then none else zb (bX1_isChangedBy_0 E a0 a1 h)
set_option maxRecDepth 20000 in
set_option maxHeartbeats 4000000 in
theorem sX1_isChangedBy {X : ah_X} (d : Nat) (hd : 4 ≤ d) {a0 : Option Nat} {a1 : Option Nat} {h : ah_H} {r : Int32} {h2 : ah_H} (hf : fX1_isChangedBy X.2.2.2 a0 a1 h = some (r, h2)) : hp_rcv h a0 2 = true ∧ Rn X yX1_isChangedBy cX1_isChangedBy 3 (some .boolean) d [va_rf a0, va_rf a1] h (some (.int r)) h2 := by
  unfold fX1_isChangedBy at hf
  by_cases c0 : hp_rcv h a0 2 = false
  · rw [if_pos c0] at hf; cases hf
  rw [if_neg c0] at hf
  refine ⟨(Bool.not_eq_false _).mp c0, ?_⟩
  obtain ⟨hf, hz⟩ := zb_of hf
  obtain ⟨d, rfl⟩ : ∃ k, d = k + 1 := ⟨d - 1, by omega⟩
  exact Rn.of2 me_X1_isChangedBy (by simp [lg_sl, rt_cat, cat_i, cat_l]) (ok_z hz) (l := [(0, va_rf a0), (1, va_rf a1)]) (by simp [lv_args, rt_cat, cat_i, cat_l]) (rX1_isChangedBy_0 (by omega) hf)
noncomputable def bX5_isLeaf_0 (E : ah_E) (a0 : Option Nat) (h : ah_H) : Option (Int32 × ah_H) :=
  (hp_gr h a0 6 2).bind fun v1 =>
  ob2 (fJx4a65c_isEmpty_aae02 E v1 h) fun v5 w4 =>
  some (v5, w4)
set_option maxRecDepth 20000 in
set_option maxHeartbeats 4000000 in
theorem rX5_isLeaf_0 {X : ah_X} {d : Nat} (hd : 0 ≤ d) {a0 : Option Nat} {h : ah_H} {r : Int32} {h2 : ah_H} (hf : bX5_isLeaf_0 X.2.2.2 a0 h = some (r, h2)) : Rt X yX5_isLeaf cX5_isLeaf 1 (d + 1) 0 [(0, va_rf a0)] [] h (some (.int r)) h2 := by
  unfold bX5_isLeaf_0 at hf
  refine rt_aload_n (pc := 0) (k0 := 0) (x := a0) 0 rfl dX5_isLeaf_0 ?_
  obtain ⟨v1, e2, hf⟩ := ob1 hf
  refine rt_gr (pc := 1) fd_X5_12 dX5_isLeaf_1 e2 ?_
  obtain ⟨v5, w4, e3, hf⟩ := ob2_of hf
  have g6 := sJx4a65c_isEmpty_aae02 d (by omega) e3
  refine rt_callV (pc := 4) (As := []) (st := []) me_Jx4a65c_isEmpty_aae02 mi_Jx4a65c_isEmpty_aae02 wl_X5_33 dX5_isLeaf_4 rfl (by decide) rfl g6.1 g6.2 ?_
  cases hf
  exact rt_ret (pc := 7) dX5_isLeaf_7 rfl
noncomputable def fX5_isLeaf (E : ah_E) (a0 : Option Nat) (h : ah_H) : Option (Int32 × ah_H) := if hp_rcv h a0 6 = false then none else zb (bX5_isLeaf_0 E a0 h)
set_option maxRecDepth 20000 in
set_option maxHeartbeats 4000000 in
theorem sX5_isLeaf {X : ah_X} (d : Nat) (hd : 1 ≤ d) {a0 : Option Nat} {h : ah_H} {r : Int32} {h2 : ah_H} (hf : fX5_isLeaf X.2.2.2 a0 h = some (r, h2)) : hp_rcv h a0 6 = true ∧ Rn X yX5_isLeaf cX5_isLeaf 1 (some .boolean) d [va_rf a0] h (some (.int r)) h2 := by
  unfold fX5_isLeaf at hf
  by_cases c0 : hp_rcv h a0 6 = false
  · rw [if_pos c0] at hf; cases hf
  rw [if_neg c0] at hf
  refine ⟨(Bool.not_eq_false _).mp c0, ?_⟩
  obtain ⟨hf, hz⟩ := zb_of hf
  obtain ⟨d, rfl⟩ : ∃ k, d = k + 1 := ⟨d - 1, by omega⟩
  exact Rn.of2 me_X5_isLeaf (by simp [lg_sl, rt_cat, cat_i, cat_l]) (ok_z hz) (l := [(0, va_rf a0)]) (by simp [lv_args, rt_cat, cat_i, cat_l]) (rX5_isLeaf_0 (by omega) hf)
noncomputable def bX5_isChangedBy_35 (E : ah_E) (h : ah_H) : Option (Int32 × ah_H) :=
  some ((1 : Int32), h)
set_option maxRecDepth 20000 in
set_option maxHeartbeats 4000000 in
theorem rX5_isChangedBy_35 {X : ah_X} {d : Nat} (hd : 4 ≤ d)  {h : ah_H} {r : Int32} {h2 : ah_H} (hf : bX5_isChangedBy_35 X.2.2.2  h = some (r, h2)) : Rt X yX5_isChangedBy cX5_isChangedBy 3 (d + 1) 35 [] [] h (some (.int r)) h2 := by
  unfold bX5_isChangedBy_35 at hf
  refine rt_iconst (pc := 35) (n := 1) (v := (1 : Int32)) (by decide) dX5_isChangedBy_35 ?_
  cases hf
  exact rt_ret (pc := 36) dX5_isChangedBy_36 rfl
noncomputable def bX5_isChangedBy_2 (E : ah_E) : Nat → Option Nat → Option Nat → Int32 → ah_H → Option (Int32 × ah_H)
  | 0 => fun _ _ _ _ => none
  | n + 1 => fun a0 a1 a2 h =>
  ob2 (fJx4a65c_size_8abf5 E a1 h) fun v3 w2 =>
  if v3 ≤ a2 then
    some ((0 : Int32), w2)
  else
  ob2 (fX5_isLeaf E a0 w2) fun v8 w7 =>
  if v8 = 0 then
    bX5_isChangedBy_35 E  w7
  else
  (hp_gr w7 a0 6 1).bind fun v11 =>
  ob2 (fJx4a65c_get_915e3 E a1 a2 w7) fun v15 w14 =>
  if hp_cls w14 v15 5 = false then none else
  ob2 (fX1_isChangedBy E v11 v15 w14) fun v20 w19 =>
  if v20 = 0 then
    bX5_isChangedBy_2 E n a0 a1 (a2 + 1) w19
  else
  bX5_isChangedBy_35 E  w19
set_option maxRecDepth 20000 in
set_option maxHeartbeats 4000000 in
theorem rX5_isChangedBy_2 {X : ah_X} {d : Nat} (hd : 4 ≤ d) (n : Nat) : ∀ (a0 : Option Nat) (a1 : Option Nat) (a2 : Int32) (h : ah_H) (r : Int32) (h2 : ah_H), bX5_isChangedBy_2 X.2.2.2 n a0 a1 a2 h = some (r, h2) → Rt X yX5_isChangedBy cX5_isChangedBy 3 (d + 1) 2 [(0, va_rf a0), (1, va_rf a1), (2, .int a2)] [] h (some (.int r)) h2 := by
  induction n with
  | zero => intro a0 a1 a2 h r h2 hf; cases hf
  | succ n ih =>
  intro a0 a1 a2 h r h2 hf
  unfold bX5_isChangedBy_2 at hf
  refine rt_iload_n (pc := 2) (k0 := 2) (x := a2) 2 rfl dX5_isChangedBy_2 ?_
  refine rt_aload_n (pc := 3) (k0 := 1) (x := a1) 1 rfl dX5_isChangedBy_3 ?_
  obtain ⟨v3, w2, e1, hf⟩ := ob2_of hf
  have g4 := sJx4a65c_size_8abf5 d (by omega) e1
  refine rt_callV (pc := 4) (As := []) (st := [.int a2]) me_Jx4a65c_size_8abf5 mi_Jx4a65c_size_8abf5 wl_X5_42 dX5_isChangedBy_4 rfl (by simp [rt_cat, cat_i, cat_l]) rfl g4.1 g4.2 ?_
  by_cases c5 : v3 ≤ a2
  · rw [if_pos c5] at hf
    refine rt_icmp_ge_p (pc := 7) (x := a2) (z := v3) (tgt := 43) (by decide) dX5_isChangedBy_7 c5 ?_
    refine rt_iconst (pc := 43) (n := 0) (v := (0 : Int32)) (by decide) dX5_isChangedBy_43 ?_
    cases hf
    exact rt_ret (pc := 44) dX5_isChangedBy_44 rfl
  rw [if_neg c5] at hf
  refine rt_icmp_ge_n (pc := 7) (x := a2) (z := v3) (tgt := 43) (by decide) dX5_isChangedBy_7 c5 ?_
  refine rt_aload_n (pc := 10) (k0 := 0) (x := a0) 0 rfl dX5_isChangedBy_10 ?_
  obtain ⟨v8, w7, e6, hf⟩ := ob2_of hf
  have g9 := sX5_isLeaf d (by omega) e6
  refine rt_callV (pc := 11) (As := []) (st := []) me_X5_isLeaf mi_X5_isLeaf wl_X5_49 dX5_isChangedBy_11 rfl (by decide) rfl g9.1 g9.2 ?_
  by_cases c10 : v8 = 0
  · rw [if_pos c10] at hf
    refine rt_if_eq_p (pc := 14) (x := v8) (tgt := 35) (by decide) dX5_isChangedBy_14 c10 ?_
    exact rt_locals (rt_sub [] rfl) (rX5_isChangedBy_35 hd hf)
  rw [if_neg c10] at hf
  refine rt_if_eq_n (pc := 14) (x := v8) (tgt := 35) (by decide) dX5_isChangedBy_14 c10 ?_
  refine rt_aload_n (pc := 17) (k0 := 0) (x := a0) 0 rfl dX5_isChangedBy_17 ?_
  obtain ⟨v11, e12, hf⟩ := ob1 hf
  refine rt_gr (pc := 18) fd_X5_29 dX5_isChangedBy_18 e12 ?_
  refine rt_aload_n (pc := 21) (k0 := 1) (x := a1) 1 rfl dX5_isChangedBy_21 ?_
  refine rt_iload_n (pc := 22) (k0 := 2) (x := a2) 2 rfl dX5_isChangedBy_22 ?_
  obtain ⟨v15, w14, e13, hf⟩ := ob2_of hf
  have g16 := sJx4a65c_get_915e3 d (by omega) e13
  refine rt_callV (pc := 23) (As := [.int a2]) (st := [va_rf v11]) me_Jx4a65c_get_915e3 mi_Jx4a65c_get_915e3 wl_X5_60 dX5_isChangedBy_23 rfl (by simp [rt_cat, cat_i, cat_l]) rfl g16.1 g16.2 ?_
  by_cases c17 : hp_cls w14 v15 5 = false
  · rw [if_pos c17] at hf; cases hf
  rw [if_neg c17] at hf
  refine rt_cast (pc := 26) (x := v15) (show vwCl[5]? = some (RX4, TX4, 6) from rfl) wc_X5_64 dX5_isChangedBy_26 ((Bool.not_eq_false _).mp c17) ?_
  obtain ⟨v20, w19, e18, hf⟩ := ob2_of hf
  have g21 := sX1_isChangedBy d (by omega) e18
  refine rt_callV (pc := 29) (As := [va_rf v15]) (st := []) me_X1_isChangedBy mi_X1_isChangedBy wl_X5_74 dX5_isChangedBy_29 rfl (by decide) rfl g21.1 g21.2 ?_
  by_cases c22 : v20 = 0
  · rw [if_pos c22] at hf
    refine rt_if_eq_p (pc := 32) (x := v20) (tgt := 37) (by decide) dX5_isChangedBy_32 c22 ?_
    refine rt_iinc (pc := 37) (i := 2) (n := 1) (x := a2) (v := (a2 + 1)) (l2 := [(2, .int (a2 + 1)), (0, va_rf a0), (1, va_rf a1)]) 2 rfl rfl (by decide) (by first | rfl | (simp [rt_cat, cat_i, cat_l]; done) | (simp [rt_cat, cat_i, cat_l]; decide)) dX5_isChangedBy_37 ?_
    refine rt_goto (pc := 40) (tgt := 2) (by decide) dX5_isChangedBy_40 ?_
    exact rt_locals (rt_sub [1, 2, 0] rfl) (ih _ _ _ _ _ _ hf)
  rw [if_neg c22] at hf
  refine rt_if_eq_n (pc := 32) (x := v20) (tgt := 37) (by decide) dX5_isChangedBy_32 c22 ?_
  exact rt_locals (rt_sub [] rfl) (rX5_isChangedBy_35 hd hf)
noncomputable def bX5_isChangedBy_0 (E : ah_E) (a0 : Option Nat) (a1 : Option Nat) (h : ah_H) : Option (Int32 × ah_H) :=
  bX5_isChangedBy_2 E zf a0 a1 (0 : Int32) h
set_option maxRecDepth 20000 in
set_option maxHeartbeats 4000000 in
theorem rX5_isChangedBy_0 {X : ah_X} {d : Nat} (hd : 4 ≤ d) {a0 : Option Nat} {a1 : Option Nat} {h : ah_H} {r : Int32} {h2 : ah_H} (hf : bX5_isChangedBy_0 X.2.2.2 a0 a1 h = some (r, h2)) : Rt X yX5_isChangedBy cX5_isChangedBy 3 (d + 1) 0 [(0, va_rf a0), (1, va_rf a1)] [] h (some (.int r)) h2 := by
  unfold bX5_isChangedBy_0 at hf
  refine rt_iconst (pc := 0) (n := 0) (v := (0 : Int32)) (by decide) dX5_isChangedBy_0 ?_
  refine rt_istore_n (pc := 1) (k0 := 2) (x := (0 : Int32)) (l2 := [(2, .int (0 : Int32)), (0, va_rf a0), (1, va_rf a1)]) (by decide) (by first | rfl | (simp [rt_cat, cat_i, cat_l]; done) | (simp [rt_cat, cat_i, cat_l]; decide)) dX5_isChangedBy_1 ?_
  exact rt_locals (rt_sub [1, 2, 0] rfl) (rX5_isChangedBy_2 hd zf _ _ _ _ _ _ hf)
noncomputable def fX5_isChangedBy (E : ah_E) (a0 : Option Nat) (a1 : Option Nat) (h : ah_H) : Option (Int32 × ah_H) := if hp_rcv h a0 6 = false then none else zb (bX5_isChangedBy_0 E a0 a1 h)
set_option maxRecDepth 20000 in
set_option maxHeartbeats 4000000 in
theorem sX5_isChangedBy {X : ah_X} (d : Nat) (hd : 5 ≤ d) {a0 : Option Nat} {a1 : Option Nat} {h : ah_H} {r : Int32} {h2 : ah_H} (hf : fX5_isChangedBy X.2.2.2 a0 a1 h = some (r, h2)) : hp_rcv h a0 6 = true ∧ Rn X yX5_isChangedBy cX5_isChangedBy 3 (some .boolean) d [va_rf a0, va_rf a1] h (some (.int r)) h2 := by
  unfold fX5_isChangedBy at hf
  by_cases c0 : hp_rcv h a0 6 = false
  · rw [if_pos c0] at hf; cases hf
  rw [if_neg c0] at hf
  refine ⟨(Bool.not_eq_false _).mp c0, ?_⟩
  obtain ⟨hf, hz⟩ := zb_of hf
  obtain ⟨d, rfl⟩ : ∃ k, d = k + 1 := ⟨d - 1, by omega⟩
  exact Rn.of2 me_X5_isChangedBy (by simp [lg_sl, rt_cat, cat_i, cat_l]) (ok_z hz) (l := [(0, va_rf a0), (1, va_rf a1)]) (by simp [lv_args, rt_cat, cat_i, cat_l]) (rX5_isChangedBy_0 (by omega) hf)
noncomputable def bX1_init_0 (E : ah_E) (a0 : Option Nat) (h : ah_H) : Option ah_H :=
  if hp_rcv h a0 2 = false then none else
  (hp_new h 0 nf_0 3).bind fun w3 =>
  (fJx4a65c_init_da8c8 E (some h.1) w3).bind fun w6 =>
  (hp_pv w6 a0 2 0 (va_rf (some h.1))).bind fun w8 =>
  some w8
set_option maxRecDepth 20000 in
set_option maxHeartbeats 4000000 in
theorem rX1_init_0 {X : ah_X} {d : Nat} (hd : 3 ≤ d) {a0 : Option Nat} {h : ah_H} {h2 : ah_H} (hf : bX1_init_0 X.2.2.2 a0 h = some h2) : Rt X yX1_init cX1_init 1 (d + 1) 0 [(0, va_rf a0)] [] h none h2 := by
  unfold bX1_init_0 at hf
  refine rt_aload_n (pc := 0) (k0 := 0) (x := a0) 0 rfl dX1_init_0 ?_
  by_cases c1 : hp_rcv h a0 2 = false
  · rw [if_pos c1] at hf; cases hf
  rw [if_neg c1] at hf
  refine rt_objInit (pc := 1) wl_X1_3 (by decide) dX1_init_1 (by obtain ⟨q, _, q2, _⟩ := hp_rcv_spec ((Bool.not_eq_false _).mp c1); exact ⟨q, q2⟩) ?_
  refine rt_aload_n (pc := 4) (k0 := 0) (x := a0) 0 rfl dX1_init_4 ?_
  obtain ⟨w3, e4, hf⟩ := ob1 hf
  refine rt_newB (pc := 5) nw_X1_9 dX1_init_5 e4 ?_
  refine rt_dup (pc := 8) (rt_cat _) dX1_init_8 ?_
  obtain ⟨w6, e5, hf⟩ := ob1 hf
  have g7 := sJx4a65c_init_da8c8 d (by omega) e5
  refine rt_callI (pc := 9) (As := []) (st := [va_rf (some h.1), va_rf a0]) (ci := 0) me_Jx4a65c_init_da8c8 mI_Jx4a65c_init_da8c8 wl_X1_11 dX1_init_9 rfl (by simp [rt_cat, cat_i, cat_l]) rfl g7.1 g7.2 ?_
  obtain ⟨w8, e9, hf⟩ := ob1 hf
  refine rt_putf (pc := 12) (x := a0) fw_X1_12 (Or.inr rfl) (pf_o _ _).1 (pf_o _ _).2 dX1_init_12 e9 ?_
  cases hf
  exact rt_ret (pc := 15) dX1_init_15 rfl
noncomputable def fX1_init (E : ah_E) (a0 : Option Nat) (h : ah_H) : Option ah_H := if hp_rcv h a0 2 = false then none else bX1_init_0 E a0 h
set_option maxRecDepth 20000 in
set_option maxHeartbeats 4000000 in
theorem sX1_init {X : ah_X} (d : Nat) (hd : 4 ≤ d) {a0 : Option Nat} {h : ah_H} {h2 : ah_H} (hf : fX1_init X.2.2.2 a0 h = some h2) : hp_rcv h a0 2 = true ∧ Rn X yX1_init cX1_init 1 none d [va_rf a0] h none h2 := by
  unfold fX1_init at hf
  by_cases c0 : hp_rcv h a0 2 = false
  · rw [if_pos c0] at hf; cases hf
  rw [if_neg c0] at hf
  refine ⟨(Bool.not_eq_false _).mp c0, ?_⟩
  obtain ⟨d, rfl⟩ : ∃ k, d = k + 1 := ⟨d - 1, by omega⟩
  exact Rn.of2 me_X1_init (by simp [lg_sl, rt_cat, cat_i, cat_l]) rfl (l := [(0, va_rf a0)]) (by simp [lv_args, rt_cat, cat_i, cat_l]) (rX1_init_0 (by omega) hf)
noncomputable def bX5_copyInto_103 (E : ah_E) (h : ah_H) : Option ah_H :=
  some h
set_option maxRecDepth 20000 in
set_option maxHeartbeats 4000000 in
theorem rX5_copyInto_103 {X : ah_X} {d : Nat} (hd : 6 ≤ d)  {h : ah_H} {h2 : ah_H} (hf : bX5_copyInto_103 X.2.2.2  h = some h2) : Rt X yX5_copyInto cX5_copyInto 5 (d + 1) 103 [] [] h none h2 := by
  unfold bX5_copyInto_103 at hf
  cases hf
  exact rt_ret (pc := 103) dX5_copyInto_103 rfl
noncomputable def bX5_copyInto_59 (E : ah_E) : Nat → Option Nat → Option Nat → Int32 → Int32 → ah_H → Option ah_H
  | 0 => fun _ _ _ _ _ => none
  | n + 1 => fun a0 a1 a3 a4 h =>
  if a3 ≤ a4 then
    bX5_copyInto_103 E  h
  else
  (hp_gr h a0 6 2).bind fun v2 =>
  ob2 (fJx4a65c_size_8abf5 E v2 h) fun v6 w5 =>
  if v6 ≤ a4 then
    bX5_copyInto_103 E  w5
  else
  (hp_gr w5 a1 6 2).bind fun v9 =>
  (hp_gr w5 a0 6 2).bind fun v11 =>
  ob2 (fJx4a65c_get_915e3 E v11 a4 w5) fun v15 w14 =>
  if hp_cls w14 v15 6 = false then none else
  ob2 (fJx4a65c_add_9ea2d E v9 v15 w14) fun v20 w19 =>
  bX5_copyInto_59 E n a0 a1 a3 (a4 + 1) w19
set_option maxRecDepth 20000 in
set_option maxHeartbeats 4000000 in
theorem rX5_copyInto_59 {X : ah_X} {d : Nat} (hd : 6 ≤ d) (n : Nat) : ∀ (a0 : Option Nat) (a1 : Option Nat) (a3 : Int32) (a4 : Int32) (h : ah_H) (h2 : ah_H), bX5_copyInto_59 X.2.2.2 n a0 a1 a3 a4 h = some h2 → Rt X yX5_copyInto cX5_copyInto 5 (d + 1) 59 [(0, va_rf a0), (1, va_rf a1), (3, .int a3), (4, .int a4)] [] h none h2 := by
  induction n with
  | zero => intro a0 a1 a3 a4 h h2 hf; cases hf
  | succ n ih =>
  intro a0 a1 a3 a4 h h2 hf
  unfold bX5_copyInto_59 at hf
  refine rt_iload (pc := 59) (i := 4) (x := a4) 3 rfl dX5_copyInto_59 ?_
  refine rt_iload_n (pc := 61) (k0 := 3) (x := a3) 2 rfl dX5_copyInto_61 ?_
  by_cases c1 : a3 ≤ a4
  · rw [if_pos c1] at hf
    refine rt_icmp_ge_p (pc := 62) (x := a4) (z := a3) (tgt := 103) (by decide) dX5_copyInto_62 c1 ?_
    exact rt_locals (rt_sub [] rfl) (rX5_copyInto_103 hd hf)
  rw [if_neg c1] at hf
  refine rt_icmp_ge_n (pc := 62) (x := a4) (z := a3) (tgt := 103) (by decide) dX5_copyInto_62 c1 ?_
  refine rt_iload (pc := 65) (i := 4) (x := a4) 3 rfl dX5_copyInto_65 ?_
  refine rt_aload_n (pc := 67) (k0 := 0) (x := a0) 0 rfl dX5_copyInto_67 ?_
  obtain ⟨v2, e3, hf⟩ := ob1 hf
  refine rt_gr (pc := 68) fd_X5_12 dX5_copyInto_68 e3 ?_
  obtain ⟨v6, w5, e4, hf⟩ := ob2_of hf
  have g7 := sJx4a65c_size_8abf5 d (by omega) e4
  refine rt_callV (pc := 71) (As := []) (st := [.int a4]) me_Jx4a65c_size_8abf5 mi_Jx4a65c_size_8abf5 wl_X5_42 dX5_copyInto_71 rfl (by simp [rt_cat, cat_i, cat_l]) rfl g7.1 g7.2 ?_
  by_cases c8 : v6 ≤ a4
  · rw [if_pos c8] at hf
    refine rt_icmp_ge_p (pc := 74) (x := a4) (z := v6) (tgt := 103) (by decide) dX5_copyInto_74 c8 ?_
    exact rt_locals (rt_sub [] rfl) (rX5_copyInto_103 hd hf)
  rw [if_neg c8] at hf
  refine rt_icmp_ge_n (pc := 74) (x := a4) (z := v6) (tgt := 103) (by decide) dX5_copyInto_74 c8 ?_
  refine rt_aload_n (pc := 77) (k0 := 1) (x := a1) 1 rfl dX5_copyInto_77 ?_
  obtain ⟨v9, e10, hf⟩ := ob1 hf
  refine rt_gr (pc := 78) fd_X5_12 dX5_copyInto_78 e10 ?_
  refine rt_aload_n (pc := 81) (k0 := 0) (x := a0) 0 rfl dX5_copyInto_81 ?_
  obtain ⟨v11, e12, hf⟩ := ob1 hf
  refine rt_gr (pc := 82) fd_X5_12 dX5_copyInto_82 e12 ?_
  refine rt_iload (pc := 85) (i := 4) (x := a4) 3 rfl dX5_copyInto_85 ?_
  obtain ⟨v15, w14, e13, hf⟩ := ob2_of hf
  have g16 := sJx4a65c_get_915e3 d (by omega) e13
  refine rt_callV (pc := 87) (As := [.int a4]) (st := [va_rf v9]) me_Jx4a65c_get_915e3 mi_Jx4a65c_get_915e3 wl_X5_60 dX5_copyInto_87 rfl (by simp [rt_cat, cat_i, cat_l]) rfl g16.1 g16.2 ?_
  by_cases c17 : hp_cls w14 v15 6 = false
  · rw [if_pos c17] at hf; cases hf
  rw [if_neg c17] at hf
  refine rt_cast (pc := 90) (x := v15) (show vwCl[6]? = some (RX5, TX5, 5) from rfl) wc_X5_13 dX5_copyInto_90 ((Bool.not_eq_false _).mp c17) ?_
  obtain ⟨v20, w19, e18, hf⟩ := ob2_of hf
  have g21 := sJx4a65c_add_9ea2d d (by omega) e18
  refine rt_callV (pc := 93) (As := [va_rf v15]) (st := []) me_Jx4a65c_add_9ea2d mi_Jx4a65c_add_9ea2d wl_X5_66 dX5_copyInto_93 rfl (by decide) rfl g21.1 g21.2 ?_
  refine rt_pop (pc := 96) rfl dX5_copyInto_96 ?_
  refine rt_iinc (pc := 97) (i := 4) (n := 1) (x := a4) (v := (a4 + 1)) (l2 := [(4, .int (a4 + 1)), (0, va_rf a0), (1, va_rf a1), (3, .int a3)]) 3 rfl rfl (by decide) (by first | rfl | (simp [rt_cat, cat_i, cat_l]; done) | (simp [rt_cat, cat_i, cat_l]; decide)) dX5_copyInto_97 ?_
  refine rt_goto (pc := 100) (tgt := 59) (by decide) dX5_copyInto_100 ?_
  exact rt_locals (rt_sub [1, 2, 3, 0] rfl) (ih _ _ _ _ _ _ hf)
noncomputable def bX5_copyInto_56 (E : ah_E) (a0 : Option Nat) (a1 : Option Nat) (a2 : Int32) (a3 : Int32) (h : ah_H) : Option ah_H :=
  bX5_copyInto_59 E zf a0 a1 a3 a2 h
set_option maxRecDepth 20000 in
set_option maxHeartbeats 4000000 in
theorem rX5_copyInto_56 {X : ah_X} {d : Nat} (hd : 6 ≤ d) {a0 : Option Nat} {a1 : Option Nat} {a2 : Int32} {a3 : Int32} {h : ah_H} {h2 : ah_H} (hf : bX5_copyInto_56 X.2.2.2 a0 a1 a2 a3 h = some h2) : Rt X yX5_copyInto cX5_copyInto 5 (d + 1) 56 [(0, va_rf a0), (1, va_rf a1), (2, .int a2), (3, .int a3)] [] h none h2 := by
  unfold bX5_copyInto_56 at hf
  refine rt_iload_n (pc := 56) (k0 := 2) (x := a2) 2 rfl dX5_copyInto_56 ?_
  refine rt_istore (pc := 57) (i := 4) (x := a2) (l2 := [(4, .int a2), (0, va_rf a0), (1, va_rf a1), (2, .int a2), (3, .int a3)]) (by decide) (by first | rfl | (simp [rt_cat, cat_i, cat_l]; done) | (simp [rt_cat, cat_i, cat_l]; decide)) dX5_copyInto_57 ?_
  exact rt_locals (rt_sub [1, 2, 4, 0] rfl) (rX5_copyInto_59 hd zf _ _ _ _ _ _ hf)
noncomputable def bX5_copyInto_3 (E : ah_E) : Nat → Option Nat → Option Nat → Int32 → Int32 → Int32 → ah_H → Option ah_H
  | 0 => fun _ _ _ _ _ _ => none
  | n + 1 => fun a0 a1 a2 a3 a4 h =>
  if a3 ≤ a4 then
    bX5_copyInto_56 E a0 a1 a2 a3 h
  else
  (hp_gr h a0 6 1).bind fun v2 =>
  (hp_gr h v2 2 0).bind fun v4 =>
  ob2 (fJx4a65c_size_8abf5 E v4 h) fun v8 w7 =>
  if v8 ≤ a4 then
    bX5_copyInto_56 E a0 a1 a2 a3 w7
  else
  (hp_gr w7 a1 6 1).bind fun v11 =>
  (hp_gr w7 v11 2 0).bind fun v13 =>
  (hp_gr w7 a0 6 1).bind fun v15 =>
  (hp_gr w7 v15 2 0).bind fun v17 =>
  ob2 (fJx4a65c_get_915e3 E v17 a4 w7) fun v21 w20 =>
  if hp_cls w20 v21 3 = false then none else
  ob2 (fJx4a65c_add_9ea2d E v13 v21 w20) fun v26 w25 =>
  bX5_copyInto_3 E n a0 a1 a2 a3 (a4 + 1) w25
set_option maxRecDepth 20000 in
set_option maxHeartbeats 4000000 in
theorem rX5_copyInto_3 {X : ah_X} {d : Nat} (hd : 6 ≤ d) (n : Nat) : ∀ (a0 : Option Nat) (a1 : Option Nat) (a2 : Int32) (a3 : Int32) (a4 : Int32) (h : ah_H) (h2 : ah_H), bX5_copyInto_3 X.2.2.2 n a0 a1 a2 a3 a4 h = some h2 → Rt X yX5_copyInto cX5_copyInto 5 (d + 1) 3 [(0, va_rf a0), (1, va_rf a1), (2, .int a2), (3, .int a3), (4, .int a4)] [] h none h2 := by
  induction n with
  | zero => intro a0 a1 a2 a3 a4 h h2 hf; cases hf
  | succ n ih =>
  intro a0 a1 a2 a3 a4 h h2 hf
  unfold bX5_copyInto_3 at hf
  refine rt_iload (pc := 3) (i := 4) (x := a4) 4 rfl dX5_copyInto_3 ?_
  refine rt_iload_n (pc := 5) (k0 := 3) (x := a3) 3 rfl dX5_copyInto_5 ?_
  by_cases c1 : a3 ≤ a4
  · rw [if_pos c1] at hf
    refine rt_icmp_ge_p (pc := 6) (x := a4) (z := a3) (tgt := 56) (by decide) dX5_copyInto_6 c1 ?_
    exact rt_locals (rt_sub [0, 1, 2, 3] rfl) (rX5_copyInto_56 hd hf)
  rw [if_neg c1] at hf
  refine rt_icmp_ge_n (pc := 6) (x := a4) (z := a3) (tgt := 56) (by decide) dX5_copyInto_6 c1 ?_
  refine rt_iload (pc := 9) (i := 4) (x := a4) 4 rfl dX5_copyInto_9 ?_
  refine rt_aload_n (pc := 11) (k0 := 0) (x := a0) 0 rfl dX5_copyInto_11 ?_
  obtain ⟨v2, e3, hf⟩ := ob1 hf
  refine rt_gr (pc := 12) fd_X5_29 dX5_copyInto_12 e3 ?_
  obtain ⟨v4, e5, hf⟩ := ob1 hf
  refine rt_gr (pc := 15) fd_X5_37 dX5_copyInto_15 e5 ?_
  obtain ⟨v8, w7, e6, hf⟩ := ob2_of hf
  have g9 := sJx4a65c_size_8abf5 d (by omega) e6
  refine rt_callV (pc := 18) (As := []) (st := [.int a4]) me_Jx4a65c_size_8abf5 mi_Jx4a65c_size_8abf5 wl_X5_42 dX5_copyInto_18 rfl (by simp [rt_cat, cat_i, cat_l]) rfl g9.1 g9.2 ?_
  by_cases c10 : v8 ≤ a4
  · rw [if_pos c10] at hf
    refine rt_icmp_ge_p (pc := 21) (x := a4) (z := v8) (tgt := 56) (by decide) dX5_copyInto_21 c10 ?_
    exact rt_locals (rt_sub [0, 1, 2, 3] rfl) (rX5_copyInto_56 hd hf)
  rw [if_neg c10] at hf
  refine rt_icmp_ge_n (pc := 21) (x := a4) (z := v8) (tgt := 56) (by decide) dX5_copyInto_21 c10 ?_
  refine rt_aload_n (pc := 24) (k0 := 1) (x := a1) 1 rfl dX5_copyInto_24 ?_
  obtain ⟨v11, e12, hf⟩ := ob1 hf
  refine rt_gr (pc := 25) fd_X5_29 dX5_copyInto_25 e12 ?_
  obtain ⟨v13, e14, hf⟩ := ob1 hf
  refine rt_gr (pc := 28) fd_X5_37 dX5_copyInto_28 e14 ?_
  refine rt_aload_n (pc := 31) (k0 := 0) (x := a0) 0 rfl dX5_copyInto_31 ?_
  obtain ⟨v15, e16, hf⟩ := ob1 hf
  refine rt_gr (pc := 32) fd_X5_29 dX5_copyInto_32 e16 ?_
  obtain ⟨v17, e18, hf⟩ := ob1 hf
  refine rt_gr (pc := 35) fd_X5_37 dX5_copyInto_35 e18 ?_
  refine rt_iload (pc := 38) (i := 4) (x := a4) 4 rfl dX5_copyInto_38 ?_
  obtain ⟨v21, w20, e19, hf⟩ := ob2_of hf
  have g22 := sJx4a65c_get_915e3 d (by omega) e19
  refine rt_callV (pc := 40) (As := [.int a4]) (st := [va_rf v13]) me_Jx4a65c_get_915e3 mi_Jx4a65c_get_915e3 wl_X5_60 dX5_copyInto_40 rfl (by simp [rt_cat, cat_i, cat_l]) rfl g22.1 g22.2 ?_
  by_cases c23 : hp_cls w20 v21 3 = false
  · rw [if_pos c23] at hf; cases hf
  rw [if_neg c23] at hf
  refine rt_cast (pc := 43) (x := v21) (show vwCl[3]? = some (RX2, TX2, 2) from rfl) wc_X5_70 dX5_copyInto_43 ((Bool.not_eq_false _).mp c23) ?_
  obtain ⟨v26, w25, e24, hf⟩ := ob2_of hf
  have g27 := sJx4a65c_add_9ea2d d (by omega) e24
  refine rt_callV (pc := 46) (As := [va_rf v21]) (st := []) me_Jx4a65c_add_9ea2d mi_Jx4a65c_add_9ea2d wl_X5_66 dX5_copyInto_46 rfl (by decide) rfl g27.1 g27.2 ?_
  refine rt_pop (pc := 49) rfl dX5_copyInto_49 ?_
  refine rt_iinc (pc := 50) (i := 4) (n := 1) (x := a4) (v := (a4 + 1)) (l2 := [(4, .int (a4 + 1)), (0, va_rf a0), (1, va_rf a1), (2, .int a2), (3, .int a3)]) 4 rfl rfl (by decide) (by first | rfl | (simp [rt_cat, cat_i, cat_l]; done) | (simp [rt_cat, cat_i, cat_l]; decide)) dX5_copyInto_50 ?_
  refine rt_goto (pc := 53) (tgt := 3) (by decide) dX5_copyInto_53 ?_
  exact rt_locals (rt_sub [1, 2, 3, 4, 0] rfl) (ih _ _ _ _ _ _ _ hf)
noncomputable def bX5_copyInto_0 (E : ah_E) (a0 : Option Nat) (a1 : Option Nat) (a2 : Int32) (a3 : Int32) (h : ah_H) : Option ah_H :=
  bX5_copyInto_3 E zf a0 a1 a2 a3 a2 h
set_option maxRecDepth 20000 in
set_option maxHeartbeats 4000000 in
theorem rX5_copyInto_0 {X : ah_X} {d : Nat} (hd : 6 ≤ d) {a0 : Option Nat} {a1 : Option Nat} {a2 : Int32} {a3 : Int32} {h : ah_H} {h2 : ah_H} (hf : bX5_copyInto_0 X.2.2.2 a0 a1 a2 a3 h = some h2) : Rt X yX5_copyInto cX5_copyInto 5 (d + 1) 0 [(0, va_rf a0), (1, va_rf a1), (2, .int a2), (3, .int a3)] [] h none h2 := by
  unfold bX5_copyInto_0 at hf
  refine rt_iload_n (pc := 0) (k0 := 2) (x := a2) 2 rfl dX5_copyInto_0 ?_
  refine rt_istore (pc := 1) (i := 4) (x := a2) (l2 := [(4, .int a2), (0, va_rf a0), (1, va_rf a1), (2, .int a2), (3, .int a3)]) (by decide) (by first | rfl | (simp [rt_cat, cat_i, cat_l]; done) | (simp [rt_cat, cat_i, cat_l]; decide)) dX5_copyInto_1 ?_
  exact rt_locals (rt_sub [1, 2, 3, 4, 0] rfl) (rX5_copyInto_3 hd zf _ _ _ _ _ _ _ hf)
noncomputable def fX5_copyInto (E : ah_E) (a0 : Option Nat) (a1 : Option Nat) (a2 : Int32) (a3 : Int32) (h : ah_H) : Option ah_H := if hp_rcv h a0 6 = false then none else bX5_copyInto_0 E a0 a1 a2 a3 h
set_option maxRecDepth 20000 in
set_option maxHeartbeats 4000000 in
theorem sX5_copyInto {X : ah_X} (d : Nat) (hd : 7 ≤ d) {a0 : Option Nat} {a1 : Option Nat} {a2 : Int32} {a3 : Int32} {h : ah_H} {h2 : ah_H} (hf : fX5_copyInto X.2.2.2 a0 a1 a2 a3 h = some h2) : hp_rcv h a0 6 = true ∧ Rn X yX5_copyInto cX5_copyInto 5 none d [va_rf a0, va_rf a1, .int a2, .int a3] h none h2 := by
  unfold fX5_copyInto at hf
  by_cases c0 : hp_rcv h a0 6 = false
  · rw [if_pos c0] at hf; cases hf
  rw [if_neg c0] at hf
  refine ⟨(Bool.not_eq_false _).mp c0, ?_⟩
  obtain ⟨d, rfl⟩ : ∃ k, d = k + 1 := ⟨d - 1, by omega⟩
  exact Rn.of2 me_X5_copyInto (by simp [lg_sl, rt_cat, cat_i, cat_l]) rfl (l := [(0, va_rf a0), (1, va_rf a1), (2, .int a2), (3, .int a3)]) (by simp [lv_args, rt_cat, cat_i, cat_l]) (rX5_copyInto_0 (by omega) hf)
noncomputable def bX5_init_0 (E : ah_E) (a0 : Option Nat) (a1 : Int64) (a3 : Option Nat) (h : ah_H) : Option ah_H :=
  if hp_rcv h a0 6 = false then none else
  (hp_new h 0 nf_0 3).bind fun w3 =>
  (fJx4a65c_init_da8c8 E (some h.1) w3).bind fun w6 =>
  (hp_pv w6 a0 6 2 (va_rf (some h.1))).bind fun w8 =>
  (hp_new w8 0 nf_0 3).bind fun w10 =>
  (fJx4a65c_init_da8c8 E (some w8.1) w10).bind fun w13 =>
  (hp_pv w13 a0 6 3 (va_rf (some w8.1))).bind fun w15 =>
  (hp_pv w15 a0 6 4 (.int (-1 : Int32))).bind fun w17 =>
  (hp_pv w17 a0 6 0 (.long a1)).bind fun w19 =>
  (hp_pv w19 a0 6 1 (va_rf a3)).bind fun w21 =>
  some w21
set_option maxRecDepth 20000 in
set_option maxHeartbeats 4000000 in
theorem rX5_init_0 {X : ah_X} {d : Nat} (hd : 3 ≤ d) {a0 : Option Nat} {a1 : Int64} {a3 : Option Nat} {h : ah_H} {h2 : ah_H} (hf : bX5_init_0 X.2.2.2 a0 a1 a3 h = some h2) : Rt X yX5_init cX5_init 4 (d + 1) 0 [(0, va_rf a0), (1, .long a1), (3, va_rf a3)] [] h none h2 := by
  unfold bX5_init_0 at hf
  refine rt_aload_n (pc := 0) (k0 := 0) (x := a0) 0 rfl dX5_init_0 ?_
  by_cases c1 : hp_rcv h a0 6 = false
  · rw [if_pos c1] at hf; cases hf
  rw [if_neg c1] at hf
  refine rt_objInit (pc := 1) wl_X5_3 (by decide) dX5_init_1 (by obtain ⟨q, _, q2, _⟩ := hp_rcv_spec ((Bool.not_eq_false _).mp c1); exact ⟨q, q2⟩) ?_
  refine rt_aload_n (pc := 4) (k0 := 0) (x := a0) 0 rfl dX5_init_4 ?_
  obtain ⟨w3, e4, hf⟩ := ob1 hf
  refine rt_newB (pc := 5) nw_X5_9 dX5_init_5 e4 ?_
  refine rt_dup (pc := 8) (rt_cat _) dX5_init_8 ?_
  obtain ⟨w6, e5, hf⟩ := ob1 hf
  have g7 := sJx4a65c_init_da8c8 d (by omega) e5
  refine rt_callI (pc := 9) (As := []) (st := [va_rf (some h.1), va_rf a0]) (ci := 0) me_Jx4a65c_init_da8c8 mI_Jx4a65c_init_da8c8 wl_X5_11 dX5_init_9 rfl (by simp [rt_cat, cat_i, cat_l]) rfl g7.1 g7.2 ?_
  obtain ⟨w8, e9, hf⟩ := ob1 hf
  refine rt_putf (pc := 12) (x := a0) fw_X5_12 (Or.inr rfl) (pf_o _ _).1 (pf_o _ _).2 dX5_init_12 e9 ?_
  refine rt_aload_n (pc := 15) (k0 := 0) (x := a0) 0 rfl dX5_init_15 ?_
  obtain ⟨w10, e11, hf⟩ := ob1 hf
  refine rt_newB (pc := 16) nw_X5_9 dX5_init_16 e11 ?_
  refine rt_dup (pc := 19) (rt_cat _) dX5_init_19 ?_
  obtain ⟨w13, e12, hf⟩ := ob1 hf
  have g14 := sJx4a65c_init_da8c8 d (by omega) e12
  refine rt_callI (pc := 20) (As := []) (st := [va_rf (some w8.1), va_rf a0]) (ci := 0) me_Jx4a65c_init_da8c8 mI_Jx4a65c_init_da8c8 wl_X5_11 dX5_init_20 rfl (by simp [rt_cat, cat_i, cat_l]) rfl g14.1 g14.2 ?_
  obtain ⟨w15, e16, hf⟩ := ob1 hf
  refine rt_putf (pc := 23) (x := a0) fw_X5_18 (Or.inr rfl) (pf_o _ _).1 (pf_o _ _).2 dX5_init_23 e16 ?_
  refine rt_aload_n (pc := 26) (k0 := 0) (x := a0) 0 rfl dX5_init_26 ?_
  refine rt_iconst (pc := 27) (n := -1) (v := (-1 : Int32)) (by decide) dX5_init_27 ?_
  obtain ⟨w17, e18, hf⟩ := ob1 hf
  refine rt_putf (pc := 28) (x := a0) fw_X5_21 (Or.inl rfl) (pf_i _).1 (pf_i _).2 dX5_init_28 e18 ?_
  refine rt_aload_n (pc := 31) (k0 := 0) (x := a0) 0 rfl dX5_init_31 ?_
  refine rt_lload_n (pc := 32) (k0 := 1) (x := a1) 1 rfl dX5_init_32 ?_
  obtain ⟨w19, e20, hf⟩ := ob1 hf
  refine rt_putf (pc := 33) (x := a0) fw_X5_25 (Or.inr rfl) (pf_l _).1 (pf_l _).2 dX5_init_33 e20 ?_
  refine rt_aload_n (pc := 36) (k0 := 0) (x := a0) 0 rfl dX5_init_36 ?_
  refine rt_aload_n (pc := 37) (k0 := 3) (x := a3) 2 rfl dX5_init_37 ?_
  obtain ⟨w21, e22, hf⟩ := ob1 hf
  refine rt_putf (pc := 38) (x := a0) fw_X5_29 (Or.inr rfl) (pf_o _ _).1 (pf_o _ _).2 dX5_init_38 e22 ?_
  cases hf
  exact rt_ret (pc := 41) dX5_init_41 rfl
noncomputable def fX5_init (E : ah_E) (a0 : Option Nat) (a1 : Int64) (a3 : Option Nat) (h : ah_H) : Option ah_H := if hp_rcv h a0 6 = false then none else bX5_init_0 E a0 a1 a3 h
set_option maxRecDepth 20000 in
set_option maxHeartbeats 4000000 in
theorem sX5_init {X : ah_X} (d : Nat) (hd : 4 ≤ d) {a0 : Option Nat} {a1 : Int64} {a3 : Option Nat} {h : ah_H} {h2 : ah_H} (hf : fX5_init X.2.2.2 a0 a1 a3 h = some h2) : hp_rcv h a0 6 = true ∧ Rn X yX5_init cX5_init 4 none d [va_rf a0, .long a1, va_rf a3] h none h2 := by
  unfold fX5_init at hf
  by_cases c0 : hp_rcv h a0 6 = false
  · rw [if_pos c0] at hf; cases hf
  rw [if_neg c0] at hf
  refine ⟨(Bool.not_eq_false _).mp c0, ?_⟩
  obtain ⟨d, rfl⟩ : ∃ k, d = k + 1 := ⟨d - 1, by omega⟩
  exact Rn.of2 me_X5_init (by simp [lg_sl, rt_cat, cat_i, cat_l]) rfl (l := [(0, va_rf a0), (1, .long a1), (3, va_rf a3)]) (by simp [lv_args, rt_cat, cat_i, cat_l]) (rX5_init_0 (by omega) hf)
noncomputable def bX5_width_0 (E : ah_E) (a0 : Option Nat) (h : ah_H) : Option (Int32 × ah_H) :=
  (hp_gr h a0 6 1).bind fun v1 =>
  (hp_gr h v1 2 0).bind fun v3 =>
  ob2 (fJx4a65c_size_8abf5 E v3 h) fun v7 w6 =>
  (hp_gr w6 a0 6 2).bind fun v9 =>
  ob2 (fJx4a65c_size_8abf5 E v9 w6) fun v13 w12 =>
  some ((v7 + v13), w12)
set_option maxRecDepth 20000 in
set_option maxHeartbeats 4000000 in
theorem rX5_width_0 {X : ah_X} {d : Nat} (hd : 0 ≤ d) {a0 : Option Nat} {h : ah_H} {r : Int32} {h2 : ah_H} (hf : bX5_width_0 X.2.2.2 a0 h = some (r, h2)) : Rt X yX5_width cX5_width 1 (d + 1) 0 [(0, va_rf a0)] [] h (some (.int r)) h2 := by
  unfold bX5_width_0 at hf
  refine rt_aload_n (pc := 0) (k0 := 0) (x := a0) 0 rfl dX5_width_0 ?_
  obtain ⟨v1, e2, hf⟩ := ob1 hf
  refine rt_gr (pc := 1) fd_X5_29 dX5_width_1 e2 ?_
  obtain ⟨v3, e4, hf⟩ := ob1 hf
  refine rt_gr (pc := 4) fd_X5_37 dX5_width_4 e4 ?_
  obtain ⟨v7, w6, e5, hf⟩ := ob2_of hf
  have g8 := sJx4a65c_size_8abf5 d (by omega) e5
  refine rt_callV (pc := 7) (As := []) (st := []) me_Jx4a65c_size_8abf5 mi_Jx4a65c_size_8abf5 wl_X5_42 dX5_width_7 rfl (by decide) rfl g8.1 g8.2 ?_
  refine rt_aload_n (pc := 10) (k0 := 0) (x := a0) 0 rfl dX5_width_10 ?_
  obtain ⟨v9, e10, hf⟩ := ob1 hf
  refine rt_gr (pc := 11) fd_X5_12 dX5_width_11 e10 ?_
  obtain ⟨v13, w12, e11, hf⟩ := ob2_of hf
  have g14 := sJx4a65c_size_8abf5 d (by omega) e11
  refine rt_callV (pc := 14) (As := []) (st := [.int v7]) me_Jx4a65c_size_8abf5 mi_Jx4a65c_size_8abf5 wl_X5_42 dX5_width_14 rfl (by simp [rt_cat, cat_i, cat_l]) rfl g14.1 g14.2 ?_
  refine rt_iadd (pc := 17) (x := v7) (z := v13) dX5_width_17 ?_
  cases hf
  exact rt_ret (pc := 18) dX5_width_18 rfl
noncomputable def fX5_width (E : ah_E) (a0 : Option Nat) (h : ah_H) : Option (Int32 × ah_H) := if hp_rcv h a0 6 = false then none else bX5_width_0 E a0 h
set_option maxRecDepth 20000 in
set_option maxHeartbeats 4000000 in
theorem sX5_width {X : ah_X} (d : Nat) (hd : 1 ≤ d) {a0 : Option Nat} {h : ah_H} {r : Int32} {h2 : ah_H} (hf : fX5_width X.2.2.2 a0 h = some (r, h2)) : hp_rcv h a0 6 = true ∧ Rn X yX5_width cX5_width 1 (some .int) d [va_rf a0] h (some (.int r)) h2 := by
  unfold fX5_width at hf
  by_cases c0 : hp_rcv h a0 6 = false
  · rw [if_pos c0] at hf; cases hf
  rw [if_neg c0] at hf
  refine ⟨(Bool.not_eq_false _).mp c0, ?_⟩
  obtain ⟨d, rfl⟩ : ∃ k, d = k + 1 := ⟨d - 1, by omega⟩
  exact Rn.of2 me_X5_width (by simp [lg_sl, rt_cat, cat_i, cat_l]) (ok_i _) (l := [(0, va_rf a0)]) (by simp [lv_args, rt_cat, cat_i, cat_l]) (rX5_width_0 (by omega) hf)
noncomputable def bX5_opened_41 (E : ah_E) : Nat → Option Nat → Option Nat → Int32 → ah_H → Option (Option Nat × ah_H)
  | 0 => fun _ _ _ _ => none
  | n + 1 => fun a0 a1 a2 h =>
  (hp_gr h a0 6 3).bind fun v1 =>
  ob2 (fJx4a65c_size_8abf5 E v1 h) fun v5 w4 =>
  if v5 ≤ a2 then
    some (a1, w4)
  else
  (hp_gr w4 a1 6 3).bind fun v8 =>
  (hp_gr w4 a0 6 3).bind fun v10 =>
  ob2 (fJx4a65c_get_915e3 E v10 a2 w4) fun v14 w13 =>
  if hp_cls w13 v14 5 = false then none else
  ob2 (fJx4a65c_add_9ea2d E v8 v14 w13) fun v19 w18 =>
  bX5_opened_41 E n a0 a1 (a2 + 1) w18
set_option maxRecDepth 20000 in
set_option maxHeartbeats 4000000 in
theorem rX5_opened_41 {X : ah_X} {d : Nat} (hd : 7 ≤ d) (n : Nat) : ∀ (a0 : Option Nat) (a1 : Option Nat) (a2 : Int32) (h : ah_H) (r : Option Nat) (h2 : ah_H), bX5_opened_41 X.2.2.2 n a0 a1 a2 h = some (r, h2) → Rt X yX5_opened cX5_opened 3 (d + 1) 41 [(0, va_rf a0), (1, va_rf a1), (2, .int a2)] [] h (some (va_rf r)) h2 := by
  induction n with
  | zero => intro a0 a1 a2 h r h2 hf; cases hf
  | succ n ih =>
  intro a0 a1 a2 h r h2 hf
  unfold bX5_opened_41 at hf
  refine rt_iload_n (pc := 41) (k0 := 2) (x := a2) 2 rfl dX5_opened_41 ?_
  refine rt_aload_n (pc := 42) (k0 := 0) (x := a0) 0 rfl dX5_opened_42 ?_
  obtain ⟨v1, e2, hf⟩ := ob1 hf
  refine rt_gr (pc := 43) fd_X5_18 dX5_opened_43 e2 ?_
  obtain ⟨v5, w4, e3, hf⟩ := ob2_of hf
  have g6 := sJx4a65c_size_8abf5 d (by omega) e3
  refine rt_callV (pc := 46) (As := []) (st := [.int a2]) me_Jx4a65c_size_8abf5 mi_Jx4a65c_size_8abf5 wl_X5_42 dX5_opened_46 rfl (by simp [rt_cat, cat_i, cat_l]) rfl g6.1 g6.2 ?_
  by_cases c7 : v5 ≤ a2
  · rw [if_pos c7] at hf
    refine rt_icmp_ge_p (pc := 49) (x := a2) (z := v5) (tgt := 77) (by decide) dX5_opened_49 c7 ?_
    refine rt_aload_n (pc := 77) (k0 := 1) (x := a1) 1 rfl dX5_opened_77 ?_
    cases hf
    exact rt_ret (pc := 78) (rt_atR _ dX5_opened_78) rfl
  rw [if_neg c7] at hf
  refine rt_icmp_ge_n (pc := 49) (x := a2) (z := v5) (tgt := 77) (by decide) dX5_opened_49 c7 ?_
  refine rt_aload_n (pc := 52) (k0 := 1) (x := a1) 1 rfl dX5_opened_52 ?_
  obtain ⟨v8, e9, hf⟩ := ob1 hf
  refine rt_gr (pc := 53) fd_X5_18 dX5_opened_53 e9 ?_
  refine rt_aload_n (pc := 56) (k0 := 0) (x := a0) 0 rfl dX5_opened_56 ?_
  obtain ⟨v10, e11, hf⟩ := ob1 hf
  refine rt_gr (pc := 57) fd_X5_18 dX5_opened_57 e11 ?_
  refine rt_iload_n (pc := 60) (k0 := 2) (x := a2) 2 rfl dX5_opened_60 ?_
  obtain ⟨v14, w13, e12, hf⟩ := ob2_of hf
  have g15 := sJx4a65c_get_915e3 d (by omega) e12
  refine rt_callV (pc := 61) (As := [.int a2]) (st := [va_rf v8]) me_Jx4a65c_get_915e3 mi_Jx4a65c_get_915e3 wl_X5_60 dX5_opened_61 rfl (by simp [rt_cat, cat_i, cat_l]) rfl g15.1 g15.2 ?_
  by_cases c16 : hp_cls w13 v14 5 = false
  · rw [if_pos c16] at hf; cases hf
  rw [if_neg c16] at hf
  refine rt_cast (pc := 64) (x := v14) (show vwCl[5]? = some (RX4, TX4, 6) from rfl) wc_X5_64 dX5_opened_64 ((Bool.not_eq_false _).mp c16) ?_
  obtain ⟨v19, w18, e17, hf⟩ := ob2_of hf
  have g20 := sJx4a65c_add_9ea2d d (by omega) e17
  refine rt_callV (pc := 67) (As := [va_rf v14]) (st := []) me_Jx4a65c_add_9ea2d mi_Jx4a65c_add_9ea2d wl_X5_66 dX5_opened_67 rfl (by decide) rfl g20.1 g20.2 ?_
  refine rt_pop (pc := 70) rfl dX5_opened_70 ?_
  refine rt_iinc (pc := 71) (i := 2) (n := 1) (x := a2) (v := (a2 + 1)) (l2 := [(2, .int (a2 + 1)), (0, va_rf a0), (1, va_rf a1)]) 2 rfl rfl (by decide) (by first | rfl | (simp [rt_cat, cat_i, cat_l]; done) | (simp [rt_cat, cat_i, cat_l]; decide)) dX5_opened_71 ?_
  refine rt_goto (pc := 74) (tgt := 41) (by decide) dX5_opened_74 ?_
  exact rt_locals (rt_sub [1, 2, 0] rfl) (ih _ _ _ _ _ _ hf)
noncomputable def bX5_opened_0 (E : ah_E) (a0 : Option Nat) (h : ah_H) : Option (Option Nat × ah_H) :=
  (hp_gi h a0 6 4).bind fun v1 =>
  if v1 = (-1 : Int32) then
    some (a0, h)
  else
  (hp_new h 6 nf_6 5).bind fun w4 =>
  (hp_gl w4 a0 6 0).bind fun v6 =>
  (hp_new w4 2 nf_2 1).bind fun w8 =>
  (fX1_init E (some w4.1) w8).bind fun w11 =>
  (fX5_init E (some h.1) v6 (some w4.1) w11).bind fun w14 =>
  ob2 (fX5_width E a0 w14) fun v18 w17 =>
  (fX5_copyInto E a0 (some h.1) (0 : Int32) v18 w17).bind fun w21 =>
  bX5_opened_41 E zf a0 (some h.1) (0 : Int32) w21
set_option maxRecDepth 20000 in
set_option maxHeartbeats 4000000 in
theorem rX5_opened_0 {X : ah_X} {d : Nat} (hd : 7 ≤ d) {a0 : Option Nat} {h : ah_H} {r : Option Nat} {h2 : ah_H} (hf : bX5_opened_0 X.2.2.2 a0 h = some (r, h2)) : Rt X yX5_opened cX5_opened 3 (d + 1) 0 [(0, va_rf a0)] [] h (some (va_rf r)) h2 := by
  unfold bX5_opened_0 at hf
  refine rt_aload_n (pc := 0) (k0 := 0) (x := a0) 0 rfl dX5_opened_0 ?_
  obtain ⟨v1, e2, hf⟩ := ob1 hf
  refine rt_gi (pc := 1) fd_X5_21 dX5_opened_1 e2 ?_
  refine rt_iconst (pc := 4) (n := -1) (v := (-1 : Int32)) (by decide) dX5_opened_4 ?_
  by_cases c3 : v1 = (-1 : Int32)
  · rw [if_pos c3] at hf
    refine rt_icmp_ne_p (pc := 5) (x := v1) (z := (-1 : Int32)) (tgt := 10) (by decide) dX5_opened_5 c3 ?_
    refine rt_aload_n (pc := 8) (k0 := 0) (x := a0) 0 rfl dX5_opened_8 ?_
    cases hf
    exact rt_ret (pc := 9) (rt_atR _ dX5_opened_9) rfl
  rw [if_neg c3] at hf
  refine rt_icmp_ne_n (pc := 5) (x := v1) (z := (-1 : Int32)) (tgt := 10) (by decide) dX5_opened_5 c3 ?_
  obtain ⟨w4, e5, hf⟩ := ob1 hf
  refine rt_newB (pc := 10) nw_X5_13 dX5_opened_10 e5 ?_
  refine rt_dup (pc := 13) (rt_cat _) dX5_opened_13 ?_
  refine rt_aload_n (pc := 14) (k0 := 0) (x := a0) 0 rfl dX5_opened_14 ?_
  obtain ⟨v6, e7, hf⟩ := ob1 hf
  refine rt_gl (pc := 15) fd_X5_25 dX5_opened_15 e7 ?_
  obtain ⟨w8, e9, hf⟩ := ob1 hf
  refine rt_newB (pc := 18) nw_X5_38 dX5_opened_18 e9 ?_
  refine rt_dup (pc := 21) (rt_cat _) dX5_opened_21 ?_
  obtain ⟨w11, e10, hf⟩ := ob1 hf
  have g12 := sX1_init d (by omega) e10
  refine rt_callIN (pc := 22) (As := []) (st := [va_rf (some w4.1), .long v6, va_rf (some h.1), va_rf (some h.1)]) (ci := 2) me_X1_init mI_X1_init wln_X5_52 dX5_opened_22 rfl (by simp [rt_cat, cat_i, cat_l]) rfl g12.1 g12.2 ?_
  obtain ⟨w14, e13, hf⟩ := ob1 hf
  have g15 := sX5_init d (by omega) e13
  refine rt_callI (pc := 25) (As := [.long v6, va_rf (some w4.1)]) (st := [va_rf (some h.1)]) (ci := 6) me_X5_init mI_X5_init wl_X5_53 dX5_opened_25 rfl (by simp [rt_cat, cat_i, cat_l]) rfl g15.1 g15.2 ?_
  refine rt_astore_n (pc := 28) (k0 := 1) (x := (some h.1)) (l2 := [(1, va_rf (some h.1)), (0, va_rf a0)]) (by decide) (by first | rfl | (simp [rt_cat, cat_i, cat_l]; done) | (simp [rt_cat, cat_i, cat_l]; decide)) dX5_opened_28 ?_
  refine rt_aload_n (pc := 29) (k0 := 0) (x := a0) 1 rfl dX5_opened_29 ?_
  refine rt_aload_n (pc := 30) (k0 := 1) (x := (some h.1)) 0 rfl dX5_opened_30 ?_
  refine rt_iconst (pc := 31) (n := 0) (v := (0 : Int32)) (by decide) dX5_opened_31 ?_
  refine rt_aload_n (pc := 32) (k0 := 0) (x := a0) 1 rfl dX5_opened_32 ?_
  obtain ⟨v18, w17, e16, hf⟩ := ob2_of hf
  have g19 := sX5_width d (by omega) e16
  refine rt_callV (pc := 33) (As := []) (st := [.int (0 : Int32), va_rf (some h.1), va_rf a0]) me_X5_width mi_X5_width wl_X5_46 dX5_opened_33 rfl (by simp [rt_cat, cat_i, cat_l]) rfl g19.1 g19.2 ?_
  obtain ⟨w21, e20, hf⟩ := ob1 hf
  have g22 := sX5_copyInto d (by omega) e20
  refine rt_callV (pc := 36) (As := [va_rf (some h.1), .int (0 : Int32), .int v18]) (st := []) me_X5_copyInto mi_X5_copyInto wl_X5_56 dX5_opened_36 rfl (by decide) rfl g22.1 g22.2 ?_
  refine rt_iconst (pc := 39) (n := 0) (v := (0 : Int32)) (by decide) dX5_opened_39 ?_
  refine rt_istore_n (pc := 40) (k0 := 2) (x := (0 : Int32)) (l2 := [(2, .int (0 : Int32)), (1, va_rf (some h.1)), (0, va_rf a0)]) (by decide) (by first | rfl | (simp [rt_cat, cat_i, cat_l]; done) | (simp [rt_cat, cat_i, cat_l]; decide)) dX5_opened_40 ?_
  exact rt_locals (rt_sub [2, 1, 0] rfl) (rX5_opened_41 hd zf _ _ _ _ _ _ hf)
noncomputable def fX5_opened (E : ah_E) (a0 : Option Nat) (h : ah_H) : Option (Option Nat × ah_H) := if hp_rcv h a0 6 = false then none else bX5_opened_0 E a0 h
set_option maxRecDepth 20000 in
set_option maxHeartbeats 4000000 in
theorem sX5_opened {X : ah_X} (d : Nat) (hd : 8 ≤ d) {a0 : Option Nat} {h : ah_H} {r : Option Nat} {h2 : ah_H} (hf : fX5_opened X.2.2.2 a0 h = some (r, h2)) : hp_rcv h a0 6 = true ∧ Rn X yX5_opened cX5_opened 3 (some (.object "LetterTree$Page")) d [va_rf a0] h (some (va_rf r)) h2 := by
  unfold fX5_opened at hf
  by_cases c0 : hp_rcv h a0 6 = false
  · rw [if_pos c0] at hf; cases hf
  rw [if_neg c0] at hf
  refine ⟨(Bool.not_eq_false _).mp c0, ?_⟩
  obtain ⟨d, rfl⟩ : ∃ k, d = k + 1 := ⟨d - 1, by omega⟩
  exact Rn.of2 me_X5_opened (by simp [lg_sl, rt_cat, cat_i, cat_l]) (ok_o _ _) (l := [(0, va_rf a0)]) (by simp [lv_args, rt_cat, cat_i, cat_l]) (rX5_opened_0 (by omega) hf)
noncomputable def bX5_lastKeyOf_37 (E : ah_E) (s0 : Int64) (h : ah_H) : Option (Int64 × ah_H) :=
  some (s0, h)
set_option maxRecDepth 20000 in
set_option maxHeartbeats 4000000 in
theorem rX5_lastKeyOf_37 {X : ah_X} {d : Nat} (hd : 2 ≤ d) {s0 : Int64} {h : ah_H} {r : Int64} {h2 : ah_H} (hf : bX5_lastKeyOf_37 X.2.2.2 s0 h = some (r, h2)) : Rt X yX5_lastKeyOf cX5_lastKeyOf 2 (d + 1) 37 [] [.long s0] h (some (.long r)) h2 := by
  unfold bX5_lastKeyOf_37 at hf
  cases hf
  exact rt_ret (pc := 37) dX5_lastKeyOf_37 rfl
noncomputable def bX5_lastKeyOf_0 (E : ah_E) (a0 : Option Nat) (a1 : Int32) (h : ah_H) : Option (Int64 × ah_H) :=
  (hp_gr h a0 6 2).bind fun v1 =>
  ob2 (fJx4a65c_size_8abf5 E v1 h) fun v5 w4 =>
  if v5 ≤ (a1 + (1 : Int32)) then
    bX5_lastKeyOf_37 E (9223372036854775807 : Int64) w4
  else
  (hp_gr w4 a0 6 2).bind fun v8 =>
  ob2 (fJx4a65c_get_915e3 E v8 (a1 + (1 : Int32)) w4) fun v12 w11 =>
  if hp_cls w11 v12 6 = false then none else
  (hp_gl w11 v12 6 0).bind fun v15 =>
  bX5_lastKeyOf_37 E (v15 - (1 : Int64)) w11
set_option maxRecDepth 20000 in
set_option maxHeartbeats 4000000 in
theorem rX5_lastKeyOf_0 {X : ah_X} {d : Nat} (hd : 2 ≤ d) {a0 : Option Nat} {a1 : Int32} {h : ah_H} {r : Int64} {h2 : ah_H} (hf : bX5_lastKeyOf_0 X.2.2.2 a0 a1 h = some (r, h2)) : Rt X yX5_lastKeyOf cX5_lastKeyOf 2 (d + 1) 0 [(0, va_rf a0), (1, .int a1)] [] h (some (.long r)) h2 := by
  unfold bX5_lastKeyOf_0 at hf
  refine rt_iload_n (pc := 0) (k0 := 1) (x := a1) 1 rfl dX5_lastKeyOf_0 ?_
  refine rt_iconst (pc := 1) (n := 1) (v := (1 : Int32)) (by decide) dX5_lastKeyOf_1 ?_
  refine rt_iadd (pc := 2) (x := a1) (z := (1 : Int32)) dX5_lastKeyOf_2 ?_
  refine rt_aload_n (pc := 3) (k0 := 0) (x := a0) 0 rfl dX5_lastKeyOf_3 ?_
  obtain ⟨v1, e2, hf⟩ := ob1 hf
  refine rt_gr (pc := 4) fd_X5_12 dX5_lastKeyOf_4 e2 ?_
  obtain ⟨v5, w4, e3, hf⟩ := ob2_of hf
  have g6 := sJx4a65c_size_8abf5 d (by omega) e3
  refine rt_callV (pc := 7) (As := []) (st := [.int (a1 + (1 : Int32))]) me_Jx4a65c_size_8abf5 mi_Jx4a65c_size_8abf5 wl_X5_42 dX5_lastKeyOf_7 rfl (by simp [rt_cat, cat_i, cat_l]) rfl g6.1 g6.2 ?_
  by_cases c7 : v5 ≤ (a1 + (1 : Int32))
  · rw [if_pos c7] at hf
    refine rt_icmp_ge_p (pc := 10) (x := (a1 + (1 : Int32))) (z := v5) (tgt := 34) (by decide) dX5_lastKeyOf_10 c7 ?_
    refine rt_ldc2 (pc := 34) wj_X5_72 dX5_lastKeyOf_34 ?_
    exact rt_locals (rt_sub [] rfl) (rX5_lastKeyOf_37 hd hf)
  rw [if_neg c7] at hf
  refine rt_icmp_ge_n (pc := 10) (x := (a1 + (1 : Int32))) (z := v5) (tgt := 34) (by decide) dX5_lastKeyOf_10 c7 ?_
  refine rt_aload_n (pc := 13) (k0 := 0) (x := a0) 0 rfl dX5_lastKeyOf_13 ?_
  obtain ⟨v8, e9, hf⟩ := ob1 hf
  refine rt_gr (pc := 14) fd_X5_12 dX5_lastKeyOf_14 e9 ?_
  refine rt_iload_n (pc := 17) (k0 := 1) (x := a1) 1 rfl dX5_lastKeyOf_17 ?_
  refine rt_iconst (pc := 18) (n := 1) (v := (1 : Int32)) (by decide) dX5_lastKeyOf_18 ?_
  refine rt_iadd (pc := 19) (x := a1) (z := (1 : Int32)) dX5_lastKeyOf_19 ?_
  obtain ⟨v12, w11, e10, hf⟩ := ob2_of hf
  have g13 := sJx4a65c_get_915e3 d (by omega) e10
  refine rt_callV (pc := 20) (As := [.int (a1 + (1 : Int32))]) (st := []) me_Jx4a65c_get_915e3 mi_Jx4a65c_get_915e3 wl_X5_60 dX5_lastKeyOf_20 rfl (by decide) rfl g13.1 g13.2 ?_
  by_cases c14 : hp_cls w11 v12 6 = false
  · rw [if_pos c14] at hf; cases hf
  rw [if_neg c14] at hf
  refine rt_cast (pc := 23) (x := v12) (show vwCl[6]? = some (RX5, TX5, 5) from rfl) wc_X5_13 dX5_lastKeyOf_23 ((Bool.not_eq_false _).mp c14) ?_
  obtain ⟨v15, e16, hf⟩ := ob1 hf
  refine rt_gl (pc := 26) fd_X5_25 dX5_lastKeyOf_26 e16 ?_
  refine rt_lconst (pc := 29) (n := 1) (v := (1 : Int64)) (by decide) dX5_lastKeyOf_29 ?_
  refine rt_lsub (pc := 30) (x := v15) (z := (1 : Int64)) dX5_lastKeyOf_30 ?_
  refine rt_goto (pc := 31) (tgt := 37) (by decide) dX5_lastKeyOf_31 ?_
  exact rt_locals (rt_sub [] rfl) (rX5_lastKeyOf_37 hd hf)
noncomputable def fX5_lastKeyOf (E : ah_E) (a0 : Option Nat) (a1 : Int32) (h : ah_H) : Option (Int64 × ah_H) := if hp_rcv h a0 6 = false then none else bX5_lastKeyOf_0 E a0 a1 h
set_option maxRecDepth 20000 in
set_option maxHeartbeats 4000000 in
theorem sX5_lastKeyOf {X : ah_X} (d : Nat) (hd : 3 ≤ d) {a0 : Option Nat} {a1 : Int32} {h : ah_H} {r : Int64} {h2 : ah_H} (hf : fX5_lastKeyOf X.2.2.2 a0 a1 h = some (r, h2)) : hp_rcv h a0 6 = true ∧ Rn X yX5_lastKeyOf cX5_lastKeyOf 2 (some .long) d [va_rf a0, .int a1] h (some (.long r)) h2 := by
  unfold fX5_lastKeyOf at hf
  by_cases c0 : hp_rcv h a0 6 = false
  · rw [if_pos c0] at hf; cases hf
  rw [if_neg c0] at hf
  refine ⟨(Bool.not_eq_false _).mp c0, ?_⟩
  obtain ⟨d, rfl⟩ : ∃ k, d = k + 1 := ⟨d - 1, by omega⟩
  exact Rn.of2 me_X5_lastKeyOf (by simp [lg_sl, rt_cat, cat_i, cat_l]) rfl (l := [(0, va_rf a0), (1, .int a1)]) (by simp [lv_args, rt_cat, cat_i, cat_l]) (rX5_lastKeyOf_0 (by omega) hf)
noncomputable def bX5_takeInParts_85 (E : ah_E) (k2 : Option Nat → Option Nat → Int32 → ah_H → Option ah_H) (a0 : Option Nat) (a1 : Option Nat) (a2 : Int32) (h : ah_H) : Option ah_H :=
  k2 a0 a1 (a2 + 1) h
set_option maxRecDepth 20000 in
set_option maxHeartbeats 4000000 in
theorem rX5_takeInParts_85 {X : ah_X} {d : Nat} (hd : 6 ≤ d) {k2 : Option Nat → Option Nat → Int32 → ah_H → Option ah_H} (hk2 : ∀ (x0 : Option Nat) (x1 : Option Nat) (x2 : Int32) (h : ah_H) (h2 : ah_H), k2 x0 x1 x2 h = some h2 → Rt X yX5_takeInParts cX5_takeInParts 7 (d + 1) 2 [(0, va_rf x0), (1, va_rf x1), (2, .int x2)] [] h none h2) {a0 : Option Nat} {a1 : Option Nat} {a2 : Int32} {h : ah_H} {h2 : ah_H} (hf : bX5_takeInParts_85 X.2.2.2 k2 a0 a1 a2 h = some h2) : Rt X yX5_takeInParts cX5_takeInParts 7 (d + 1) 85 [(0, va_rf a0), (1, va_rf a1), (2, .int a2)] [] h none h2 := by
  unfold bX5_takeInParts_85 at hf
  refine rt_iinc (pc := 85) (i := 2) (n := 1) (x := a2) (v := (a2 + 1)) (l2 := [(2, .int (a2 + 1)), (0, va_rf a0), (1, va_rf a1)]) 2 rfl rfl (by decide) (by first | rfl | (simp [rt_cat, cat_i, cat_l]; done) | (simp [rt_cat, cat_i, cat_l]; decide)) dX5_takeInParts_85 ?_
  refine rt_goto (pc := 88) (tgt := 2) (by decide) dX5_takeInParts_88 ?_
  exact rt_locals (rt_sub [1, 2, 0] rfl) (hk2 _ _ _ _ _ hf)
noncomputable def bX5_takeInParts_2 (E : ah_E) : Nat → Option Nat → Option Nat → Int32 → ah_H → Option ah_H
  | 0 => fun _ _ _ _ => none
  | n + 1 => fun a0 a1 a2 h =>
  (hp_gr h a0 6 2).bind fun v1 =>
  ob2 (fJx4a65c_size_8abf5 E v1 h) fun v5 w4 =>
  if v5 ≤ a2 then
    some w4
  else
  (hp_gl w4 a1 5 2).bind fun v8 =>
  (hp_gr w4 a0 6 2).bind fun v10 =>
  ob2 (fJx4a65c_get_915e3 E v10 a2 w4) fun v14 w13 =>
  if hp_cls w13 v14 6 = false then none else
  (hp_gl w13 v14 6 0).bind fun v17 =>
  ob2 (fJ9_max_f86c9 E v8 v17 w13) fun v21 w20 =>
  (hp_gl w20 a1 5 3).bind fun v23 =>
  ob2 (fX5_lastKeyOf E a0 a2 w20) fun v27 w26 =>
  ob2 (fJ9_min_f86c9 E v23 v27 w26) fun v31 w30 =>
  if v31 < v21 then
    bX5_takeInParts_85 E (bX5_takeInParts_2 E n) a0 a1 a2 w30
  else
  (hp_gr w30 a0 6 3).bind fun v34 =>
  (hp_new w30 5 nf_5 6).bind fun w36 =>
  (hp_gi w36 a1 5 1).bind fun v38 =>
  (fX4_init E (some w30.1) (5 : Int32) v38 v21 v31 (some E.2.1) (some E.2.1) w36).bind fun w41 =>
  ob2 (fJx4a65c_add_9ea2d E v34 (some w30.1) w41) fun v45 w44 =>
  bX5_takeInParts_85 E (bX5_takeInParts_2 E n) a0 a1 a2 w44
set_option maxRecDepth 20000 in
set_option maxHeartbeats 4000000 in
theorem rX5_takeInParts_2 {X : ah_X} {d : Nat} (hd : 6 ≤ d) (n : Nat) : ∀ (a0 : Option Nat) (a1 : Option Nat) (a2 : Int32) (h : ah_H) (h2 : ah_H), bX5_takeInParts_2 X.2.2.2 n a0 a1 a2 h = some h2 → Rt X yX5_takeInParts cX5_takeInParts 7 (d + 1) 2 [(0, va_rf a0), (1, va_rf a1), (2, .int a2)] [] h none h2 := by
  induction n with
  | zero => intro a0 a1 a2 h h2 hf; cases hf
  | succ n ih =>
  intro a0 a1 a2 h h2 hf
  unfold bX5_takeInParts_2 at hf
  refine rt_iload_n (pc := 2) (k0 := 2) (x := a2) 2 rfl dX5_takeInParts_2 ?_
  refine rt_aload_n (pc := 3) (k0 := 0) (x := a0) 0 rfl dX5_takeInParts_3 ?_
  obtain ⟨v1, e2, hf⟩ := ob1 hf
  refine rt_gr (pc := 4) fd_X5_12 dX5_takeInParts_4 e2 ?_
  obtain ⟨v5, w4, e3, hf⟩ := ob2_of hf
  have g6 := sJx4a65c_size_8abf5 d (by omega) e3
  refine rt_callV (pc := 7) (As := []) (st := [.int a2]) me_Jx4a65c_size_8abf5 mi_Jx4a65c_size_8abf5 wl_X5_42 dX5_takeInParts_7 rfl (by simp [rt_cat, cat_i, cat_l]) rfl g6.1 g6.2 ?_
  by_cases c7 : v5 ≤ a2
  · rw [if_pos c7] at hf
    refine rt_icmp_ge_p (pc := 10) (x := a2) (z := v5) (tgt := 91) (by decide) dX5_takeInParts_10 c7 ?_
    cases hf
    exact rt_ret (pc := 91) dX5_takeInParts_91 rfl
  rw [if_neg c7] at hf
  refine rt_icmp_ge_n (pc := 10) (x := a2) (z := v5) (tgt := 91) (by decide) dX5_takeInParts_10 c7 ?_
  refine rt_aload_n (pc := 13) (k0 := 1) (x := a1) 1 rfl dX5_takeInParts_13 ?_
  obtain ⟨v8, e9, hf⟩ := ob1 hf
  refine rt_gl (pc := 14) fd_X5_89 dX5_takeInParts_14 e9 ?_
  refine rt_aload_n (pc := 17) (k0 := 0) (x := a0) 0 rfl dX5_takeInParts_17 ?_
  obtain ⟨v10, e11, hf⟩ := ob1 hf
  refine rt_gr (pc := 18) fd_X5_12 dX5_takeInParts_18 e11 ?_
  refine rt_iload_n (pc := 21) (k0 := 2) (x := a2) 2 rfl dX5_takeInParts_21 ?_
  obtain ⟨v14, w13, e12, hf⟩ := ob2_of hf
  have g15 := sJx4a65c_get_915e3 d (by omega) e12
  refine rt_callV (pc := 22) (As := [.int a2]) (st := [.long v8]) me_Jx4a65c_get_915e3 mi_Jx4a65c_get_915e3 wl_X5_60 dX5_takeInParts_22 rfl (by simp [rt_cat, cat_i, cat_l]) rfl g15.1 g15.2 ?_
  by_cases c16 : hp_cls w13 v14 6 = false
  · rw [if_pos c16] at hf; cases hf
  rw [if_neg c16] at hf
  refine rt_cast (pc := 25) (x := v14) (show vwCl[6]? = some (RX5, TX5, 5) from rfl) wc_X5_13 dX5_takeInParts_25 ((Bool.not_eq_false _).mp c16) ?_
  obtain ⟨v17, e18, hf⟩ := ob1 hf
  refine rt_gl (pc := 28) fd_X5_25 dX5_takeInParts_28 e18 ?_
  obtain ⟨v21, w20, e19, hf⟩ := ob2_of hf
  have g22 := sJ9_max_f86c9 d (by omega) e19
  refine rt_callS (pc := 31) (As := [.long v8, .long v17]) (st := []) me_J9_max_f86c9 ms_J9_max_f86c9 wl_X5_92 dX5_takeInParts_31 rfl (by decide) rfl g22 ?_
  refine rt_lstore_n (pc := 34) (k0 := 3) (x := v21) (l2 := [(3, .long v21), (0, va_rf a0), (1, va_rf a1), (2, .int a2)]) (by decide) (by first | rfl | (simp [rt_cat, cat_i, cat_l]; done) | (simp [rt_cat, cat_i, cat_l]; decide)) dX5_takeInParts_34 ?_
  refine rt_aload_n (pc := 35) (k0 := 1) (x := a1) 2 rfl dX5_takeInParts_35 ?_
  obtain ⟨v23, e24, hf⟩ := ob1 hf
  refine rt_gl (pc := 36) fd_X5_98 dX5_takeInParts_36 e24 ?_
  refine rt_aload_n (pc := 39) (k0 := 0) (x := a0) 1 rfl dX5_takeInParts_39 ?_
  refine rt_iload_n (pc := 40) (k0 := 2) (x := a2) 3 rfl dX5_takeInParts_40 ?_
  obtain ⟨v27, w26, e25, hf⟩ := ob2_of hf
  have g28 := sX5_lastKeyOf d (by omega) e25
  refine rt_callV (pc := 41) (As := [.int a2]) (st := [.long v23]) me_X5_lastKeyOf mi_X5_lastKeyOf wl_X5_101 dX5_takeInParts_41 rfl (by simp [rt_cat, cat_i, cat_l]) rfl g28.1 g28.2 ?_
  obtain ⟨v31, w30, e29, hf⟩ := ob2_of hf
  have g32 := sJ9_min_f86c9 d (by omega) e29
  refine rt_callS (pc := 44) (As := [.long v23, .long v27]) (st := []) me_J9_min_f86c9 ms_J9_min_f86c9 wl_X5_105 dX5_takeInParts_44 rfl (by decide) rfl g32 ?_
  refine rt_lstore (pc := 47) (i := 5) (x := v31) (l2 := [(5, .long v31), (3, .long v21), (0, va_rf a0), (1, va_rf a1), (2, .int a2)]) (by decide) (by first | rfl | (simp [rt_cat, cat_i, cat_l]; done) | (simp [rt_cat, cat_i, cat_l]; decide)) dX5_takeInParts_47 ?_
  refine rt_lload_n (pc := 49) (k0 := 3) (x := v21) 1 rfl dX5_takeInParts_49 ?_
  refine rt_lload (pc := 50) (i := 5) (x := v31) 0 rfl dX5_takeInParts_50 ?_
  by_cases c33 : v31 < v21
  · rw [if_pos c33] at hf
    refine rt_lif_gt_p (pc := 52) (x := v21) (z := v31) (tgt := 85) (by decide) dX5_takeInParts_52 dX5_takeInParts_53 c33 ?_
    exact rt_locals (rt_sub [2, 3, 4] rfl) (rX5_takeInParts_85 hd ih hf)
  rw [if_neg c33] at hf
  refine rt_lif_gt_n (pc := 52) (x := v21) (z := v31) (tgt := 85) (by decide) dX5_takeInParts_52 dX5_takeInParts_53 c33 ?_
  refine rt_aload_n (pc := 56) (k0 := 0) (x := a0) 2 rfl dX5_takeInParts_56 ?_
  obtain ⟨v34, e35, hf⟩ := ob1 hf
  refine rt_gr (pc := 57) fd_X5_18 dX5_takeInParts_57 e35 ?_
  obtain ⟨w36, e37, hf⟩ := ob1 hf
  refine rt_newB (pc := 60) nw_X5_64 dX5_takeInParts_60 e37 ?_
  refine rt_dup (pc := 63) (rt_cat _) dX5_takeInParts_63 ?_
  refine rt_iconst (pc := 64) (n := 5) (v := (5 : Int32)) (by decide) dX5_takeInParts_64 ?_
  refine rt_aload_n (pc := 65) (k0 := 1) (x := a1) 3 rfl dX5_takeInParts_65 ?_
  obtain ⟨v38, e39, hf⟩ := ob1 hf
  refine rt_gi (pc := 66) fd_X5_108 dX5_takeInParts_66 e39 ?_
  refine rt_lload_n (pc := 69) (k0 := 3) (x := v21) 1 rfl dX5_takeInParts_69 ?_
  refine rt_lload (pc := 70) (i := 5) (x := v31) 0 rfl dX5_takeInParts_70 ?_
  refine rt_getNn (pc := 72) wfn_X5_111 dX5_takeInParts_72 ?_
  refine rt_getNn (pc := 75) wfn_X5_111 dX5_takeInParts_75 ?_
  obtain ⟨w41, e40, hf⟩ := ob1 hf
  have g42 := sX4_init d (by omega) e40
  refine rt_callI (pc := 78) (As := [.int (5 : Int32), .int v38, .long v21, .long v31, va_rf (some X.2.2.2.2.1), va_rf (some X.2.2.2.2.1)]) (st := [va_rf (some w30.1), va_rf v34]) (ci := 5) me_X4_init mI_X4_init wl_X5_115 dX5_takeInParts_78 rfl (by simp [rt_cat, cat_i, cat_l]) rfl g42.1 g42.2 ?_
  obtain ⟨v45, w44, e43, hf⟩ := ob2_of hf
  have g46 := sJx4a65c_add_9ea2d d (by omega) e43
  refine rt_callV (pc := 81) (As := [va_rf (some w30.1)]) (st := []) me_Jx4a65c_add_9ea2d mi_Jx4a65c_add_9ea2d wl_X5_66 dX5_takeInParts_81 rfl (by decide) rfl g46.1 g46.2 ?_
  refine rt_pop (pc := 84) rfl dX5_takeInParts_84 ?_
  exact rt_locals (rt_sub [2, 3, 4] rfl) (rX5_takeInParts_85 hd ih hf)
noncomputable def bX5_takeInParts_0 (E : ah_E) (a0 : Option Nat) (a1 : Option Nat) (h : ah_H) : Option ah_H :=
  bX5_takeInParts_2 E zf a0 a1 (0 : Int32) h
set_option maxRecDepth 20000 in
set_option maxHeartbeats 4000000 in
theorem rX5_takeInParts_0 {X : ah_X} {d : Nat} (hd : 6 ≤ d) {a0 : Option Nat} {a1 : Option Nat} {h : ah_H} {h2 : ah_H} (hf : bX5_takeInParts_0 X.2.2.2 a0 a1 h = some h2) : Rt X yX5_takeInParts cX5_takeInParts 7 (d + 1) 0 [(0, va_rf a0), (1, va_rf a1)] [] h none h2 := by
  unfold bX5_takeInParts_0 at hf
  refine rt_iconst (pc := 0) (n := 0) (v := (0 : Int32)) (by decide) dX5_takeInParts_0 ?_
  refine rt_istore_n (pc := 1) (k0 := 2) (x := (0 : Int32)) (l2 := [(2, .int (0 : Int32)), (0, va_rf a0), (1, va_rf a1)]) (by decide) (by first | rfl | (simp [rt_cat, cat_i, cat_l]; done) | (simp [rt_cat, cat_i, cat_l]; decide)) dX5_takeInParts_1 ?_
  exact rt_locals (rt_sub [1, 2, 0] rfl) (rX5_takeInParts_2 hd zf _ _ _ _ _ hf)
noncomputable def fX5_takeInParts (E : ah_E) (a0 : Option Nat) (a1 : Option Nat) (h : ah_H) : Option ah_H := if hp_rcv h a0 6 = false then none else bX5_takeInParts_0 E a0 a1 h
set_option maxRecDepth 20000 in
set_option maxHeartbeats 4000000 in
theorem sX5_takeInParts {X : ah_X} (d : Nat) (hd : 7 ≤ d) {a0 : Option Nat} {a1 : Option Nat} {h : ah_H} {h2 : ah_H} (hf : fX5_takeInParts X.2.2.2 a0 a1 h = some h2) : hp_rcv h a0 6 = true ∧ Rn X yX5_takeInParts cX5_takeInParts 7 none d [va_rf a0, va_rf a1] h none h2 := by
  unfold fX5_takeInParts at hf
  by_cases c0 : hp_rcv h a0 6 = false
  · rw [if_pos c0] at hf; cases hf
  rw [if_neg c0] at hf
  refine ⟨(Bool.not_eq_false _).mp c0, ?_⟩
  obtain ⟨d, rfl⟩ : ∃ k, d = k + 1 := ⟨d - 1, by omega⟩
  exact Rn.of2 me_X5_takeInParts (by simp [lg_sl, rt_cat, cat_i, cat_l]) rfl (l := [(0, va_rf a0), (1, va_rf a1)]) (by simp [lv_args, rt_cat, cat_i, cat_l]) (rX5_takeInParts_0 (by omega) hf)
noncomputable def bX5_takeIn_63 (E : ah_E) (k2 : Option Nat → Option Nat → Int32 → ah_H → Option ah_H) (a0 : Option Nat) (a1 : Option Nat) (a2 : Int32) (h : ah_H) : Option ah_H :=
  k2 a0 a1 (a2 + 1) h
set_option maxRecDepth 20000 in
set_option maxHeartbeats 4000000 in
theorem rX5_takeIn_63 {X : ah_X} {d : Nat} (hd : 7 ≤ d) {k2 : Option Nat → Option Nat → Int32 → ah_H → Option ah_H} (hk2 : ∀ (x0 : Option Nat) (x1 : Option Nat) (x2 : Int32) (h : ah_H) (h2 : ah_H), k2 x0 x1 x2 h = some h2 → Rt X yX5_takeIn cX5_takeIn 4 (d + 1) 2 [(0, va_rf x0), (1, va_rf x1), (2, .int x2)] [] h none h2) {a0 : Option Nat} {a1 : Option Nat} {a2 : Int32} {h : ah_H} {h2 : ah_H} (hf : bX5_takeIn_63 X.2.2.2 k2 a0 a1 a2 h = some h2) : Rt X yX5_takeIn cX5_takeIn 4 (d + 1) 63 [(0, va_rf a0), (1, va_rf a1), (2, .int a2)] [] h none h2 := by
  unfold bX5_takeIn_63 at hf
  refine rt_iinc (pc := 63) (i := 2) (n := 1) (x := a2) (v := (a2 + 1)) (l2 := [(2, .int (a2 + 1)), (0, va_rf a0), (1, va_rf a1)]) 2 rfl rfl (by decide) (by first | rfl | (simp [rt_cat, cat_i, cat_l]; done) | (simp [rt_cat, cat_i, cat_l]; decide)) dX5_takeIn_63 ?_
  refine rt_goto (pc := 66) (tgt := 2) (by decide) dX5_takeIn_66 ?_
  exact rt_locals (rt_sub [1, 2, 0] rfl) (hk2 _ _ _ _ _ hf)
noncomputable def bX5_takeIn_2 (E : ah_E) : Nat → Option Nat → Option Nat → Int32 → ah_H → Option ah_H
  | 0 => fun _ _ _ _ => none
  | n + 1 => fun a0 a1 a2 h =>
  ob2 (fJx4a65c_size_8abf5 E a1 h) fun v3 w2 =>
  if v3 ≤ a2 then
    some w2
  else
  ob2 (fJx4a65c_get_915e3 E a1 a2 w2) fun v8 w7 =>
  if hp_cls w7 v8 5 = false then none else
  ob2 (fX5_isLeaf E a0 w7) fun v13 w12 =>
  if v13 = 0 then
    (hp_gi w12 v8 5 0).bind fun v16 =>
    if v16 = (5 : Int32) then
      (fX5_takeInParts E a0 v8 w12).bind fun w20 =>
      bX5_takeIn_63 E (bX5_takeIn_2 E n) a0 a1 a2 w20
    else
    (hp_gr w12 a0 6 3).bind fun v22 =>
    ob2 (fJx4a65c_add_9ea2d E v22 v8 w12) fun v26 w25 =>
    bX5_takeIn_63 E (bX5_takeIn_2 E n) a0 a1 a2 w25
  else
  (hp_gr w12 a0 6 1).bind fun v28 =>
  ob2 (fX1_act E v28 v8 w12) fun v32 w31 =>
  bX5_takeIn_63 E (bX5_takeIn_2 E n) a0 a1 a2 w31
set_option maxRecDepth 20000 in
set_option maxHeartbeats 4000000 in
theorem rX5_takeIn_2 {X : ah_X} {d : Nat} (hd : 7 ≤ d) (n : Nat) : ∀ (a0 : Option Nat) (a1 : Option Nat) (a2 : Int32) (h : ah_H) (h2 : ah_H), bX5_takeIn_2 X.2.2.2 n a0 a1 a2 h = some h2 → Rt X yX5_takeIn cX5_takeIn 4 (d + 1) 2 [(0, va_rf a0), (1, va_rf a1), (2, .int a2)] [] h none h2 := by
  induction n with
  | zero => intro a0 a1 a2 h h2 hf; cases hf
  | succ n ih =>
  intro a0 a1 a2 h h2 hf
  unfold bX5_takeIn_2 at hf
  refine rt_iload_n (pc := 2) (k0 := 2) (x := a2) 2 rfl dX5_takeIn_2 ?_
  refine rt_aload_n (pc := 3) (k0 := 1) (x := a1) 1 rfl dX5_takeIn_3 ?_
  obtain ⟨v3, w2, e1, hf⟩ := ob2_of hf
  have g4 := sJx4a65c_size_8abf5 d (by omega) e1
  refine rt_callV (pc := 4) (As := []) (st := [.int a2]) me_Jx4a65c_size_8abf5 mi_Jx4a65c_size_8abf5 wl_X5_42 dX5_takeIn_4 rfl (by simp [rt_cat, cat_i, cat_l]) rfl g4.1 g4.2 ?_
  by_cases c5 : v3 ≤ a2
  · rw [if_pos c5] at hf
    refine rt_icmp_ge_p (pc := 7) (x := a2) (z := v3) (tgt := 69) (by decide) dX5_takeIn_7 c5 ?_
    cases hf
    exact rt_ret (pc := 69) dX5_takeIn_69 rfl
  rw [if_neg c5] at hf
  refine rt_icmp_ge_n (pc := 7) (x := a2) (z := v3) (tgt := 69) (by decide) dX5_takeIn_7 c5 ?_
  refine rt_aload_n (pc := 10) (k0 := 1) (x := a1) 1 rfl dX5_takeIn_10 ?_
  refine rt_iload_n (pc := 11) (k0 := 2) (x := a2) 2 rfl dX5_takeIn_11 ?_
  obtain ⟨v8, w7, e6, hf⟩ := ob2_of hf
  have g9 := sJx4a65c_get_915e3 d (by omega) e6
  refine rt_callV (pc := 12) (As := [.int a2]) (st := []) me_Jx4a65c_get_915e3 mi_Jx4a65c_get_915e3 wl_X5_60 dX5_takeIn_12 rfl (by decide) rfl g9.1 g9.2 ?_
  by_cases c10 : hp_cls w7 v8 5 = false
  · rw [if_pos c10] at hf; cases hf
  rw [if_neg c10] at hf
  refine rt_cast (pc := 15) (x := v8) (show vwCl[5]? = some (RX4, TX4, 6) from rfl) wc_X5_64 dX5_takeIn_15 ((Bool.not_eq_false _).mp c10) ?_
  refine rt_astore_n (pc := 18) (k0 := 3) (x := v8) (l2 := [(3, va_rf v8), (0, va_rf a0), (1, va_rf a1), (2, .int a2)]) (by decide) (by first | rfl | (simp [rt_cat, cat_i, cat_l]; done) | (simp [rt_cat, cat_i, cat_l]; decide)) dX5_takeIn_18 ?_
  refine rt_aload_n (pc := 19) (k0 := 0) (x := a0) 1 rfl dX5_takeIn_19 ?_
  obtain ⟨v13, w12, e11, hf⟩ := ob2_of hf
  have g14 := sX5_isLeaf d (by omega) e11
  refine rt_callV (pc := 20) (As := []) (st := []) me_X5_isLeaf mi_X5_isLeaf wl_X5_49 dX5_takeIn_20 rfl (by decide) rfl g14.1 g14.2 ?_
  by_cases c15 : v13 = 0
  · rw [if_pos c15] at hf
    refine rt_if_eq_p (pc := 23) (x := v13) (tgt := 38) (by decide) dX5_takeIn_23 c15 ?_
    refine rt_aload_n (pc := 38) (k0 := 3) (x := v8) 0 rfl dX5_takeIn_38 ?_
    obtain ⟨v16, e17, hf⟩ := ob1 hf
    refine rt_gi (pc := 39) fd_X5_82 dX5_takeIn_39 e17 ?_
    refine rt_iconst (pc := 42) (n := 5) (v := (5 : Int32)) (by decide) dX5_takeIn_42 ?_
    by_cases c18 : v16 = (5 : Int32)
    · rw [if_pos c18] at hf
      refine rt_icmp_ne_p (pc := 43) (x := v16) (z := (5 : Int32)) (tgt := 54) (by decide) dX5_takeIn_43 c18 ?_
      refine rt_aload_n (pc := 46) (k0 := 0) (x := a0) 1 rfl dX5_takeIn_46 ?_
      refine rt_aload_n (pc := 47) (k0 := 3) (x := v8) 0 rfl dX5_takeIn_47 ?_
      obtain ⟨w20, e19, hf⟩ := ob1 hf
      have g21 := sX5_takeInParts d (by omega) e19
      refine rt_callV (pc := 48) (As := [va_rf v8]) (st := []) me_X5_takeInParts mi_X5_takeInParts wl_X5_85 dX5_takeIn_48 rfl (by decide) rfl g21.1 g21.2 ?_
      refine rt_goto (pc := 51) (tgt := 63) (by decide) dX5_takeIn_51 ?_
      exact rt_locals (rt_sub [1, 2, 3] rfl) (rX5_takeIn_63 hd ih hf)
    rw [if_neg c18] at hf
    refine rt_icmp_ne_n (pc := 43) (x := v16) (z := (5 : Int32)) (tgt := 54) (by decide) dX5_takeIn_43 c18 ?_
    refine rt_aload_n (pc := 54) (k0 := 0) (x := a0) 1 rfl dX5_takeIn_54 ?_
    obtain ⟨v22, e23, hf⟩ := ob1 hf
    refine rt_gr (pc := 55) fd_X5_18 dX5_takeIn_55 e23 ?_
    refine rt_aload_n (pc := 58) (k0 := 3) (x := v8) 0 rfl dX5_takeIn_58 ?_
    obtain ⟨v26, w25, e24, hf⟩ := ob2_of hf
    have g27 := sJx4a65c_add_9ea2d d (by omega) e24
    refine rt_callV (pc := 59) (As := [va_rf v8]) (st := []) me_Jx4a65c_add_9ea2d mi_Jx4a65c_add_9ea2d wl_X5_66 dX5_takeIn_59 rfl (by decide) rfl g27.1 g27.2 ?_
    refine rt_pop (pc := 62) rfl dX5_takeIn_62 ?_
    exact rt_locals (rt_sub [1, 2, 3] rfl) (rX5_takeIn_63 hd ih hf)
  rw [if_neg c15] at hf
  refine rt_if_eq_n (pc := 23) (x := v13) (tgt := 38) (by decide) dX5_takeIn_23 c15 ?_
  refine rt_aload_n (pc := 26) (k0 := 0) (x := a0) 1 rfl dX5_takeIn_26 ?_
  obtain ⟨v28, e29, hf⟩ := ob1 hf
  refine rt_gr (pc := 27) fd_X5_29 dX5_takeIn_27 e29 ?_
  refine rt_aload_n (pc := 30) (k0 := 3) (x := v8) 0 rfl dX5_takeIn_30 ?_
  obtain ⟨v32, w31, e30, hf⟩ := ob2_of hf
  have g33 := sX1_act d (by omega) e30
  refine rt_callV (pc := 31) (As := [va_rf v8]) (st := []) me_X1_act mi_X1_act wl_X5_78 dX5_takeIn_31 rfl (by decide) rfl g33.1 g33.2 ?_
  refine rt_pop (pc := 34) rfl dX5_takeIn_34 ?_
  refine rt_goto (pc := 35) (tgt := 63) (by decide) dX5_takeIn_35 ?_
  exact rt_locals (rt_sub [1, 2, 3] rfl) (rX5_takeIn_63 hd ih hf)
noncomputable def bX5_takeIn_0 (E : ah_E) (a0 : Option Nat) (a1 : Option Nat) (h : ah_H) : Option ah_H :=
  bX5_takeIn_2 E zf a0 a1 (0 : Int32) h
set_option maxRecDepth 20000 in
set_option maxHeartbeats 4000000 in
theorem rX5_takeIn_0 {X : ah_X} {d : Nat} (hd : 7 ≤ d) {a0 : Option Nat} {a1 : Option Nat} {h : ah_H} {h2 : ah_H} (hf : bX5_takeIn_0 X.2.2.2 a0 a1 h = some h2) : Rt X yX5_takeIn cX5_takeIn 4 (d + 1) 0 [(0, va_rf a0), (1, va_rf a1)] [] h none h2 := by
  unfold bX5_takeIn_0 at hf
  refine rt_iconst (pc := 0) (n := 0) (v := (0 : Int32)) (by decide) dX5_takeIn_0 ?_
  refine rt_istore_n (pc := 1) (k0 := 2) (x := (0 : Int32)) (l2 := [(2, .int (0 : Int32)), (0, va_rf a0), (1, va_rf a1)]) (by decide) (by first | rfl | (simp [rt_cat, cat_i, cat_l]; done) | (simp [rt_cat, cat_i, cat_l]; decide)) dX5_takeIn_1 ?_
  exact rt_locals (rt_sub [1, 2, 0] rfl) (rX5_takeIn_2 hd zf _ _ _ _ _ hf)
noncomputable def fX5_takeIn (E : ah_E) (a0 : Option Nat) (a1 : Option Nat) (h : ah_H) : Option ah_H := if hp_rcv h a0 6 = false then none else bX5_takeIn_0 E a0 a1 h
set_option maxRecDepth 20000 in
set_option maxHeartbeats 4000000 in
theorem sX5_takeIn {X : ah_X} (d : Nat) (hd : 8 ≤ d) {a0 : Option Nat} {a1 : Option Nat} {h : ah_H} {h2 : ah_H} (hf : fX5_takeIn X.2.2.2 a0 a1 h = some h2) : hp_rcv h a0 6 = true ∧ Rn X yX5_takeIn cX5_takeIn 4 none d [va_rf a0, va_rf a1] h none h2 := by
  unfold fX5_takeIn at hf
  by_cases c0 : hp_rcv h a0 6 = false
  · rw [if_pos c0] at hf; cases hf
  rw [if_neg c0] at hf
  refine ⟨(Bool.not_eq_false _).mp c0, ?_⟩
  obtain ⟨d, rfl⟩ : ∃ k, d = k + 1 := ⟨d - 1, by omega⟩
  exact Rn.of2 me_X5_takeIn (by simp [lg_sl, rt_cat, cat_i, cat_l]) rfl (l := [(0, va_rf a0), (1, va_rf a1)]) (by simp [lv_args, rt_cat, cat_i, cat_l]) (rX5_takeIn_0 (by omega) hf)
noncomputable def bX5_lettersFrom_52 (E : ah_E) (k6 : Option Nat → Int64 → Int64 → Int32 → Int32 → ah_H → Option (Int32 × ah_H)) (a0 : Option Nat) (a1 : Int64) (a3 : Int64) (a5 : Int32) (a6 : Int32) (h : ah_H) : Option (Int32 × ah_H) :=
  k6 a0 a1 a3 a5 (a6 + 1) h
set_option maxRecDepth 20000 in
set_option maxHeartbeats 4000000 in
theorem rX5_lettersFrom_52 {X : ah_X} {d : Nat} (hd : 2 ≤ d) {k6 : Option Nat → Int64 → Int64 → Int32 → Int32 → ah_H → Option (Int32 × ah_H)} (hk6 : ∀ (x0 : Option Nat) (x1 : Int64) (x2 : Int64) (x3 : Int32) (x4 : Int32) (h : ah_H) (r : Int32) (h2 : ah_H), k6 x0 x1 x2 x3 x4 h = some (r, h2) → Rt X yX5_lettersFrom cX5_lettersFrom 9 (d + 1) 6 [(0, va_rf x0), (1, .long x1), (3, .long x2), (5, .int x3), (6, .int x4)] [] h (some (.int r)) h2) {a0 : Option Nat} {a1 : Int64} {a3 : Int64} {a5 : Int32} {a6 : Int32} {h : ah_H} {r : Int32} {h2 : ah_H} (hf : bX5_lettersFrom_52 X.2.2.2 k6 a0 a1 a3 a5 a6 h = some (r, h2)) : Rt X yX5_lettersFrom cX5_lettersFrom 9 (d + 1) 52 [(0, va_rf a0), (1, .long a1), (3, .long a3), (5, .int a5), (6, .int a6)] [] h (some (.int r)) h2 := by
  unfold bX5_lettersFrom_52 at hf
  refine rt_iinc (pc := 52) (i := 6) (n := 1) (x := a6) (v := (a6 + 1)) (l2 := [(6, .int (a6 + 1)), (0, va_rf a0), (1, .long a1), (3, .long a3), (5, .int a5)]) 4 rfl rfl (by decide) (by first | rfl | (simp [rt_cat, cat_i, cat_l]; done) | (simp [rt_cat, cat_i, cat_l]; decide)) dX5_lettersFrom_52 ?_
  refine rt_goto (pc := 55) (tgt := 6) (by decide) dX5_lettersFrom_55 ?_
  exact rt_locals (rt_sub [1, 2, 3, 4, 0] rfl) (hk6 _ _ _ _ _ _ _ _ hf)
noncomputable def bX5_lettersFrom_6 (E : ah_E) : Nat → Option Nat → Int64 → Int64 → Int32 → Int32 → ah_H → Option (Int32 × ah_H)
  | 0 => fun _ _ _ _ _ _ => none
  | n + 1 => fun a0 a1 a3 a5 a6 h =>
  (hp_gr h a0 6 3).bind fun v1 =>
  ob2 (fJx4a65c_size_8abf5 E v1 h) fun v5 w4 =>
  if v5 ≤ a6 then
    some (a5, w4)
  else
  (hp_gr w4 a0 6 3).bind fun v8 =>
  ob2 (fJx4a65c_get_915e3 E v8 a6 w4) fun v12 w11 =>
  if hp_cls w11 v12 5 = false then none else
  (hp_gl w11 v12 5 2).bind fun v15 =>
  if v15 < a1 then
    bX5_lettersFrom_52 E (bX5_lettersFrom_6 E n) a0 a1 a3 a5 a6 w11
  else
  if a3 < v15 then
    bX5_lettersFrom_52 E (bX5_lettersFrom_6 E n) a0 a1 a3 a5 a6 w11
  else
  bX5_lettersFrom_52 E (bX5_lettersFrom_6 E n) a0 a1 a3 (a5 + 1) a6 w11
set_option maxRecDepth 20000 in
set_option maxHeartbeats 4000000 in
theorem rX5_lettersFrom_6 {X : ah_X} {d : Nat} (hd : 2 ≤ d) (n : Nat) : ∀ (a0 : Option Nat) (a1 : Int64) (a3 : Int64) (a5 : Int32) (a6 : Int32) (h : ah_H) (r : Int32) (h2 : ah_H), bX5_lettersFrom_6 X.2.2.2 n a0 a1 a3 a5 a6 h = some (r, h2) → Rt X yX5_lettersFrom cX5_lettersFrom 9 (d + 1) 6 [(0, va_rf a0), (1, .long a1), (3, .long a3), (5, .int a5), (6, .int a6)] [] h (some (.int r)) h2 := by
  induction n with
  | zero => intro a0 a1 a3 a5 a6 h r h2 hf; cases hf
  | succ n ih =>
  intro a0 a1 a3 a5 a6 h r h2 hf
  unfold bX5_lettersFrom_6 at hf
  refine rt_iload (pc := 6) (i := 6) (x := a6) 4 rfl dX5_lettersFrom_6 ?_
  refine rt_aload_n (pc := 8) (k0 := 0) (x := a0) 0 rfl dX5_lettersFrom_8 ?_
  obtain ⟨v1, e2, hf⟩ := ob1 hf
  refine rt_gr (pc := 9) fd_X5_18 dX5_lettersFrom_9 e2 ?_
  obtain ⟨v5, w4, e3, hf⟩ := ob2_of hf
  have g6 := sJx4a65c_size_8abf5 d (by omega) e3
  refine rt_callV (pc := 12) (As := []) (st := [.int a6]) me_Jx4a65c_size_8abf5 mi_Jx4a65c_size_8abf5 wl_X5_42 dX5_lettersFrom_12 rfl (by simp [rt_cat, cat_i, cat_l]) rfl g6.1 g6.2 ?_
  by_cases c7 : v5 ≤ a6
  · rw [if_pos c7] at hf
    refine rt_icmp_ge_p (pc := 15) (x := a6) (z := v5) (tgt := 58) (by decide) dX5_lettersFrom_15 c7 ?_
    refine rt_iload (pc := 58) (i := 5) (x := a5) 3 rfl dX5_lettersFrom_58 ?_
    cases hf
    exact rt_ret (pc := 60) dX5_lettersFrom_60 rfl
  rw [if_neg c7] at hf
  refine rt_icmp_ge_n (pc := 15) (x := a6) (z := v5) (tgt := 58) (by decide) dX5_lettersFrom_15 c7 ?_
  refine rt_aload_n (pc := 18) (k0 := 0) (x := a0) 0 rfl dX5_lettersFrom_18 ?_
  obtain ⟨v8, e9, hf⟩ := ob1 hf
  refine rt_gr (pc := 19) fd_X5_18 dX5_lettersFrom_19 e9 ?_
  refine rt_iload (pc := 22) (i := 6) (x := a6) 4 rfl dX5_lettersFrom_22 ?_
  obtain ⟨v12, w11, e10, hf⟩ := ob2_of hf
  have g13 := sJx4a65c_get_915e3 d (by omega) e10
  refine rt_callV (pc := 24) (As := [.int a6]) (st := []) me_Jx4a65c_get_915e3 mi_Jx4a65c_get_915e3 wl_X5_60 dX5_lettersFrom_24 rfl (by decide) rfl g13.1 g13.2 ?_
  by_cases c14 : hp_cls w11 v12 5 = false
  · rw [if_pos c14] at hf; cases hf
  rw [if_neg c14] at hf
  refine rt_cast (pc := 27) (x := v12) (show vwCl[5]? = some (RX4, TX4, 6) from rfl) wc_X5_64 dX5_lettersFrom_27 ((Bool.not_eq_false _).mp c14) ?_
  obtain ⟨v15, e16, hf⟩ := ob1 hf
  refine rt_gl (pc := 30) fd_X5_89 dX5_lettersFrom_30 e16 ?_
  refine rt_lstore (pc := 33) (i := 7) (x := v15) (l2 := [(7, .long v15), (0, va_rf a0), (1, .long a1), (3, .long a3), (5, .int a5), (6, .int a6)]) (by decide) (by first | rfl | (simp [rt_cat, cat_i, cat_l]; done) | (simp [rt_cat, cat_i, cat_l]; decide)) dX5_lettersFrom_33 ?_
  refine rt_lload_n (pc := 35) (k0 := 1) (x := a1) 2 rfl dX5_lettersFrom_35 ?_
  refine rt_lload (pc := 36) (i := 7) (x := v15) 0 rfl dX5_lettersFrom_36 ?_
  by_cases c17 : v15 < a1
  · rw [if_pos c17] at hf
    refine rt_lif_gt_p (pc := 38) (x := a1) (z := v15) (tgt := 52) (by decide) dX5_lettersFrom_38 dX5_lettersFrom_39 c17 ?_
    exact rt_locals (rt_sub [1, 2, 3, 4, 5] rfl) (rX5_lettersFrom_52 hd ih hf)
  rw [if_neg c17] at hf
  refine rt_lif_gt_n (pc := 38) (x := a1) (z := v15) (tgt := 52) (by decide) dX5_lettersFrom_38 dX5_lettersFrom_39 c17 ?_
  refine rt_lload (pc := 42) (i := 7) (x := v15) 0 rfl dX5_lettersFrom_42 ?_
  refine rt_lload_n (pc := 44) (k0 := 3) (x := a3) 3 rfl dX5_lettersFrom_44 ?_
  by_cases c18 : a3 < v15
  · rw [if_pos c18] at hf
    refine rt_lif_gt_p (pc := 45) (x := v15) (z := a3) (tgt := 52) (by decide) dX5_lettersFrom_45 dX5_lettersFrom_46 c18 ?_
    exact rt_locals (rt_sub [1, 2, 3, 4, 5] rfl) (rX5_lettersFrom_52 hd ih hf)
  rw [if_neg c18] at hf
  refine rt_lif_gt_n (pc := 45) (x := v15) (z := a3) (tgt := 52) (by decide) dX5_lettersFrom_45 dX5_lettersFrom_46 c18 ?_
  refine rt_iinc (pc := 49) (i := 5) (n := 1) (x := a5) (v := (a5 + 1)) (l2 := [(5, .int (a5 + 1)), (7, .long v15), (0, va_rf a0), (1, .long a1), (3, .long a3), (6, .int a6)]) 4 rfl rfl (by decide) (by first | rfl | (simp [rt_cat, cat_i, cat_l]; done) | (simp [rt_cat, cat_i, cat_l]; decide)) dX5_lettersFrom_49 ?_
  exact rt_locals (rt_sub [2, 3, 4, 0, 5] rfl) (rX5_lettersFrom_52 hd ih hf)
noncomputable def bX5_lettersFrom_0 (E : ah_E) (a0 : Option Nat) (a1 : Int64) (a3 : Int64) (h : ah_H) : Option (Int32 × ah_H) :=
  bX5_lettersFrom_6 E zf a0 a1 a3 (0 : Int32) (0 : Int32) h
set_option maxRecDepth 20000 in
set_option maxHeartbeats 4000000 in
theorem rX5_lettersFrom_0 {X : ah_X} {d : Nat} (hd : 2 ≤ d) {a0 : Option Nat} {a1 : Int64} {a3 : Int64} {h : ah_H} {r : Int32} {h2 : ah_H} (hf : bX5_lettersFrom_0 X.2.2.2 a0 a1 a3 h = some (r, h2)) : Rt X yX5_lettersFrom cX5_lettersFrom 9 (d + 1) 0 [(0, va_rf a0), (1, .long a1), (3, .long a3)] [] h (some (.int r)) h2 := by
  unfold bX5_lettersFrom_0 at hf
  refine rt_iconst (pc := 0) (n := 0) (v := (0 : Int32)) (by decide) dX5_lettersFrom_0 ?_
  refine rt_istore (pc := 1) (i := 5) (x := (0 : Int32)) (l2 := [(5, .int (0 : Int32)), (0, va_rf a0), (1, .long a1), (3, .long a3)]) (by decide) (by first | rfl | (simp [rt_cat, cat_i, cat_l]; done) | (simp [rt_cat, cat_i, cat_l]; decide)) dX5_lettersFrom_1 ?_
  refine rt_iconst (pc := 3) (n := 0) (v := (0 : Int32)) (by decide) dX5_lettersFrom_3 ?_
  refine rt_istore (pc := 4) (i := 6) (x := (0 : Int32)) (l2 := [(6, .int (0 : Int32)), (5, .int (0 : Int32)), (0, va_rf a0), (1, .long a1), (3, .long a3)]) (by decide) (by first | rfl | (simp [rt_cat, cat_i, cat_l]; done) | (simp [rt_cat, cat_i, cat_l]; decide)) dX5_lettersFrom_4 ?_
  exact rt_locals (rt_sub [2, 3, 4, 1, 0] rfl) (rX5_lettersFrom_6 hd zf _ _ _ _ _ _ _ _ hf)
noncomputable def fX5_lettersFrom (E : ah_E) (a0 : Option Nat) (a1 : Int64) (a3 : Int64) (h : ah_H) : Option (Int32 × ah_H) := if hp_rcv h a0 6 = false then none else bX5_lettersFrom_0 E a0 a1 a3 h
set_option maxRecDepth 20000 in
set_option maxHeartbeats 4000000 in
theorem sX5_lettersFrom {X : ah_X} (d : Nat) (hd : 3 ≤ d) {a0 : Option Nat} {a1 : Int64} {a3 : Int64} {h : ah_H} {r : Int32} {h2 : ah_H} (hf : fX5_lettersFrom X.2.2.2 a0 a1 a3 h = some (r, h2)) : hp_rcv h a0 6 = true ∧ Rn X yX5_lettersFrom cX5_lettersFrom 9 (some .int) d [va_rf a0, .long a1, .long a3] h (some (.int r)) h2 := by
  unfold fX5_lettersFrom at hf
  by_cases c0 : hp_rcv h a0 6 = false
  · rw [if_pos c0] at hf; cases hf
  rw [if_neg c0] at hf
  refine ⟨(Bool.not_eq_false _).mp c0, ?_⟩
  obtain ⟨d, rfl⟩ : ∃ k, d = k + 1 := ⟨d - 1, by omega⟩
  exact Rn.of2 me_X5_lettersFrom (by simp [lg_sl, rt_cat, cat_i, cat_l]) (ok_i _) (l := [(0, va_rf a0), (1, .long a1), (3, .long a3)]) (by simp [lv_args, rt_cat, cat_i, cat_l]) (rX5_lettersFrom_0 (by omega) hf)
noncomputable def bX5_fullestKid_53 (E : ah_E) (k6 : Option Nat → Int32 → Int32 → Int32 → ah_H → Option (Int32 × ah_H)) (a0 : Option Nat) (a1 : Int32) (a2 : Int32) (a3 : Int32) (h : ah_H) : Option (Int32 × ah_H) :=
  k6 a0 a1 a2 (a3 + 1) h
set_option maxRecDepth 20000 in
set_option maxHeartbeats 4000000 in
theorem rX5_fullestKid_53 {X : ah_X} {d : Nat} (hd : 3 ≤ d) {k6 : Option Nat → Int32 → Int32 → Int32 → ah_H → Option (Int32 × ah_H)} (hk6 : ∀ (x0 : Option Nat) (x1 : Int32) (x2 : Int32) (x3 : Int32) (h : ah_H) (r : Int32) (h2 : ah_H), k6 x0 x1 x2 x3 h = some (r, h2) → Rt X yX5_fullestKid cX5_fullestKid 5 (d + 1) 6 [(0, va_rf x0), (1, .int x1), (2, .int x2), (3, .int x3)] [] h (some (.int r)) h2) {a0 : Option Nat} {a1 : Int32} {a2 : Int32} {a3 : Int32} {h : ah_H} {r : Int32} {h2 : ah_H} (hf : bX5_fullestKid_53 X.2.2.2 k6 a0 a1 a2 a3 h = some (r, h2)) : Rt X yX5_fullestKid cX5_fullestKid 5 (d + 1) 53 [(0, va_rf a0), (1, .int a1), (2, .int a2), (3, .int a3)] [] h (some (.int r)) h2 := by
  unfold bX5_fullestKid_53 at hf
  refine rt_iinc (pc := 53) (i := 3) (n := 1) (x := a3) (v := (a3 + 1)) (l2 := [(3, .int (a3 + 1)), (0, va_rf a0), (1, .int a1), (2, .int a2)]) 3 rfl rfl (by decide) (by first | rfl | (simp [rt_cat, cat_i, cat_l]; done) | (simp [rt_cat, cat_i, cat_l]; decide)) dX5_fullestKid_53 ?_
  refine rt_goto (pc := 56) (tgt := 6) (by decide) dX5_fullestKid_56 ?_
  exact rt_locals (rt_sub [1, 2, 3, 0] rfl) (hk6 _ _ _ _ _ _ _ hf)
noncomputable def bX5_fullestKid_6 (E : ah_E) : Nat → Option Nat → Int32 → Int32 → Int32 → ah_H → Option (Int32 × ah_H)
  | 0 => fun _ _ _ _ _ => none
  | n + 1 => fun a0 a1 a2 a3 h =>
  (hp_gr h a0 6 2).bind fun v1 =>
  ob2 (fJx4a65c_size_8abf5 E v1 h) fun v5 w4 =>
  if v5 ≤ a3 then
    some (a1, w4)
  else
  (hp_gr w4 a0 6 2).bind fun v8 =>
  ob2 (fJx4a65c_get_915e3 E v8 a3 w4) fun v12 w11 =>
  if hp_cls w11 v12 6 = false then none else
  (hp_gl w11 v12 6 0).bind fun v15 =>
  ob2 (fX5_lastKeyOf E a0 a3 w11) fun v19 w18 =>
  ob2 (fX5_lettersFrom E a0 v15 v19 w18) fun v23 w22 =>
  if v23 ≤ a2 then
    bX5_fullestKid_53 E (bX5_fullestKid_6 E n) a0 a1 a2 a3 w22
  else
  bX5_fullestKid_53 E (bX5_fullestKid_6 E n) a0 a3 v23 a3 w22
set_option maxRecDepth 20000 in
set_option maxHeartbeats 4000000 in
theorem rX5_fullestKid_6 {X : ah_X} {d : Nat} (hd : 3 ≤ d) (n : Nat) : ∀ (a0 : Option Nat) (a1 : Int32) (a2 : Int32) (a3 : Int32) (h : ah_H) (r : Int32) (h2 : ah_H), bX5_fullestKid_6 X.2.2.2 n a0 a1 a2 a3 h = some (r, h2) → Rt X yX5_fullestKid cX5_fullestKid 5 (d + 1) 6 [(0, va_rf a0), (1, .int a1), (2, .int a2), (3, .int a3)] [] h (some (.int r)) h2 := by
  induction n with
  | zero => intro a0 a1 a2 a3 h r h2 hf; cases hf
  | succ n ih =>
  intro a0 a1 a2 a3 h r h2 hf
  unfold bX5_fullestKid_6 at hf
  refine rt_iload_n (pc := 6) (k0 := 3) (x := a3) 3 rfl dX5_fullestKid_6 ?_
  refine rt_aload_n (pc := 7) (k0 := 0) (x := a0) 0 rfl dX5_fullestKid_7 ?_
  obtain ⟨v1, e2, hf⟩ := ob1 hf
  refine rt_gr (pc := 8) fd_X5_12 dX5_fullestKid_8 e2 ?_
  obtain ⟨v5, w4, e3, hf⟩ := ob2_of hf
  have g6 := sJx4a65c_size_8abf5 d (by omega) e3
  refine rt_callV (pc := 11) (As := []) (st := [.int a3]) me_Jx4a65c_size_8abf5 mi_Jx4a65c_size_8abf5 wl_X5_42 dX5_fullestKid_11 rfl (by simp [rt_cat, cat_i, cat_l]) rfl g6.1 g6.2 ?_
  by_cases c7 : v5 ≤ a3
  · rw [if_pos c7] at hf
    refine rt_icmp_ge_p (pc := 14) (x := a3) (z := v5) (tgt := 59) (by decide) dX5_fullestKid_14 c7 ?_
    refine rt_iload_n (pc := 59) (k0 := 1) (x := a1) 1 rfl dX5_fullestKid_59 ?_
    cases hf
    exact rt_ret (pc := 60) dX5_fullestKid_60 rfl
  rw [if_neg c7] at hf
  refine rt_icmp_ge_n (pc := 14) (x := a3) (z := v5) (tgt := 59) (by decide) dX5_fullestKid_14 c7 ?_
  refine rt_aload_n (pc := 17) (k0 := 0) (x := a0) 0 rfl dX5_fullestKid_17 ?_
  refine rt_aload_n (pc := 18) (k0 := 0) (x := a0) 0 rfl dX5_fullestKid_18 ?_
  obtain ⟨v8, e9, hf⟩ := ob1 hf
  refine rt_gr (pc := 19) fd_X5_12 dX5_fullestKid_19 e9 ?_
  refine rt_iload_n (pc := 22) (k0 := 3) (x := a3) 3 rfl dX5_fullestKid_22 ?_
  obtain ⟨v12, w11, e10, hf⟩ := ob2_of hf
  have g13 := sJx4a65c_get_915e3 d (by omega) e10
  refine rt_callV (pc := 23) (As := [.int a3]) (st := [va_rf a0]) me_Jx4a65c_get_915e3 mi_Jx4a65c_get_915e3 wl_X5_60 dX5_fullestKid_23 rfl (by simp [rt_cat, cat_i, cat_l]) rfl g13.1 g13.2 ?_
  by_cases c14 : hp_cls w11 v12 6 = false
  · rw [if_pos c14] at hf; cases hf
  rw [if_neg c14] at hf
  refine rt_cast (pc := 26) (x := v12) (show vwCl[6]? = some (RX5, TX5, 5) from rfl) wc_X5_13 dX5_fullestKid_26 ((Bool.not_eq_false _).mp c14) ?_
  obtain ⟨v15, e16, hf⟩ := ob1 hf
  refine rt_gl (pc := 29) fd_X5_25 dX5_fullestKid_29 e16 ?_
  refine rt_aload_n (pc := 32) (k0 := 0) (x := a0) 0 rfl dX5_fullestKid_32 ?_
  refine rt_iload_n (pc := 33) (k0 := 3) (x := a3) 3 rfl dX5_fullestKid_33 ?_
  obtain ⟨v19, w18, e17, hf⟩ := ob2_of hf
  have g20 := sX5_lastKeyOf d (by omega) e17
  refine rt_callV (pc := 34) (As := [.int a3]) (st := [.long v15, va_rf a0]) me_X5_lastKeyOf mi_X5_lastKeyOf wl_X5_101 dX5_fullestKid_34 rfl (by simp [rt_cat, cat_i, cat_l]) rfl g20.1 g20.2 ?_
  obtain ⟨v23, w22, e21, hf⟩ := ob2_of hf
  have g24 := sX5_lettersFrom d (by omega) e21
  refine rt_callV (pc := 37) (As := [.long v15, .long v19]) (st := []) me_X5_lettersFrom mi_X5_lettersFrom wl_X5_118 dX5_fullestKid_37 rfl (by decide) rfl g24.1 g24.2 ?_
  refine rt_istore (pc := 40) (i := 4) (x := v23) (l2 := [(4, .int v23), (0, va_rf a0), (1, .int a1), (2, .int a2), (3, .int a3)]) (by decide) (by first | rfl | (simp [rt_cat, cat_i, cat_l]; done) | (simp [rt_cat, cat_i, cat_l]; decide)) dX5_fullestKid_40 ?_
  refine rt_iload (pc := 42) (i := 4) (x := v23) 0 rfl dX5_fullestKid_42 ?_
  refine rt_iload_n (pc := 44) (k0 := 2) (x := a2) 3 rfl dX5_fullestKid_44 ?_
  by_cases c25 : v23 ≤ a2
  · rw [if_pos c25] at hf
    refine rt_icmp_le_p (pc := 45) (x := v23) (z := a2) (tgt := 53) (by decide) dX5_fullestKid_45 c25 ?_
    exact rt_locals (rt_sub [1, 2, 3, 4] rfl) (rX5_fullestKid_53 hd ih hf)
  rw [if_neg c25] at hf
  refine rt_icmp_le_n (pc := 45) (x := v23) (z := a2) (tgt := 53) (by decide) dX5_fullestKid_45 c25 ?_
  refine rt_iload (pc := 48) (i := 4) (x := v23) 0 rfl dX5_fullestKid_48 ?_
  refine rt_istore_n (pc := 50) (k0 := 2) (x := v23) (l2 := [(2, .int v23), (4, .int v23), (0, va_rf a0), (1, .int a1), (3, .int a3)]) (by decide) (by first | rfl | (simp [rt_cat, cat_i, cat_l]; done) | (simp [rt_cat, cat_i, cat_l]; decide)) dX5_fullestKid_50 ?_
  refine rt_iload_n (pc := 51) (k0 := 3) (x := a3) 4 rfl dX5_fullestKid_51 ?_
  refine rt_istore_n (pc := 52) (k0 := 1) (x := a3) (l2 := [(1, .int a3), (2, .int v23), (4, .int v23), (0, va_rf a0), (3, .int a3)]) (by decide) (by first | rfl | (simp [rt_cat, cat_i, cat_l]; done) | (simp [rt_cat, cat_i, cat_l]; decide)) dX5_fullestKid_52 ?_
  exact rt_locals (rt_sub [3, 0, 1, 4] rfl) (rX5_fullestKid_53 hd ih hf)
noncomputable def bX5_fullestKid_0 (E : ah_E) (a0 : Option Nat) (h : ah_H) : Option (Int32 × ah_H) :=
  bX5_fullestKid_6 E zf a0 (0 : Int32) (0 : Int32) (0 : Int32) h
set_option maxRecDepth 20000 in
set_option maxHeartbeats 4000000 in
theorem rX5_fullestKid_0 {X : ah_X} {d : Nat} (hd : 3 ≤ d) {a0 : Option Nat} {h : ah_H} {r : Int32} {h2 : ah_H} (hf : bX5_fullestKid_0 X.2.2.2 a0 h = some (r, h2)) : Rt X yX5_fullestKid cX5_fullestKid 5 (d + 1) 0 [(0, va_rf a0)] [] h (some (.int r)) h2 := by
  unfold bX5_fullestKid_0 at hf
  refine rt_iconst (pc := 0) (n := 0) (v := (0 : Int32)) (by decide) dX5_fullestKid_0 ?_
  refine rt_istore_n (pc := 1) (k0 := 1) (x := (0 : Int32)) (l2 := [(1, .int (0 : Int32)), (0, va_rf a0)]) (by decide) (by first | rfl | (simp [rt_cat, cat_i, cat_l]; done) | (simp [rt_cat, cat_i, cat_l]; decide)) dX5_fullestKid_1 ?_
  refine rt_iconst (pc := 2) (n := 0) (v := (0 : Int32)) (by decide) dX5_fullestKid_2 ?_
  refine rt_istore_n (pc := 3) (k0 := 2) (x := (0 : Int32)) (l2 := [(2, .int (0 : Int32)), (1, .int (0 : Int32)), (0, va_rf a0)]) (by decide) (by first | rfl | (simp [rt_cat, cat_i, cat_l]; done) | (simp [rt_cat, cat_i, cat_l]; decide)) dX5_fullestKid_3 ?_
  refine rt_iconst (pc := 4) (n := 0) (v := (0 : Int32)) (by decide) dX5_fullestKid_4 ?_
  refine rt_istore_n (pc := 5) (k0 := 3) (x := (0 : Int32)) (l2 := [(3, .int (0 : Int32)), (2, .int (0 : Int32)), (1, .int (0 : Int32)), (0, va_rf a0)]) (by decide) (by first | rfl | (simp [rt_cat, cat_i, cat_l]; done) | (simp [rt_cat, cat_i, cat_l]; decide)) dX5_fullestKid_5 ?_
  exact rt_locals (rt_sub [3, 2, 1, 0] rfl) (rX5_fullestKid_6 hd zf _ _ _ _ _ _ _ hf)
noncomputable def fX5_fullestKid (E : ah_E) (a0 : Option Nat) (h : ah_H) : Option (Int32 × ah_H) := if hp_rcv h a0 6 = false then none else bX5_fullestKid_0 E a0 h
set_option maxRecDepth 20000 in
set_option maxHeartbeats 4000000 in
theorem sX5_fullestKid {X : ah_X} (d : Nat) (hd : 4 ≤ d) {a0 : Option Nat} {h : ah_H} {r : Int32} {h2 : ah_H} (hf : fX5_fullestKid X.2.2.2 a0 h = some (r, h2)) : hp_rcv h a0 6 = true ∧ Rn X yX5_fullestKid cX5_fullestKid 5 (some .int) d [va_rf a0] h (some (.int r)) h2 := by
  unfold fX5_fullestKid at hf
  by_cases c0 : hp_rcv h a0 6 = false
  · rw [if_pos c0] at hf; cases hf
  rw [if_neg c0] at hf
  refine ⟨(Bool.not_eq_false _).mp c0, ?_⟩
  obtain ⟨d, rfl⟩ : ∃ k, d = k + 1 := ⟨d - 1, by omega⟩
  exact Rn.of2 me_X5_fullestKid (by simp [lg_sl, rt_cat, cat_i, cat_l]) (ok_i _) (l := [(0, va_rf a0)]) (by simp [lv_args, rt_cat, cat_i, cat_l]) (rX5_fullestKid_0 (by omega) hf)
noncomputable def bX5_moveLetters_77 (E : ah_E) (k12 : Option Nat → Int64 → Int64 → Option Nat → Option Nat → Int32 → ah_H → Option ah_H) (a0 : Option Nat) (a1 : Int64) (a3 : Int64) (a5 : Option Nat) (a6 : Option Nat) (a7 : Int32) (h : ah_H) : Option ah_H :=
  k12 a0 a1 a3 a5 a6 (a7 + 1) h
set_option maxRecDepth 20000 in
set_option maxHeartbeats 4000000 in
theorem rX5_moveLetters_77 {X : ah_X} {d : Nat} (hd : 6 ≤ d) {k12 : Option Nat → Int64 → Int64 → Option Nat → Option Nat → Int32 → ah_H → Option ah_H} (hk12 : ∀ (x0 : Option Nat) (x1 : Int64) (x2 : Int64) (x3 : Option Nat) (x4 : Option Nat) (x5 : Int32) (h : ah_H) (h2 : ah_H), k12 x0 x1 x2 x3 x4 x5 h = some h2 → Rt X yX5_moveLetters cX5_moveLetters 9 (d + 1) 12 [(0, va_rf x0), (1, .long x1), (3, .long x2), (5, va_rf x3), (6, va_rf x4), (7, .int x5)] [] h none h2) {a0 : Option Nat} {a1 : Int64} {a3 : Int64} {a5 : Option Nat} {a6 : Option Nat} {a7 : Int32} {h : ah_H} {h2 : ah_H} (hf : bX5_moveLetters_77 X.2.2.2 k12 a0 a1 a3 a5 a6 a7 h = some h2) : Rt X yX5_moveLetters cX5_moveLetters 9 (d + 1) 77 [(0, va_rf a0), (1, .long a1), (3, .long a3), (5, va_rf a5), (6, va_rf a6), (7, .int a7)] [] h none h2 := by
  unfold bX5_moveLetters_77 at hf
  refine rt_iinc (pc := 77) (i := 7) (n := 1) (x := a7) (v := (a7 + 1)) (l2 := [(7, .int (a7 + 1)), (0, va_rf a0), (1, .long a1), (3, .long a3), (5, va_rf a5), (6, va_rf a6)]) 5 rfl rfl (by decide) (by first | rfl | (simp [rt_cat, cat_i, cat_l]; done) | (simp [rt_cat, cat_i, cat_l]; decide)) dX5_moveLetters_77 ?_
  refine rt_goto (pc := 80) (tgt := 12) (by decide) dX5_moveLetters_80 ?_
  exact rt_locals (rt_sub [1, 2, 3, 4, 5, 0] rfl) (hk12 _ _ _ _ _ _ _ _ hf)
noncomputable def bX5_moveLetters_69 (E : ah_E) (k12 : Option Nat → Int64 → Int64 → Option Nat → Option Nat → Int32 → ah_H → Option ah_H) (a0 : Option Nat) (a1 : Int64) (a3 : Int64) (a5 : Option Nat) (a6 : Option Nat) (a7 : Int32) (a8 : Option Nat) (h : ah_H) : Option ah_H :=
  ob2 (fJx4a65c_add_9ea2d E a6 a8 h) fun v3 w2 =>
  bX5_moveLetters_77 E k12 a0 a1 a3 a5 a6 a7 w2
set_option maxRecDepth 20000 in
set_option maxHeartbeats 4000000 in
theorem rX5_moveLetters_69 {X : ah_X} {d : Nat} (hd : 6 ≤ d) {k12 : Option Nat → Int64 → Int64 → Option Nat → Option Nat → Int32 → ah_H → Option ah_H} (hk12 : ∀ (x0 : Option Nat) (x1 : Int64) (x2 : Int64) (x3 : Option Nat) (x4 : Option Nat) (x5 : Int32) (h : ah_H) (h2 : ah_H), k12 x0 x1 x2 x3 x4 x5 h = some h2 → Rt X yX5_moveLetters cX5_moveLetters 9 (d + 1) 12 [(0, va_rf x0), (1, .long x1), (3, .long x2), (5, va_rf x3), (6, va_rf x4), (7, .int x5)] [] h none h2) {a0 : Option Nat} {a1 : Int64} {a3 : Int64} {a5 : Option Nat} {a6 : Option Nat} {a7 : Int32} {a8 : Option Nat} {h : ah_H} {h2 : ah_H} (hf : bX5_moveLetters_69 X.2.2.2 k12 a0 a1 a3 a5 a6 a7 a8 h = some h2) : Rt X yX5_moveLetters cX5_moveLetters 9 (d + 1) 69 [(0, va_rf a0), (1, .long a1), (3, .long a3), (5, va_rf a5), (6, va_rf a6), (7, .int a7), (8, va_rf a8)] [] h none h2 := by
  unfold bX5_moveLetters_69 at hf
  refine rt_aload (pc := 69) (i := 6) (x := a6) 4 rfl dX5_moveLetters_69 ?_
  refine rt_aload (pc := 71) (i := 8) (x := a8) 6 rfl dX5_moveLetters_71 ?_
  obtain ⟨v3, w2, e1, hf⟩ := ob2_of hf
  have g4 := sJx4a65c_add_9ea2d d (by omega) e1
  refine rt_callV (pc := 73) (As := [va_rf a8]) (st := []) me_Jx4a65c_add_9ea2d mi_Jx4a65c_add_9ea2d wl_X5_66 dX5_moveLetters_73 rfl (by decide) rfl g4.1 g4.2 ?_
  refine rt_pop (pc := 76) rfl dX5_moveLetters_76 ?_
  exact rt_locals (rt_sub [0, 1, 2, 3, 4, 5] rfl) (rX5_moveLetters_77 hd hk12 hf)
noncomputable def bX5_moveLetters_93 (E : ah_E) : Nat → Option Nat → Option Nat → Int32 → ah_H → Option ah_H
  | 0 => fun _ _ _ _ => none
  | n + 1 => fun a0 a6 a7 h =>
  ob2 (fJx4a65c_size_8abf5 E a6 h) fun v3 w2 =>
  if v3 ≤ a7 then
    some w2
  else
  (hp_gr w2 a0 6 3).bind fun v6 =>
  ob2 (fJx4a65c_get_915e3 E a6 a7 w2) fun v10 w9 =>
  if hp_cls w9 v10 5 = false then none else
  ob2 (fJx4a65c_add_9ea2d E v6 v10 w9) fun v15 w14 =>
  bX5_moveLetters_93 E n a0 a6 (a7 + 1) w14
set_option maxRecDepth 20000 in
set_option maxHeartbeats 4000000 in
theorem rX5_moveLetters_93 {X : ah_X} {d : Nat} (hd : 6 ≤ d) (n : Nat) : ∀ (a0 : Option Nat) (a6 : Option Nat) (a7 : Int32) (h : ah_H) (h2 : ah_H), bX5_moveLetters_93 X.2.2.2 n a0 a6 a7 h = some h2 → Rt X yX5_moveLetters cX5_moveLetters 9 (d + 1) 93 [(0, va_rf a0), (6, va_rf a6), (7, .int a7)] [] h none h2 := by
  induction n with
  | zero => intro a0 a6 a7 h h2 hf; cases hf
  | succ n ih =>
  intro a0 a6 a7 h h2 hf
  unfold bX5_moveLetters_93 at hf
  refine rt_iload (pc := 93) (i := 7) (x := a7) 2 rfl dX5_moveLetters_93 ?_
  refine rt_aload (pc := 95) (i := 6) (x := a6) 1 rfl dX5_moveLetters_95 ?_
  obtain ⟨v3, w2, e1, hf⟩ := ob2_of hf
  have g4 := sJx4a65c_size_8abf5 d (by omega) e1
  refine rt_callV (pc := 97) (As := []) (st := [.int a7]) me_Jx4a65c_size_8abf5 mi_Jx4a65c_size_8abf5 wl_X5_42 dX5_moveLetters_97 rfl (by simp [rt_cat, cat_i, cat_l]) rfl g4.1 g4.2 ?_
  by_cases c5 : v3 ≤ a7
  · rw [if_pos c5] at hf
    refine rt_icmp_ge_p (pc := 100) (x := a7) (z := v3) (tgt := 127) (by decide) dX5_moveLetters_100 c5 ?_
    cases hf
    exact rt_ret (pc := 127) dX5_moveLetters_127 rfl
  rw [if_neg c5] at hf
  refine rt_icmp_ge_n (pc := 100) (x := a7) (z := v3) (tgt := 127) (by decide) dX5_moveLetters_100 c5 ?_
  refine rt_aload_n (pc := 103) (k0 := 0) (x := a0) 0 rfl dX5_moveLetters_103 ?_
  obtain ⟨v6, e7, hf⟩ := ob1 hf
  refine rt_gr (pc := 104) fd_X5_18 dX5_moveLetters_104 e7 ?_
  refine rt_aload (pc := 107) (i := 6) (x := a6) 1 rfl dX5_moveLetters_107 ?_
  refine rt_iload (pc := 109) (i := 7) (x := a7) 2 rfl dX5_moveLetters_109 ?_
  obtain ⟨v10, w9, e8, hf⟩ := ob2_of hf
  have g11 := sJx4a65c_get_915e3 d (by omega) e8
  refine rt_callV (pc := 111) (As := [.int a7]) (st := [va_rf v6]) me_Jx4a65c_get_915e3 mi_Jx4a65c_get_915e3 wl_X5_60 dX5_moveLetters_111 rfl (by simp [rt_cat, cat_i, cat_l]) rfl g11.1 g11.2 ?_
  by_cases c12 : hp_cls w9 v10 5 = false
  · rw [if_pos c12] at hf; cases hf
  rw [if_neg c12] at hf
  refine rt_cast (pc := 114) (x := v10) (show vwCl[5]? = some (RX4, TX4, 6) from rfl) wc_X5_64 dX5_moveLetters_114 ((Bool.not_eq_false _).mp c12) ?_
  obtain ⟨v15, w14, e13, hf⟩ := ob2_of hf
  have g16 := sJx4a65c_add_9ea2d d (by omega) e13
  refine rt_callV (pc := 117) (As := [va_rf v10]) (st := []) me_Jx4a65c_add_9ea2d mi_Jx4a65c_add_9ea2d wl_X5_66 dX5_moveLetters_117 rfl (by decide) rfl g16.1 g16.2 ?_
  refine rt_pop (pc := 120) rfl dX5_moveLetters_120 ?_
  refine rt_iinc (pc := 121) (i := 7) (n := 1) (x := a7) (v := (a7 + 1)) (l2 := [(7, .int (a7 + 1)), (0, va_rf a0), (6, va_rf a6)]) 2 rfl rfl (by decide) (by first | rfl | (simp [rt_cat, cat_i, cat_l]; done) | (simp [rt_cat, cat_i, cat_l]; decide)) dX5_moveLetters_121 ?_
  refine rt_goto (pc := 124) (tgt := 93) (by decide) dX5_moveLetters_124 ?_
  exact rt_locals (rt_sub [1, 2, 0] rfl) (ih _ _ _ _ _ hf)
noncomputable def bX5_moveLetters_12 (E : ah_E) : Nat → Option Nat → Int64 → Int64 → Option Nat → Option Nat → Int32 → ah_H → Option ah_H
  | 0 => fun _ _ _ _ _ _ _ => none
  | n + 1 => fun a0 a1 a3 a5 a6 a7 h =>
  (hp_gr h a0 6 3).bind fun v1 =>
  ob2 (fJx4a65c_size_8abf5 E v1 h) fun v5 w4 =>
  if v5 ≤ a7 then
    (hp_gr w4 a0 6 3).bind fun v8 =>
    (fJx4a65c_clear_da8c8 E v8 w4).bind fun w11 =>
    bX5_moveLetters_93 E zf a0 a6 (0 : Int32) w11
  else
  (hp_gr w4 a0 6 3).bind fun v13 =>
  ob2 (fJx4a65c_get_915e3 E v13 a7 w4) fun v17 w16 =>
  if hp_cls w16 v17 5 = false then none else
  (hp_gl w16 v17 5 2).bind fun v20 =>
  if v20 < a1 then
    bX5_moveLetters_69 E (bX5_moveLetters_12 E n) a0 a1 a3 a5 a6 a7 v17 w16
  else
  (hp_gl w16 v17 5 2).bind fun v23 =>
  if a3 < v23 then
    bX5_moveLetters_69 E (bX5_moveLetters_12 E n) a0 a1 a3 a5 a6 a7 v17 w16
  else
  ob2 (fJx4a65c_add_9ea2d E a5 v17 w16) fun v28 w27 =>
  bX5_moveLetters_77 E (bX5_moveLetters_12 E n) a0 a1 a3 a5 a6 a7 w27
set_option maxRecDepth 20000 in
set_option maxHeartbeats 4000000 in
theorem rX5_moveLetters_12 {X : ah_X} {d : Nat} (hd : 6 ≤ d) (n : Nat) : ∀ (a0 : Option Nat) (a1 : Int64) (a3 : Int64) (a5 : Option Nat) (a6 : Option Nat) (a7 : Int32) (h : ah_H) (h2 : ah_H), bX5_moveLetters_12 X.2.2.2 n a0 a1 a3 a5 a6 a7 h = some h2 → Rt X yX5_moveLetters cX5_moveLetters 9 (d + 1) 12 [(0, va_rf a0), (1, .long a1), (3, .long a3), (5, va_rf a5), (6, va_rf a6), (7, .int a7)] [] h none h2 := by
  induction n with
  | zero => intro a0 a1 a3 a5 a6 a7 h h2 hf; cases hf
  | succ n ih =>
  intro a0 a1 a3 a5 a6 a7 h h2 hf
  unfold bX5_moveLetters_12 at hf
  refine rt_iload (pc := 12) (i := 7) (x := a7) 5 rfl dX5_moveLetters_12 ?_
  refine rt_aload_n (pc := 14) (k0 := 0) (x := a0) 0 rfl dX5_moveLetters_14 ?_
  obtain ⟨v1, e2, hf⟩ := ob1 hf
  refine rt_gr (pc := 15) fd_X5_18 dX5_moveLetters_15 e2 ?_
  obtain ⟨v5, w4, e3, hf⟩ := ob2_of hf
  have g6 := sJx4a65c_size_8abf5 d (by omega) e3
  refine rt_callV (pc := 18) (As := []) (st := [.int a7]) me_Jx4a65c_size_8abf5 mi_Jx4a65c_size_8abf5 wl_X5_42 dX5_moveLetters_18 rfl (by simp [rt_cat, cat_i, cat_l]) rfl g6.1 g6.2 ?_
  by_cases c7 : v5 ≤ a7
  · rw [if_pos c7] at hf
    refine rt_icmp_ge_p (pc := 21) (x := a7) (z := v5) (tgt := 83) (by decide) dX5_moveLetters_21 c7 ?_
    refine rt_aload_n (pc := 83) (k0 := 0) (x := a0) 0 rfl dX5_moveLetters_83 ?_
    obtain ⟨v8, e9, hf⟩ := ob1 hf
    refine rt_gr (pc := 84) fd_X5_18 dX5_moveLetters_84 e9 ?_
    obtain ⟨w11, e10, hf⟩ := ob1 hf
    have g12 := sJx4a65c_clear_da8c8 d (by omega) e10
    refine rt_callV (pc := 87) (As := []) (st := []) me_Jx4a65c_clear_da8c8 mi_Jx4a65c_clear_da8c8 wl_X5_122 dX5_moveLetters_87 rfl (by decide) rfl g12.1 g12.2 ?_
    refine rt_iconst (pc := 90) (n := 0) (v := (0 : Int32)) (by decide) dX5_moveLetters_90 ?_
    refine rt_istore (pc := 91) (i := 7) (x := (0 : Int32)) (l2 := [(7, .int (0 : Int32)), (0, va_rf a0), (1, .long a1), (3, .long a3), (5, va_rf a5), (6, va_rf a6)]) (by decide) (by first | rfl | (simp [rt_cat, cat_i, cat_l]; done) | (simp [rt_cat, cat_i, cat_l]; decide)) dX5_moveLetters_91 ?_
    exact rt_locals (rt_sub [1, 5, 0] rfl) (rX5_moveLetters_93 hd zf _ _ _ _ _ hf)
  rw [if_neg c7] at hf
  refine rt_icmp_ge_n (pc := 21) (x := a7) (z := v5) (tgt := 83) (by decide) dX5_moveLetters_21 c7 ?_
  refine rt_aload_n (pc := 24) (k0 := 0) (x := a0) 0 rfl dX5_moveLetters_24 ?_
  obtain ⟨v13, e14, hf⟩ := ob1 hf
  refine rt_gr (pc := 25) fd_X5_18 dX5_moveLetters_25 e14 ?_
  refine rt_iload (pc := 28) (i := 7) (x := a7) 5 rfl dX5_moveLetters_28 ?_
  obtain ⟨v17, w16, e15, hf⟩ := ob2_of hf
  have g18 := sJx4a65c_get_915e3 d (by omega) e15
  refine rt_callV (pc := 30) (As := [.int a7]) (st := []) me_Jx4a65c_get_915e3 mi_Jx4a65c_get_915e3 wl_X5_60 dX5_moveLetters_30 rfl (by decide) rfl g18.1 g18.2 ?_
  by_cases c19 : hp_cls w16 v17 5 = false
  · rw [if_pos c19] at hf; cases hf
  rw [if_neg c19] at hf
  refine rt_cast (pc := 33) (x := v17) (show vwCl[5]? = some (RX4, TX4, 6) from rfl) wc_X5_64 dX5_moveLetters_33 ((Bool.not_eq_false _).mp c19) ?_
  refine rt_astore (pc := 36) (i := 8) (x := v17) (l2 := [(8, va_rf v17), (0, va_rf a0), (1, .long a1), (3, .long a3), (5, va_rf a5), (6, va_rf a6), (7, .int a7)]) (by decide) (by first | rfl | (simp [rt_cat, cat_i, cat_l]; done) | (simp [rt_cat, cat_i, cat_l]; decide)) dX5_moveLetters_36 ?_
  refine rt_lload_n (pc := 38) (k0 := 1) (x := a1) 2 rfl dX5_moveLetters_38 ?_
  refine rt_aload (pc := 39) (i := 8) (x := v17) 0 rfl dX5_moveLetters_39 ?_
  obtain ⟨v20, e21, hf⟩ := ob1 hf
  refine rt_gl (pc := 41) fd_X5_89 dX5_moveLetters_41 e21 ?_
  by_cases c22 : v20 < a1
  · rw [if_pos c22] at hf
    refine rt_lif_gt_p (pc := 44) (x := a1) (z := v20) (tgt := 69) (by decide) dX5_moveLetters_44 dX5_moveLetters_45 c22 ?_
    exact rt_locals (rt_sub [1, 2, 3, 4, 5, 6, 0] rfl) (rX5_moveLetters_69 hd ih hf)
  rw [if_neg c22] at hf
  refine rt_lif_gt_n (pc := 44) (x := a1) (z := v20) (tgt := 69) (by decide) dX5_moveLetters_44 dX5_moveLetters_45 c22 ?_
  refine rt_aload (pc := 48) (i := 8) (x := v17) 0 rfl dX5_moveLetters_48 ?_
  obtain ⟨v23, e24, hf⟩ := ob1 hf
  refine rt_gl (pc := 50) fd_X5_89 dX5_moveLetters_50 e24 ?_
  refine rt_lload_n (pc := 53) (k0 := 3) (x := a3) 3 rfl dX5_moveLetters_53 ?_
  by_cases c25 : a3 < v23
  · rw [if_pos c25] at hf
    refine rt_lif_gt_p (pc := 54) (x := v23) (z := a3) (tgt := 69) (by decide) dX5_moveLetters_54 dX5_moveLetters_55 c25 ?_
    exact rt_locals (rt_sub [1, 2, 3, 4, 5, 6, 0] rfl) (rX5_moveLetters_69 hd ih hf)
  rw [if_neg c25] at hf
  refine rt_lif_gt_n (pc := 54) (x := v23) (z := a3) (tgt := 69) (by decide) dX5_moveLetters_54 dX5_moveLetters_55 c25 ?_
  refine rt_aload (pc := 58) (i := 5) (x := a5) 4 rfl dX5_moveLetters_58 ?_
  refine rt_aload (pc := 60) (i := 8) (x := v17) 0 rfl dX5_moveLetters_60 ?_
  obtain ⟨v28, w27, e26, hf⟩ := ob2_of hf
  have g29 := sJx4a65c_add_9ea2d d (by omega) e26
  refine rt_callV (pc := 62) (As := [va_rf v17]) (st := []) me_Jx4a65c_add_9ea2d mi_Jx4a65c_add_9ea2d wl_X5_66 dX5_moveLetters_62 rfl (by decide) rfl g29.1 g29.2 ?_
  refine rt_pop (pc := 65) rfl dX5_moveLetters_65 ?_
  refine rt_goto (pc := 66) (tgt := 77) (by decide) dX5_moveLetters_66 ?_
  exact rt_locals (rt_sub [1, 2, 3, 4, 5, 6] rfl) (rX5_moveLetters_77 hd ih hf)
noncomputable def bX5_moveLetters_0 (E : ah_E) (a0 : Option Nat) (a1 : Int64) (a3 : Int64) (a5 : Option Nat) (h : ah_H) : Option ah_H :=
  (hp_new h 0 nf_0 3).bind fun w1 =>
  (fJx4a65c_init_da8c8 E (some h.1) w1).bind fun w4 =>
  bX5_moveLetters_12 E zf a0 a1 a3 a5 (some h.1) (0 : Int32) w4
set_option maxRecDepth 20000 in
set_option maxHeartbeats 4000000 in
theorem rX5_moveLetters_0 {X : ah_X} {d : Nat} (hd : 6 ≤ d) {a0 : Option Nat} {a1 : Int64} {a3 : Int64} {a5 : Option Nat} {h : ah_H} {h2 : ah_H} (hf : bX5_moveLetters_0 X.2.2.2 a0 a1 a3 a5 h = some h2) : Rt X yX5_moveLetters cX5_moveLetters 9 (d + 1) 0 [(0, va_rf a0), (1, .long a1), (3, .long a3), (5, va_rf a5)] [] h none h2 := by
  unfold bX5_moveLetters_0 at hf
  obtain ⟨w1, e2, hf⟩ := ob1 hf
  refine rt_newB (pc := 0) nw_X5_9 dX5_moveLetters_0 e2 ?_
  refine rt_dup (pc := 3) (rt_cat _) dX5_moveLetters_3 ?_
  obtain ⟨w4, e3, hf⟩ := ob1 hf
  have g5 := sJx4a65c_init_da8c8 d (by omega) e3
  refine rt_callI (pc := 4) (As := []) (st := [va_rf (some h.1)]) (ci := 0) me_Jx4a65c_init_da8c8 mI_Jx4a65c_init_da8c8 wl_X5_11 dX5_moveLetters_4 rfl (by simp [rt_cat, cat_i, cat_l]) rfl g5.1 g5.2 ?_
  refine rt_astore (pc := 7) (i := 6) (x := (some h.1)) (l2 := [(6, va_rf (some h.1)), (0, va_rf a0), (1, .long a1), (3, .long a3), (5, va_rf a5)]) (by decide) (by first | rfl | (simp [rt_cat, cat_i, cat_l]; done) | (simp [rt_cat, cat_i, cat_l]; decide)) dX5_moveLetters_7 ?_
  refine rt_iconst (pc := 9) (n := 0) (v := (0 : Int32)) (by decide) dX5_moveLetters_9 ?_
  refine rt_istore (pc := 10) (i := 7) (x := (0 : Int32)) (l2 := [(7, .int (0 : Int32)), (6, va_rf (some h.1)), (0, va_rf a0), (1, .long a1), (3, .long a3), (5, va_rf a5)]) (by decide) (by first | rfl | (simp [rt_cat, cat_i, cat_l]; done) | (simp [rt_cat, cat_i, cat_l]; decide)) dX5_moveLetters_10 ?_
  exact rt_locals (rt_sub [2, 3, 4, 5, 1, 0] rfl) (rX5_moveLetters_12 hd zf _ _ _ _ _ _ _ _ hf)
noncomputable def fX5_moveLetters (E : ah_E) (a0 : Option Nat) (a1 : Int64) (a3 : Int64) (a5 : Option Nat) (h : ah_H) : Option ah_H := if hp_rcv h a0 6 = false then none else bX5_moveLetters_0 E a0 a1 a3 a5 h
set_option maxRecDepth 20000 in
set_option maxHeartbeats 4000000 in
theorem sX5_moveLetters {X : ah_X} (d : Nat) (hd : 7 ≤ d) {a0 : Option Nat} {a1 : Int64} {a3 : Int64} {a5 : Option Nat} {h : ah_H} {h2 : ah_H} (hf : fX5_moveLetters X.2.2.2 a0 a1 a3 a5 h = some h2) : hp_rcv h a0 6 = true ∧ Rn X yX5_moveLetters cX5_moveLetters 9 none d [va_rf a0, .long a1, .long a3, va_rf a5] h none h2 := by
  unfold fX5_moveLetters at hf
  by_cases c0 : hp_rcv h a0 6 = false
  · rw [if_pos c0] at hf; cases hf
  rw [if_neg c0] at hf
  refine ⟨(Bool.not_eq_false _).mp c0, ?_⟩
  obtain ⟨d, rfl⟩ : ∃ k, d = k + 1 := ⟨d - 1, by omega⟩
  exact Rn.of2 me_X5_moveLetters (by simp [lg_sl, rt_cat, cat_i, cat_l]) rfl (l := [(0, va_rf a0), (1, .long a1), (3, .long a3), (5, va_rf a5)]) (by simp [lv_args, rt_cat, cat_i, cat_l]) (rX5_moveLetters_0 (by omega) hf)
noncomputable def bX5_isTooBig_25 (E : ah_E) (s0 : Int32) (h : ah_H) : Option (Int32 × ah_H) :=
  some (s0, h)
set_option maxRecDepth 20000 in
set_option maxHeartbeats 4000000 in
theorem rX5_isTooBig_25 {X : ah_X} {d : Nat} (hd : 1 ≤ d) {s0 : Int32} {h : ah_H} {r : Int32} {h2 : ah_H} (hf : bX5_isTooBig_25 X.2.2.2 s0 h = some (r, h2)) : Rt X yX5_isTooBig cX5_isTooBig 1 (d + 1) 25 [] [.int s0] h (some (.int r)) h2 := by
  unfold bX5_isTooBig_25 at hf
  cases hf
  exact rt_ret (pc := 25) dX5_isTooBig_25 rfl
noncomputable def bX5_isTooBig_17 (E : ah_E) (s0 : Int32) (s1 : Int32) (h : ah_H) : Option (Int32 × ah_H) :=
  if s0 ≤ s1 then
    bX5_isTooBig_25 E (0 : Int32) h
  else
  bX5_isTooBig_25 E (1 : Int32) h
set_option maxRecDepth 20000 in
set_option maxHeartbeats 4000000 in
theorem rX5_isTooBig_17 {X : ah_X} {d : Nat} (hd : 1 ≤ d) {s0 : Int32} {s1 : Int32} {h : ah_H} {r : Int32} {h2 : ah_H} (hf : bX5_isTooBig_17 X.2.2.2 s0 s1 h = some (r, h2)) : Rt X yX5_isTooBig cX5_isTooBig 1 (d + 1) 17 [] [.int s1, .int s0] h (some (.int r)) h2 := by
  unfold bX5_isTooBig_17 at hf
  by_cases c1 : s0 ≤ s1
  · rw [if_pos c1] at hf
    refine rt_icmp_le_p (pc := 17) (x := s0) (z := s1) (tgt := 24) (by decide) dX5_isTooBig_17 c1 ?_
    refine rt_iconst (pc := 24) (n := 0) (v := (0 : Int32)) (by decide) dX5_isTooBig_24 ?_
    exact rX5_isTooBig_25 hd hf
  rw [if_neg c1] at hf
  refine rt_icmp_le_n (pc := 17) (x := s0) (z := s1) (tgt := 24) (by decide) dX5_isTooBig_17 c1 ?_
  refine rt_iconst (pc := 20) (n := 1) (v := (1 : Int32)) (by decide) dX5_isTooBig_20 ?_
  refine rt_goto (pc := 21) (tgt := 25) (by decide) dX5_isTooBig_21 ?_
  exact rX5_isTooBig_25 hd hf
noncomputable def bX5_isTooBig_0 (E : ah_E) (a0 : Option Nat) (h : ah_H) : Option (Int32 × ah_H) :=
  ob2 (fX5_width E a0 h) fun v3 w2 =>
  ob2 (fX5_isLeaf E a0 w2) fun v7 w6 =>
  if v7 = 0 then
    bX5_isTooBig_17 E v3 (5 : Int32) w6
  else
  bX5_isTooBig_17 E v3 (6 : Int32) w6
set_option maxRecDepth 20000 in
set_option maxHeartbeats 4000000 in
theorem rX5_isTooBig_0 {X : ah_X} {d : Nat} (hd : 1 ≤ d) {a0 : Option Nat} {h : ah_H} {r : Int32} {h2 : ah_H} (hf : bX5_isTooBig_0 X.2.2.2 a0 h = some (r, h2)) : Rt X yX5_isTooBig cX5_isTooBig 1 (d + 1) 0 [(0, va_rf a0)] [] h (some (.int r)) h2 := by
  unfold bX5_isTooBig_0 at hf
  refine rt_aload_n (pc := 0) (k0 := 0) (x := a0) 0 rfl dX5_isTooBig_0 ?_
  obtain ⟨v3, w2, e1, hf⟩ := ob2_of hf
  have g4 := sX5_width d (by omega) e1
  refine rt_callV (pc := 1) (As := []) (st := []) me_X5_width mi_X5_width wl_X5_46 dX5_isTooBig_1 rfl (by decide) rfl g4.1 g4.2 ?_
  refine rt_aload_n (pc := 4) (k0 := 0) (x := a0) 0 rfl dX5_isTooBig_4 ?_
  obtain ⟨v7, w6, e5, hf⟩ := ob2_of hf
  have g8 := sX5_isLeaf d (by omega) e5
  refine rt_callV (pc := 5) (As := []) (st := [.int v3]) me_X5_isLeaf mi_X5_isLeaf wl_X5_49 dX5_isTooBig_5 rfl (by simp [rt_cat, cat_i, cat_l]) rfl g8.1 g8.2 ?_
  by_cases c9 : v7 = 0
  · rw [if_pos c9] at hf
    refine rt_if_eq_p (pc := 8) (x := v7) (tgt := 16) (by decide) dX5_isTooBig_8 c9 ?_
    refine rt_iconst (pc := 16) (n := 5) (v := (5 : Int32)) (by decide) dX5_isTooBig_16 ?_
    exact rt_locals (rt_sub [] rfl) (rX5_isTooBig_17 hd hf)
  rw [if_neg c9] at hf
  refine rt_if_eq_n (pc := 8) (x := v7) (tgt := 16) (by decide) dX5_isTooBig_8 c9 ?_
  refine rt_bipush (pc := 11) (n := 6) (v := (6 : Int32)) (by decide) dX5_isTooBig_11 ?_
  refine rt_goto (pc := 13) (tgt := 17) (by decide) dX5_isTooBig_13 ?_
  exact rt_locals (rt_sub [] rfl) (rX5_isTooBig_17 hd hf)
noncomputable def fX5_isTooBig (E : ah_E) (a0 : Option Nat) (h : ah_H) : Option (Int32 × ah_H) := if hp_rcv h a0 6 = false then none else zb (bX5_isTooBig_0 E a0 h)
set_option maxRecDepth 20000 in
set_option maxHeartbeats 4000000 in
theorem sX5_isTooBig {X : ah_X} (d : Nat) (hd : 2 ≤ d) {a0 : Option Nat} {h : ah_H} {r : Int32} {h2 : ah_H} (hf : fX5_isTooBig X.2.2.2 a0 h = some (r, h2)) : hp_rcv h a0 6 = true ∧ Rn X yX5_isTooBig cX5_isTooBig 1 (some .boolean) d [va_rf a0] h (some (.int r)) h2 := by
  unfold fX5_isTooBig at hf
  by_cases c0 : hp_rcv h a0 6 = false
  · rw [if_pos c0] at hf; cases hf
  rw [if_neg c0] at hf
  refine ⟨(Bool.not_eq_false _).mp c0, ?_⟩
  obtain ⟨hf, hz⟩ := zb_of hf
  obtain ⟨d, rfl⟩ : ∃ k, d = k + 1 := ⟨d - 1, by omega⟩
  exact Rn.of2 me_X5_isTooBig (by simp [lg_sl, rt_cat, cat_i, cat_l]) (ok_z hz) (l := [(0, va_rf a0)]) (by simp [lv_args, rt_cat, cat_i, cat_l]) (rX5_isTooBig_0 (by omega) hf)
noncomputable def bX5_partOf_59 (E : ah_E) (a0 : Option Nat) (a1 : Int32) (a2 : Int32) (a3 : Int64) (h : ah_H) : Option (Option Nat × ah_H) :=
  (hp_new h 6 nf_6 5).bind fun w1 =>
  (hp_new w1 2 nf_2 1).bind fun w3 =>
  (fX1_init E (some w1.1) w3).bind fun w6 =>
  (fX5_init E (some h.1) a3 (some w1.1) w6).bind fun w9 =>
  (fX5_copyInto E a0 (some h.1) a1 a2 w9).bind fun w12 =>
  ob2 (fX5_lastKeyOf E a0 (a2 - (1 : Int32)) w12) fun v16 w15 =>
  (hp_gr w15 (some h.1) 6 3).bind fun v18 =>
  (fX5_moveLetters E a0 a3 v16 v18 w15).bind fun w21 =>
  some ((some h.1), w21)
set_option maxRecDepth 20000 in
set_option maxHeartbeats 4000000 in
theorem rX5_partOf_59 {X : ah_X} {d : Nat} (hd : 7 ≤ d) {a0 : Option Nat} {a1 : Int32} {a2 : Int32} {a3 : Int64} {h : ah_H} {r : Option Nat} {h2 : ah_H} (hf : bX5_partOf_59 X.2.2.2 a0 a1 a2 a3 h = some (r, h2)) : Rt X yX5_partOf cX5_partOf 6 (d + 1) 59 [(0, va_rf a0), (1, .int a1), (2, .int a2), (3, .long a3)] [] h (some (va_rf r)) h2 := by
  unfold bX5_partOf_59 at hf
  obtain ⟨w1, e2, hf⟩ := ob1 hf
  refine rt_newB (pc := 59) nw_X5_13 dX5_partOf_59 e2 ?_
  refine rt_dup (pc := 62) (rt_cat _) dX5_partOf_62 ?_
  refine rt_lload_n (pc := 63) (k0 := 3) (x := a3) 3 rfl dX5_partOf_63 ?_
  obtain ⟨w3, e4, hf⟩ := ob1 hf
  refine rt_newB (pc := 64) nw_X5_38 dX5_partOf_64 e4 ?_
  refine rt_dup (pc := 67) (rt_cat _) dX5_partOf_67 ?_
  obtain ⟨w6, e5, hf⟩ := ob1 hf
  have g7 := sX1_init d (by omega) e5
  refine rt_callIN (pc := 68) (As := []) (st := [va_rf (some w1.1), .long a3, va_rf (some h.1), va_rf (some h.1)]) (ci := 2) me_X1_init mI_X1_init wln_X5_52 dX5_partOf_68 rfl (by simp [rt_cat, cat_i, cat_l]) rfl g7.1 g7.2 ?_
  obtain ⟨w9, e8, hf⟩ := ob1 hf
  have g10 := sX5_init d (by omega) e8
  refine rt_callI (pc := 71) (As := [.long a3, va_rf (some w1.1)]) (st := [va_rf (some h.1)]) (ci := 6) me_X5_init mI_X5_init wl_X5_53 dX5_partOf_71 rfl (by simp [rt_cat, cat_i, cat_l]) rfl g10.1 g10.2 ?_
  refine rt_astore (pc := 74) (i := 5) (x := (some h.1)) (l2 := [(5, va_rf (some h.1)), (0, va_rf a0), (1, .int a1), (2, .int a2), (3, .long a3)]) (by decide) (by first | rfl | (simp [rt_cat, cat_i, cat_l]; done) | (simp [rt_cat, cat_i, cat_l]; decide)) dX5_partOf_74 ?_
  refine rt_aload_n (pc := 76) (k0 := 0) (x := a0) 1 rfl dX5_partOf_76 ?_
  refine rt_aload (pc := 77) (i := 5) (x := (some h.1)) 0 rfl dX5_partOf_77 ?_
  refine rt_iload_n (pc := 79) (k0 := 1) (x := a1) 2 rfl dX5_partOf_79 ?_
  refine rt_iload_n (pc := 80) (k0 := 2) (x := a2) 3 rfl dX5_partOf_80 ?_
  obtain ⟨w12, e11, hf⟩ := ob1 hf
  have g13 := sX5_copyInto d (by omega) e11
  refine rt_callV (pc := 81) (As := [va_rf (some h.1), .int a1, .int a2]) (st := []) me_X5_copyInto mi_X5_copyInto wl_X5_56 dX5_partOf_81 rfl (by decide) rfl g13.1 g13.2 ?_
  refine rt_aload_n (pc := 84) (k0 := 0) (x := a0) 1 rfl dX5_partOf_84 ?_
  refine rt_lload_n (pc := 85) (k0 := 3) (x := a3) 4 rfl dX5_partOf_85 ?_
  refine rt_aload_n (pc := 86) (k0 := 0) (x := a0) 1 rfl dX5_partOf_86 ?_
  refine rt_iload_n (pc := 87) (k0 := 2) (x := a2) 3 rfl dX5_partOf_87 ?_
  refine rt_iconst (pc := 88) (n := 1) (v := (1 : Int32)) (by decide) dX5_partOf_88 ?_
  refine rt_isub (pc := 89) (x := a2) (z := (1 : Int32)) dX5_partOf_89 ?_
  obtain ⟨v16, w15, e14, hf⟩ := ob2_of hf
  have g17 := sX5_lastKeyOf d (by omega) e14
  refine rt_callV (pc := 90) (As := [.int (a2 - (1 : Int32))]) (st := [.long a3, va_rf a0]) me_X5_lastKeyOf mi_X5_lastKeyOf wl_X5_101 dX5_partOf_90 rfl (by simp [rt_cat, cat_i, cat_l]) rfl g17.1 g17.2 ?_
  refine rt_aload (pc := 93) (i := 5) (x := (some h.1)) 0 rfl dX5_partOf_93 ?_
  obtain ⟨v18, e19, hf⟩ := ob1 hf
  refine rt_gr (pc := 95) fd_X5_18 dX5_partOf_95 e19 ?_
  obtain ⟨w21, e20, hf⟩ := ob1 hf
  have g22 := sX5_moveLetters d (by omega) e20
  refine rt_callV (pc := 98) (As := [.long a3, .long v16, va_rf v18]) (st := []) me_X5_moveLetters mi_X5_moveLetters wl_X5_139 dX5_partOf_98 rfl (by decide) rfl g22.1 g22.2 ?_
  refine rt_aload (pc := 101) (i := 5) (x := (some h.1)) 0 rfl dX5_partOf_101 ?_
  cases hf
  exact rt_ret (pc := 103) (rt_atR _ dX5_partOf_103) rfl
noncomputable def bX5_partOf_58 (E : ah_E) (a0 : Option Nat) (a1 : Int32) (a2 : Int32) (s0 : Int64) (h : ah_H) : Option (Option Nat × ah_H) :=
  bX5_partOf_59 E a0 a1 a2 s0 h
set_option maxRecDepth 20000 in
set_option maxHeartbeats 4000000 in
theorem rX5_partOf_58 {X : ah_X} {d : Nat} (hd : 7 ≤ d) {a0 : Option Nat} {a1 : Int32} {a2 : Int32} {s0 : Int64} {h : ah_H} {r : Option Nat} {h2 : ah_H} (hf : bX5_partOf_58 X.2.2.2 a0 a1 a2 s0 h = some (r, h2)) : Rt X yX5_partOf cX5_partOf 6 (d + 1) 58 [(0, va_rf a0), (1, .int a1), (2, .int a2)] [.long s0] h (some (va_rf r)) h2 := by
  unfold bX5_partOf_58 at hf
  refine rt_lstore_n (pc := 58) (k0 := 3) (x := s0) (l2 := [(3, .long s0), (0, va_rf a0), (1, .int a1), (2, .int a2)]) (by decide) (by first | rfl | (simp [rt_cat, cat_i, cat_l]; done) | (simp [rt_cat, cat_i, cat_l]; decide)) dX5_partOf_58 ?_
  exact rt_locals (rt_sub [1, 2, 3, 0] rfl) (rX5_partOf_59 hd hf)
noncomputable def bX5_partOf_0 (E : ah_E) (a0 : Option Nat) (a1 : Int32) (a2 : Int32) (h : ah_H) : Option (Option Nat × ah_H) :=
  (hp_gl h a0 6 0).bind fun v1 =>
  if a1 ≤ 0 then
    bX5_partOf_59 E a0 a1 a2 v1 h
  else
  ob2 (fX5_width E a0 h) fun v6 w5 =>
  if v6 ≤ a1 then
    bX5_partOf_59 E a0 a1 a2 v1 w5
  else
  ob2 (fX5_isLeaf E a0 w5) fun v11 w10 =>
  if v11 = 0 then
    (hp_gr w10 a0 6 2).bind fun v14 =>
    ob2 (fJx4a65c_get_915e3 E v14 a1 w10) fun v18 w17 =>
    if hp_cls w17 v18 6 = false then none else
    (hp_gl w17 v18 6 0).bind fun v21 =>
    bX5_partOf_58 E a0 a1 a2 v21 w17
  else
  (hp_gr w10 a0 6 1).bind fun v23 =>
  (hp_gr w10 v23 2 0).bind fun v25 =>
  ob2 (fJx4a65c_get_915e3 E v25 a1 w10) fun v29 w28 =>
  if hp_cls w28 v29 3 = false then none else
  (hp_gl w28 v29 3 0).bind fun v32 =>
  bX5_partOf_58 E a0 a1 a2 v32 w28
set_option maxRecDepth 20000 in
set_option maxHeartbeats 4000000 in
theorem rX5_partOf_0 {X : ah_X} {d : Nat} (hd : 7 ≤ d) {a0 : Option Nat} {a1 : Int32} {a2 : Int32} {h : ah_H} {r : Option Nat} {h2 : ah_H} (hf : bX5_partOf_0 X.2.2.2 a0 a1 a2 h = some (r, h2)) : Rt X yX5_partOf cX5_partOf 6 (d + 1) 0 [(0, va_rf a0), (1, .int a1), (2, .int a2)] [] h (some (va_rf r)) h2 := by
  unfold bX5_partOf_0 at hf
  refine rt_aload_n (pc := 0) (k0 := 0) (x := a0) 0 rfl dX5_partOf_0 ?_
  obtain ⟨v1, e2, hf⟩ := ob1 hf
  refine rt_gl (pc := 1) fd_X5_25 dX5_partOf_1 e2 ?_
  refine rt_lstore_n (pc := 4) (k0 := 3) (x := v1) (l2 := [(3, .long v1), (0, va_rf a0), (1, .int a1), (2, .int a2)]) (by decide) (by first | rfl | (simp [rt_cat, cat_i, cat_l]; done) | (simp [rt_cat, cat_i, cat_l]; decide)) dX5_partOf_4 ?_
  refine rt_iload_n (pc := 5) (k0 := 1) (x := a1) 2 rfl dX5_partOf_5 ?_
  by_cases c3 : a1 ≤ 0
  · rw [if_pos c3] at hf
    refine rt_if_le_p (pc := 6) (x := a1) (tgt := 59) (by decide) dX5_partOf_6 c3 ?_
    exact rt_locals (rt_sub [1, 2, 3, 0] rfl) (rX5_partOf_59 hd hf)
  rw [if_neg c3] at hf
  refine rt_if_le_n (pc := 6) (x := a1) (tgt := 59) (by decide) dX5_partOf_6 c3 ?_
  refine rt_iload_n (pc := 9) (k0 := 1) (x := a1) 2 rfl dX5_partOf_9 ?_
  refine rt_aload_n (pc := 10) (k0 := 0) (x := a0) 1 rfl dX5_partOf_10 ?_
  obtain ⟨v6, w5, e4, hf⟩ := ob2_of hf
  have g7 := sX5_width d (by omega) e4
  refine rt_callV (pc := 11) (As := []) (st := [.int a1]) me_X5_width mi_X5_width wl_X5_46 dX5_partOf_11 rfl (by simp [rt_cat, cat_i, cat_l]) rfl g7.1 g7.2 ?_
  by_cases c8 : v6 ≤ a1
  · rw [if_pos c8] at hf
    refine rt_icmp_ge_p (pc := 14) (x := a1) (z := v6) (tgt := 59) (by decide) dX5_partOf_14 c8 ?_
    exact rt_locals (rt_sub [1, 2, 3, 0] rfl) (rX5_partOf_59 hd hf)
  rw [if_neg c8] at hf
  refine rt_icmp_ge_n (pc := 14) (x := a1) (z := v6) (tgt := 59) (by decide) dX5_partOf_14 c8 ?_
  refine rt_aload_n (pc := 17) (k0 := 0) (x := a0) 1 rfl dX5_partOf_17 ?_
  obtain ⟨v11, w10, e9, hf⟩ := ob2_of hf
  have g12 := sX5_isLeaf d (by omega) e9
  refine rt_callV (pc := 18) (As := []) (st := []) me_X5_isLeaf mi_X5_isLeaf wl_X5_49 dX5_partOf_18 rfl (by decide) rfl g12.1 g12.2 ?_
  by_cases c13 : v11 = 0
  · rw [if_pos c13] at hf
    refine rt_if_eq_p (pc := 21) (x := v11) (tgt := 44) (by decide) dX5_partOf_21 c13 ?_
    refine rt_aload_n (pc := 44) (k0 := 0) (x := a0) 1 rfl dX5_partOf_44 ?_
    obtain ⟨v14, e15, hf⟩ := ob1 hf
    refine rt_gr (pc := 45) fd_X5_12 dX5_partOf_45 e15 ?_
    refine rt_iload_n (pc := 48) (k0 := 1) (x := a1) 2 rfl dX5_partOf_48 ?_
    obtain ⟨v18, w17, e16, hf⟩ := ob2_of hf
    have g19 := sJx4a65c_get_915e3 d (by omega) e16
    refine rt_callV (pc := 49) (As := [.int a1]) (st := []) me_Jx4a65c_get_915e3 mi_Jx4a65c_get_915e3 wl_X5_60 dX5_partOf_49 rfl (by decide) rfl g19.1 g19.2 ?_
    by_cases c20 : hp_cls w17 v18 6 = false
    · rw [if_pos c20] at hf; cases hf
    rw [if_neg c20] at hf
    refine rt_cast (pc := 52) (x := v18) (show vwCl[6]? = some (RX5, TX5, 5) from rfl) wc_X5_13 dX5_partOf_52 ((Bool.not_eq_false _).mp c20) ?_
    obtain ⟨v21, e22, hf⟩ := ob1 hf
    refine rt_gl (pc := 55) fd_X5_25 dX5_partOf_55 e22 ?_
    exact rt_locals (rt_sub [1, 2, 3] rfl) (rX5_partOf_58 hd hf)
  rw [if_neg c13] at hf
  refine rt_if_eq_n (pc := 21) (x := v11) (tgt := 44) (by decide) dX5_partOf_21 c13 ?_
  refine rt_aload_n (pc := 24) (k0 := 0) (x := a0) 1 rfl dX5_partOf_24 ?_
  obtain ⟨v23, e24, hf⟩ := ob1 hf
  refine rt_gr (pc := 25) fd_X5_29 dX5_partOf_25 e24 ?_
  obtain ⟨v25, e26, hf⟩ := ob1 hf
  refine rt_gr (pc := 28) fd_X5_37 dX5_partOf_28 e26 ?_
  refine rt_iload_n (pc := 31) (k0 := 1) (x := a1) 2 rfl dX5_partOf_31 ?_
  obtain ⟨v29, w28, e27, hf⟩ := ob2_of hf
  have g30 := sJx4a65c_get_915e3 d (by omega) e27
  refine rt_callV (pc := 32) (As := [.int a1]) (st := []) me_Jx4a65c_get_915e3 mi_Jx4a65c_get_915e3 wl_X5_60 dX5_partOf_32 rfl (by decide) rfl g30.1 g30.2 ?_
  by_cases c31 : hp_cls w28 v29 3 = false
  · rw [if_pos c31] at hf; cases hf
  rw [if_neg c31] at hf
  refine rt_cast (pc := 35) (x := v29) (show vwCl[3]? = some (RX2, TX2, 2) from rfl) wc_X5_70 dX5_partOf_35 ((Bool.not_eq_false _).mp c31) ?_
  obtain ⟨v32, e33, hf⟩ := ob1 hf
  refine rt_gl (pc := 38) fd_X5_138 dX5_partOf_38 e33 ?_
  refine rt_goto (pc := 41) (tgt := 58) (by decide) dX5_partOf_41 ?_
  exact rt_locals (rt_sub [1, 2, 3] rfl) (rX5_partOf_58 hd hf)
noncomputable def fX5_partOf (E : ah_E) (a0 : Option Nat) (a1 : Int32) (a2 : Int32) (h : ah_H) : Option (Option Nat × ah_H) := if hp_rcv h a0 6 = false then none else bX5_partOf_0 E a0 a1 a2 h
set_option maxRecDepth 20000 in
set_option maxHeartbeats 4000000 in
theorem sX5_partOf {X : ah_X} (d : Nat) (hd : 8 ≤ d) {a0 : Option Nat} {a1 : Int32} {a2 : Int32} {h : ah_H} {r : Option Nat} {h2 : ah_H} (hf : fX5_partOf X.2.2.2 a0 a1 a2 h = some (r, h2)) : hp_rcv h a0 6 = true ∧ Rn X yX5_partOf cX5_partOf 6 (some (.object "LetterTree$Page")) d [va_rf a0, .int a1, .int a2] h (some (va_rf r)) h2 := by
  unfold fX5_partOf at hf
  by_cases c0 : hp_rcv h a0 6 = false
  · rw [if_pos c0] at hf; cases hf
  rw [if_neg c0] at hf
  refine ⟨(Bool.not_eq_false _).mp c0, ?_⟩
  obtain ⟨d, rfl⟩ : ∃ k, d = k + 1 := ⟨d - 1, by omega⟩
  exact Rn.of2 me_X5_partOf (by simp [lg_sl, rt_cat, cat_i, cat_l]) (ok_o _ _) (l := [(0, va_rf a0), (1, .int a1), (2, .int a2)]) (by simp [lv_args, rt_cat, cat_i, cat_l]) (rX5_partOf_0 (by omega) hf)
noncomputable def bX5_partKid_32 (E : ah_E) (h : ah_H) : Option ah_H :=
  some h
set_option maxRecDepth 20000 in
set_option maxHeartbeats 4000000 in
theorem rX5_partKid_32 {X : ah_X} {d : Nat} (hd : 8 ≤ d)  {h : ah_H} {h2 : ah_H} (hf : bX5_partKid_32 X.2.2.2  h = some h2) : Rt X yX5_partKid cX5_partKid 9 (d + 1) 32 [] [] h none h2 := by
  unfold bX5_partKid_32 at hf
  cases hf
  exact rt_ret (pc := 32) dX5_partKid_32 rfl
noncomputable def bX5_partKid_90 (E : ah_E) : Nat → Option Nat → Int32 → Option Nat → Int32 → Int32 → Int32 → Int32 → ah_H → Option ah_H
  | 0 => fun _ _ _ _ _ _ _ _ => none
  | n + 1 => fun a0 a1 a2 a4 a5 a6 a7 h =>
  if a5 ≤ a7 then
    some h
  else
  if (a5 - a7) = 0 then none else
  (hp_gr h a0 6 2).bind fun v3 =>
  ob2 (fX5_partOf E a2 a6 (a6 + (((((a4 - a6) + a5) - a7) - (1 : Int32)) / (a5 - a7))) h) fun v7 w6 =>
  (fJx4a65c_add_7a177 E v3 (a1 + a7) v7 w6).bind fun w10 =>
  bX5_partKid_90 E n a0 a1 a2 a4 a5 (a6 + (((((a4 - a6) + a5) - a7) - (1 : Int32)) / (a5 - a7))) (a7 + 1) w10
set_option maxRecDepth 20000 in
set_option maxHeartbeats 4000000 in
theorem rX5_partKid_90 {X : ah_X} {d : Nat} (hd : 8 ≤ d) (n : Nat) : ∀ (a0 : Option Nat) (a1 : Int32) (a2 : Option Nat) (a4 : Int32) (a5 : Int32) (a6 : Int32) (a7 : Int32) (h : ah_H) (h2 : ah_H), bX5_partKid_90 X.2.2.2 n a0 a1 a2 a4 a5 a6 a7 h = some h2 → Rt X yX5_partKid cX5_partKid 9 (d + 1) 90 [(0, va_rf a0), (1, .int a1), (2, va_rf a2), (4, .int a4), (5, .int a5), (6, .int a6), (7, .int a7)] [] h none h2 := by
  induction n with
  | zero => intro a0 a1 a2 a4 a5 a6 a7 h h2 hf; cases hf
  | succ n ih =>
  intro a0 a1 a2 a4 a5 a6 a7 h h2 hf
  unfold bX5_partKid_90 at hf
  refine rt_iload (pc := 90) (i := 7) (x := a7) 6 rfl dX5_partKid_90 ?_
  refine rt_iload (pc := 92) (i := 5) (x := a5) 4 rfl dX5_partKid_92 ?_
  by_cases c1 : a5 ≤ a7
  · rw [if_pos c1] at hf
    refine rt_icmp_ge_p (pc := 94) (x := a7) (z := a5) (tgt := 150) (by decide) dX5_partKid_94 c1 ?_
    cases hf
    exact rt_ret (pc := 150) dX5_partKid_150 rfl
  rw [if_neg c1] at hf
  refine rt_icmp_ge_n (pc := 94) (x := a7) (z := a5) (tgt := 150) (by decide) dX5_partKid_94 c1 ?_
  refine rt_iload (pc := 97) (i := 6) (x := a6) 5 rfl dX5_partKid_97 ?_
  refine rt_iload (pc := 99) (i := 4) (x := a4) 3 rfl dX5_partKid_99 ?_
  refine rt_iload (pc := 101) (i := 6) (x := a6) 5 rfl dX5_partKid_101 ?_
  refine rt_isub (pc := 103) (x := a4) (z := a6) dX5_partKid_103 ?_
  refine rt_iload (pc := 104) (i := 5) (x := a5) 4 rfl dX5_partKid_104 ?_
  refine rt_iadd (pc := 106) (x := (a4 - a6)) (z := a5) dX5_partKid_106 ?_
  refine rt_iload (pc := 107) (i := 7) (x := a7) 6 rfl dX5_partKid_107 ?_
  refine rt_isub (pc := 109) (x := ((a4 - a6) + a5)) (z := a7) dX5_partKid_109 ?_
  refine rt_iconst (pc := 110) (n := 1) (v := (1 : Int32)) (by decide) dX5_partKid_110 ?_
  refine rt_isub (pc := 111) (x := (((a4 - a6) + a5) - a7)) (z := (1 : Int32)) dX5_partKid_111 ?_
  refine rt_iload (pc := 112) (i := 5) (x := a5) 4 rfl dX5_partKid_112 ?_
  refine rt_iload (pc := 114) (i := 7) (x := a7) 6 rfl dX5_partKid_114 ?_
  refine rt_isub (pc := 116) (x := a5) (z := a7) dX5_partKid_116 ?_
  by_cases c2 : (a5 - a7) = 0
  · rw [if_pos c2] at hf; cases hf
  rw [if_neg c2] at hf
  refine rt_idiv (pc := 117) (x := ((((a4 - a6) + a5) - a7) - (1 : Int32))) (z := (a5 - a7)) c2 dX5_partKid_117 ?_
  refine rt_iadd (pc := 118) (x := a6) (z := (((((a4 - a6) + a5) - a7) - (1 : Int32)) / (a5 - a7))) dX5_partKid_118 ?_
  refine rt_istore (pc := 119) (i := 8) (x := (a6 + (((((a4 - a6) + a5) - a7) - (1 : Int32)) / (a5 - a7)))) (l2 := [(8, .int (a6 + (((((a4 - a6) + a5) - a7) - (1 : Int32)) / (a5 - a7)))), (0, va_rf a0), (1, .int a1), (2, va_rf a2), (4, .int a4), (5, .int a5), (6, .int a6), (7, .int a7)]) (by decide) (by first | rfl | (simp [rt_cat, cat_i, cat_l]; done) | (simp [rt_cat, cat_i, cat_l]; decide)) dX5_partKid_119 ?_
  refine rt_aload_n (pc := 121) (k0 := 0) (x := a0) 1 rfl dX5_partKid_121 ?_
  obtain ⟨v3, e4, hf⟩ := ob1 hf
  refine rt_gr (pc := 122) fd_X5_12 dX5_partKid_122 e4 ?_
  refine rt_iload_n (pc := 125) (k0 := 1) (x := a1) 2 rfl dX5_partKid_125 ?_
  refine rt_iload (pc := 126) (i := 7) (x := a7) 7 rfl dX5_partKid_126 ?_
  refine rt_iadd (pc := 128) (x := a1) (z := a7) dX5_partKid_128 ?_
  refine rt_aload_n (pc := 129) (k0 := 2) (x := a2) 3 rfl dX5_partKid_129 ?_
  refine rt_iload (pc := 130) (i := 6) (x := a6) 6 rfl dX5_partKid_130 ?_
  refine rt_iload (pc := 132) (i := 8) (x := (a6 + (((((a4 - a6) + a5) - a7) - (1 : Int32)) / (a5 - a7)))) 0 rfl dX5_partKid_132 ?_
  obtain ⟨v7, w6, e5, hf⟩ := ob2_of hf
  have g8 := sX5_partOf d (by omega) e5
  refine rt_callV (pc := 134) (As := [.int a6, .int (a6 + (((((a4 - a6) + a5) - a7) - (1 : Int32)) / (a5 - a7)))]) (st := [.int (a1 + a7), va_rf v3]) me_X5_partOf mi_X5_partOf wl_X5_131 dX5_partKid_134 rfl (by simp [rt_cat, cat_i, cat_l]) rfl g8.1 g8.2 ?_
  obtain ⟨w10, e9, hf⟩ := ob1 hf
  have g11 := sJx4a65c_add_7a177 d (by omega) e9
  refine rt_callV (pc := 137) (As := [.int (a1 + a7), va_rf v7]) (st := []) me_Jx4a65c_add_7a177 mi_Jx4a65c_add_7a177 wl_X5_135 dX5_partKid_137 rfl (by decide) rfl g11.1 g11.2 ?_
  refine rt_iload (pc := 140) (i := 8) (x := (a6 + (((((a4 - a6) + a5) - a7) - (1 : Int32)) / (a5 - a7)))) 0 rfl dX5_partKid_140 ?_
  refine rt_istore (pc := 142) (i := 6) (x := (a6 + (((((a4 - a6) + a5) - a7) - (1 : Int32)) / (a5 - a7)))) (l2 := [(6, .int (a6 + (((((a4 - a6) + a5) - a7) - (1 : Int32)) / (a5 - a7)))), (8, .int (a6 + (((((a4 - a6) + a5) - a7) - (1 : Int32)) / (a5 - a7)))), (0, va_rf a0), (1, .int a1), (2, va_rf a2), (4, .int a4), (5, .int a5), (7, .int a7)]) (by decide) (by first | rfl | (simp [rt_cat, cat_i, cat_l]; done) | (simp [rt_cat, cat_i, cat_l]; decide)) dX5_partKid_142 ?_
  refine rt_iinc (pc := 144) (i := 7) (n := 1) (x := a7) (v := (a7 + 1)) (l2 := [(7, .int (a7 + 1)), (6, .int (a6 + (((((a4 - a6) + a5) - a7) - (1 : Int32)) / (a5 - a7)))), (8, .int (a6 + (((((a4 - a6) + a5) - a7) - (1 : Int32)) / (a5 - a7)))), (0, va_rf a0), (1, .int a1), (2, va_rf a2), (4, .int a4), (5, .int a5)]) 7 rfl rfl (by decide) (by first | rfl | (simp [rt_cat, cat_i, cat_l]; done) | (simp [rt_cat, cat_i, cat_l]; decide)) dX5_partKid_144 ?_
  refine rt_goto (pc := 147) (tgt := 90) (by decide) dX5_partKid_147 ?_
  exact rt_locals (rt_sub [3, 4, 5, 6, 7, 1, 0] rfl) (ih _ _ _ _ _ _ _ _ _ hf)
noncomputable def bX5_partKid_58 (E : ah_E) (a0 : Option Nat) (a1 : Int32) (a2 : Option Nat) (s0 : Int32) (h : ah_H) : Option ah_H :=
  ob2 (fX5_width E a2 h) fun v3 w2 =>
  if s0 = 0 then none else
  (hp_gr w2 a0 6 2).bind fun v6 =>
  ob2 (fJx4a65c_remove_915e3 E v6 a1 w2) fun v10 w9 =>
  bX5_partKid_90 E zf a0 a1 a2 v3 (((v3 + s0) - (1 : Int32)) / s0) (0 : Int32) (0 : Int32) w9
set_option maxRecDepth 20000 in
set_option maxHeartbeats 4000000 in
theorem rX5_partKid_58 {X : ah_X} {d : Nat} (hd : 8 ≤ d) {a0 : Option Nat} {a1 : Int32} {a2 : Option Nat} {s0 : Int32} {h : ah_H} {h2 : ah_H} (hf : bX5_partKid_58 X.2.2.2 a0 a1 a2 s0 h = some h2) : Rt X yX5_partKid cX5_partKid 9 (d + 1) 58 [(0, va_rf a0), (1, .int a1), (2, va_rf a2)] [.int s0] h none h2 := by
  unfold bX5_partKid_58 at hf
  refine rt_istore_n (pc := 58) (k0 := 3) (x := s0) (l2 := [(3, .int s0), (0, va_rf a0), (1, .int a1), (2, va_rf a2)]) (by decide) (by first | rfl | (simp [rt_cat, cat_i, cat_l]; done) | (simp [rt_cat, cat_i, cat_l]; decide)) dX5_partKid_58 ?_
  refine rt_aload_n (pc := 59) (k0 := 2) (x := a2) 3 rfl dX5_partKid_59 ?_
  obtain ⟨v3, w2, e1, hf⟩ := ob2_of hf
  have g4 := sX5_width d (by omega) e1
  refine rt_callV (pc := 60) (As := []) (st := []) me_X5_width mi_X5_width wl_X5_46 dX5_partKid_60 rfl (by decide) rfl g4.1 g4.2 ?_
  refine rt_istore (pc := 63) (i := 4) (x := v3) (l2 := [(4, .int v3), (3, .int s0), (0, va_rf a0), (1, .int a1), (2, va_rf a2)]) (by decide) (by first | rfl | (simp [rt_cat, cat_i, cat_l]; done) | (simp [rt_cat, cat_i, cat_l]; decide)) dX5_partKid_63 ?_
  refine rt_iload (pc := 65) (i := 4) (x := v3) 0 rfl dX5_partKid_65 ?_
  refine rt_iload_n (pc := 67) (k0 := 3) (x := s0) 1 rfl dX5_partKid_67 ?_
  refine rt_iadd (pc := 68) (x := v3) (z := s0) dX5_partKid_68 ?_
  refine rt_iconst (pc := 69) (n := 1) (v := (1 : Int32)) (by decide) dX5_partKid_69 ?_
  refine rt_isub (pc := 70) (x := (v3 + s0)) (z := (1 : Int32)) dX5_partKid_70 ?_
  refine rt_iload_n (pc := 71) (k0 := 3) (x := s0) 1 rfl dX5_partKid_71 ?_
  by_cases c5 : s0 = 0
  · rw [if_pos c5] at hf; cases hf
  rw [if_neg c5] at hf
  refine rt_idiv (pc := 72) (x := ((v3 + s0) - (1 : Int32))) (z := s0) c5 dX5_partKid_72 ?_
  refine rt_istore (pc := 73) (i := 5) (x := (((v3 + s0) - (1 : Int32)) / s0)) (l2 := [(5, .int (((v3 + s0) - (1 : Int32)) / s0)), (4, .int v3), (3, .int s0), (0, va_rf a0), (1, .int a1), (2, va_rf a2)]) (by decide) (by first | rfl | (simp [rt_cat, cat_i, cat_l]; done) | (simp [rt_cat, cat_i, cat_l]; decide)) dX5_partKid_73 ?_
  refine rt_aload_n (pc := 75) (k0 := 0) (x := a0) 3 rfl dX5_partKid_75 ?_
  obtain ⟨v6, e7, hf⟩ := ob1 hf
  refine rt_gr (pc := 76) fd_X5_12 dX5_partKid_76 e7 ?_
  refine rt_iload_n (pc := 79) (k0 := 1) (x := a1) 4 rfl dX5_partKid_79 ?_
  obtain ⟨v10, w9, e8, hf⟩ := ob2_of hf
  have g11 := sJx4a65c_remove_915e3 d (by omega) e8
  refine rt_callV (pc := 80) (As := [.int a1]) (st := []) me_Jx4a65c_remove_915e3 mi_Jx4a65c_remove_915e3 wl_X5_128 dX5_partKid_80 rfl (by decide) rfl g11.1 g11.2 ?_
  refine rt_pop (pc := 83) (rt_cat _) dX5_partKid_83 ?_
  refine rt_iconst (pc := 84) (n := 0) (v := (0 : Int32)) (by decide) dX5_partKid_84 ?_
  refine rt_istore (pc := 85) (i := 6) (x := (0 : Int32)) (l2 := [(6, .int (0 : Int32)), (5, .int (((v3 + s0) - (1 : Int32)) / s0)), (4, .int v3), (3, .int s0), (0, va_rf a0), (1, .int a1), (2, va_rf a2)]) (by decide) (by first | rfl | (simp [rt_cat, cat_i, cat_l]; done) | (simp [rt_cat, cat_i, cat_l]; decide)) dX5_partKid_85 ?_
  refine rt_iconst (pc := 87) (n := 0) (v := (0 : Int32)) (by decide) dX5_partKid_87 ?_
  refine rt_istore (pc := 88) (i := 7) (x := (0 : Int32)) (l2 := [(7, .int (0 : Int32)), (6, .int (0 : Int32)), (5, .int (((v3 + s0) - (1 : Int32)) / s0)), (4, .int v3), (3, .int s0), (0, va_rf a0), (1, .int a1), (2, va_rf a2)]) (by decide) (by first | rfl | (simp [rt_cat, cat_i, cat_l]; done) | (simp [rt_cat, cat_i, cat_l]; decide)) dX5_partKid_88 ?_
  exact rt_locals (rt_sub [5, 6, 7, 3, 2, 1, 0] rfl) (rX5_partKid_90 hd zf _ _ _ _ _ _ _ _ _ hf)
noncomputable def bX5_partKid_0 (E : ah_E) (a0 : Option Nat) (a1 : Int32) (h : ah_H) : Option ah_H :=
  if a1 < 0 then
    bX5_partKid_32 E  h
  else
  (hp_gr h a0 6 2).bind fun v2 =>
  ob2 (fJx4a65c_size_8abf5 E v2 h) fun v6 w5 =>
  if v6 ≤ a1 then
    bX5_partKid_32 E  w5
  else
  (hp_gr w5 a0 6 2).bind fun v9 =>
  ob2 (fJx4a65c_get_915e3 E v9 a1 w5) fun v13 w12 =>
  if hp_cls w12 v13 6 = false then none else
  ob2 (fX5_isTooBig E v13 w12) fun v18 w17 =>
  if v18 = 0 then
    bX5_partKid_32 E  w17
  else
  (hp_gr w17 a0 6 2).bind fun v21 =>
  ob2 (fJx4a65c_get_915e3 E v21 a1 w17) fun v25 w24 =>
  if hp_cls w24 v25 6 = false then none else
  ob2 (fX5_isLeaf E v25 w24) fun v30 w29 =>
  if v30 = 0 then
    bX5_partKid_58 E a0 a1 v25 (5 : Int32) w29
  else
  bX5_partKid_58 E a0 a1 v25 (6 : Int32) w29
set_option maxRecDepth 20000 in
set_option maxHeartbeats 4000000 in
theorem rX5_partKid_0 {X : ah_X} {d : Nat} (hd : 8 ≤ d) {a0 : Option Nat} {a1 : Int32} {h : ah_H} {h2 : ah_H} (hf : bX5_partKid_0 X.2.2.2 a0 a1 h = some h2) : Rt X yX5_partKid cX5_partKid 9 (d + 1) 0 [(0, va_rf a0), (1, .int a1)] [] h none h2 := by
  unfold bX5_partKid_0 at hf
  refine rt_iload_n (pc := 0) (k0 := 1) (x := a1) 1 rfl dX5_partKid_0 ?_
  by_cases c1 : a1 < 0
  · rw [if_pos c1] at hf
    refine rt_if_lt_p (pc := 1) (x := a1) (tgt := 32) (by decide) dX5_partKid_1 c1 ?_
    exact rt_locals (rt_sub [] rfl) (rX5_partKid_32 hd hf)
  rw [if_neg c1] at hf
  refine rt_if_lt_n (pc := 1) (x := a1) (tgt := 32) (by decide) dX5_partKid_1 c1 ?_
  refine rt_iload_n (pc := 4) (k0 := 1) (x := a1) 1 rfl dX5_partKid_4 ?_
  refine rt_aload_n (pc := 5) (k0 := 0) (x := a0) 0 rfl dX5_partKid_5 ?_
  obtain ⟨v2, e3, hf⟩ := ob1 hf
  refine rt_gr (pc := 6) fd_X5_12 dX5_partKid_6 e3 ?_
  obtain ⟨v6, w5, e4, hf⟩ := ob2_of hf
  have g7 := sJx4a65c_size_8abf5 d (by omega) e4
  refine rt_callV (pc := 9) (As := []) (st := [.int a1]) me_Jx4a65c_size_8abf5 mi_Jx4a65c_size_8abf5 wl_X5_42 dX5_partKid_9 rfl (by simp [rt_cat, cat_i, cat_l]) rfl g7.1 g7.2 ?_
  by_cases c8 : v6 ≤ a1
  · rw [if_pos c8] at hf
    refine rt_icmp_ge_p (pc := 12) (x := a1) (z := v6) (tgt := 32) (by decide) dX5_partKid_12 c8 ?_
    exact rt_locals (rt_sub [] rfl) (rX5_partKid_32 hd hf)
  rw [if_neg c8] at hf
  refine rt_icmp_ge_n (pc := 12) (x := a1) (z := v6) (tgt := 32) (by decide) dX5_partKid_12 c8 ?_
  refine rt_aload_n (pc := 15) (k0 := 0) (x := a0) 0 rfl dX5_partKid_15 ?_
  obtain ⟨v9, e10, hf⟩ := ob1 hf
  refine rt_gr (pc := 16) fd_X5_12 dX5_partKid_16 e10 ?_
  refine rt_iload_n (pc := 19) (k0 := 1) (x := a1) 1 rfl dX5_partKid_19 ?_
  obtain ⟨v13, w12, e11, hf⟩ := ob2_of hf
  have g14 := sJx4a65c_get_915e3 d (by omega) e11
  refine rt_callV (pc := 20) (As := [.int a1]) (st := []) me_Jx4a65c_get_915e3 mi_Jx4a65c_get_915e3 wl_X5_60 dX5_partKid_20 rfl (by decide) rfl g14.1 g14.2 ?_
  by_cases c15 : hp_cls w12 v13 6 = false
  · rw [if_pos c15] at hf; cases hf
  rw [if_neg c15] at hf
  refine rt_cast (pc := 23) (x := v13) (show vwCl[6]? = some (RX5, TX5, 5) from rfl) wc_X5_13 dX5_partKid_23 ((Bool.not_eq_false _).mp c15) ?_
  obtain ⟨v18, w17, e16, hf⟩ := ob2_of hf
  have g19 := sX5_isTooBig d (by omega) e16
  refine rt_callV (pc := 26) (As := []) (st := []) me_X5_isTooBig mi_X5_isTooBig wl_X5_125 dX5_partKid_26 rfl (by decide) rfl g19.1 g19.2 ?_
  by_cases c20 : v18 = 0
  · rw [if_pos c20] at hf
    refine rt_if_ne_p (pc := 29) (x := v18) (tgt := 33) (by decide) dX5_partKid_29 c20 ?_
    exact rt_locals (rt_sub [] rfl) (rX5_partKid_32 hd hf)
  rw [if_neg c20] at hf
  refine rt_if_ne_n (pc := 29) (x := v18) (tgt := 33) (by decide) dX5_partKid_29 c20 ?_
  refine rt_aload_n (pc := 33) (k0 := 0) (x := a0) 0 rfl dX5_partKid_33 ?_
  obtain ⟨v21, e22, hf⟩ := ob1 hf
  refine rt_gr (pc := 34) fd_X5_12 dX5_partKid_34 e22 ?_
  refine rt_iload_n (pc := 37) (k0 := 1) (x := a1) 1 rfl dX5_partKid_37 ?_
  obtain ⟨v25, w24, e23, hf⟩ := ob2_of hf
  have g26 := sJx4a65c_get_915e3 d (by omega) e23
  refine rt_callV (pc := 38) (As := [.int a1]) (st := []) me_Jx4a65c_get_915e3 mi_Jx4a65c_get_915e3 wl_X5_60 dX5_partKid_38 rfl (by decide) rfl g26.1 g26.2 ?_
  by_cases c27 : hp_cls w24 v25 6 = false
  · rw [if_pos c27] at hf; cases hf
  rw [if_neg c27] at hf
  refine rt_cast (pc := 41) (x := v25) (show vwCl[6]? = some (RX5, TX5, 5) from rfl) wc_X5_13 dX5_partKid_41 ((Bool.not_eq_false _).mp c27) ?_
  refine rt_astore_n (pc := 44) (k0 := 2) (x := v25) (l2 := [(2, va_rf v25), (0, va_rf a0), (1, .int a1)]) (by decide) (by first | rfl | (simp [rt_cat, cat_i, cat_l]; done) | (simp [rt_cat, cat_i, cat_l]; decide)) dX5_partKid_44 ?_
  refine rt_aload_n (pc := 45) (k0 := 2) (x := v25) 0 rfl dX5_partKid_45 ?_
  obtain ⟨v30, w29, e28, hf⟩ := ob2_of hf
  have g31 := sX5_isLeaf d (by omega) e28
  refine rt_callV (pc := 46) (As := []) (st := []) me_X5_isLeaf mi_X5_isLeaf wl_X5_49 dX5_partKid_46 rfl (by decide) rfl g31.1 g31.2 ?_
  by_cases c32 : v30 = 0
  · rw [if_pos c32] at hf
    refine rt_if_eq_p (pc := 49) (x := v30) (tgt := 57) (by decide) dX5_partKid_49 c32 ?_
    refine rt_iconst (pc := 57) (n := 5) (v := (5 : Int32)) (by decide) dX5_partKid_57 ?_
    exact rt_locals (rt_sub [1, 2, 0] rfl) (rX5_partKid_58 hd hf)
  rw [if_neg c32] at hf
  refine rt_if_eq_n (pc := 49) (x := v30) (tgt := 57) (by decide) dX5_partKid_49 c32 ?_
  refine rt_bipush (pc := 52) (n := 6) (v := (6 : Int32)) (by decide) dX5_partKid_52 ?_
  refine rt_goto (pc := 54) (tgt := 58) (by decide) dX5_partKid_54 ?_
  exact rt_locals (rt_sub [1, 2, 0] rfl) (rX5_partKid_58 hd hf)
noncomputable def fX5_partKid (E : ah_E) (a0 : Option Nat) (a1 : Int32) (h : ah_H) : Option ah_H := if hp_rcv h a0 6 = false then none else bX5_partKid_0 E a0 a1 h
set_option maxRecDepth 20000 in
set_option maxHeartbeats 4000000 in
theorem sX5_partKid {X : ah_X} (d : Nat) (hd : 9 ≤ d) {a0 : Option Nat} {a1 : Int32} {h : ah_H} {h2 : ah_H} (hf : fX5_partKid X.2.2.2 a0 a1 h = some h2) : hp_rcv h a0 6 = true ∧ Rn X yX5_partKid cX5_partKid 9 none d [va_rf a0, .int a1] h none h2 := by
  unfold fX5_partKid at hf
  by_cases c0 : hp_rcv h a0 6 = false
  · rw [if_pos c0] at hf; cases hf
  rw [if_neg c0] at hf
  refine ⟨(Bool.not_eq_false _).mp c0, ?_⟩
  obtain ⟨d, rfl⟩ : ∃ k, d = k + 1 := ⟨d - 1, by omega⟩
  exact Rn.of2 me_X5_partKid (by simp [lg_sl, rt_cat, cat_i, cat_l]) rfl (l := [(0, va_rf a0), (1, .int a1)]) (by simp [lv_args, rt_cat, cat_i, cat_l]) (rX5_partKid_0 (by omega) hf)
noncomputable def bX8_sinkPage_22 (E : ah_E) (kr : Option Nat → Option Nat → Int32 → ah_H → Option (Option Nat × ah_H)) (h : ah_H) : Option (Int32 × ah_H) :=
  some ((0 : Int32), h)
set_option maxRecDepth 20000 in
set_option maxHeartbeats 4000000 in
theorem rX8_sinkPage_22 {X : ah_X} {d : Nat} {dk : Nat} {kr : Option Nat → Option Nat → Int32 → ah_H → Option (Option Nat × ah_H)} (hkr : ∀ (d : Nat), dk ≤ d → ∀ (x0 : Option Nat) (x1 : Option Nat) (x2 : Int32) (h : ah_H) (r : Option Nat) (h2 : ah_H), kr x0 x1 x2 h = some (r, h2) → Rn X yX8_give cX8_give 6 (some (.object "LetterTree$Page")) d [va_rf x0, va_rf x1, .int x2] h (some (va_rf r)) h2) (hd : 9 ≤ d) (hdk : dk + 0 ≤ d)  {h : ah_H} {r : Int32} {h2 : ah_H} (hf : bX8_sinkPage_22 X.2.2.2 kr  h = some (r, h2)) : Rt X yX8_sinkPage cX8_sinkPage 5 (d + 1) 22 [] [] h (some (.int r)) h2 := by
  unfold bX8_sinkPage_22 at hf
  refine rt_iconst (pc := 22) (n := 0) (v := (0 : Int32)) (by decide) dX8_sinkPage_22 ?_
  cases hf
  exact rt_ret (pc := 23) dX8_sinkPage_23 rfl
noncomputable def bX8_sinkPage_0 (E : ah_E) (kr : Option Nat → Option Nat → Int32 → ah_H → Option (Option Nat × ah_H)) (a0 : Option Nat) (a1 : Int32) (h : ah_H) : Option (Int32 × ah_H) :=
  ob2 (fX5_fullestKid E a0 h) fun v3 w2 =>
  if (40 : Int32) ≤ a1 then
    bX8_sinkPage_22 E kr  w2
  else
  (hp_gr w2 a0 6 2).bind fun v6 =>
  ob2 (fJx4a65c_size_8abf5 E v6 w2) fun v10 w9 =>
  if v3 < v10 then
    (hp_gr w9 a0 6 2).bind fun v13 =>
    ob2 (fJx4a65c_get_915e3 E v13 v3 w9) fun v17 w16 =>
    if hp_cls w16 v17 6 = false then none else
    (hp_new w16 0 nf_0 3).bind fun w20 =>
    (fJx4a65c_init_da8c8 E (some w16.1) w20).bind fun w23 =>
    (hp_gl w23 v17 6 0).bind fun v25 =>
    ob2 (fX5_lastKeyOf E a0 v3 w23) fun v29 w28 =>
    (fX5_moveLetters E a0 v25 v29 (some w16.1) w28).bind fun w32 =>
    (hp_gr w32 a0 6 2).bind fun v34 =>
    ob2 (kr v17 (some w16.1) (a1 + (1 : Int32)) w32) fun v38 w37 =>
    ob2 (fJx4a65c_set_bcc79 E v34 v3 v38 w37) fun v42 w41 =>
    (fX5_partKid E a0 v3 w41).bind fun w45 =>
    ob2 (fJx4a65c_size_8abf5 E (some w16.1) w45) fun v49 w48 =>
    some (v49, w48)
  else
  bX8_sinkPage_22 E kr  w9
set_option maxRecDepth 20000 in
set_option maxHeartbeats 4000000 in
theorem rX8_sinkPage_0 {X : ah_X} {d : Nat} {dk : Nat} {kr : Option Nat → Option Nat → Int32 → ah_H → Option (Option Nat × ah_H)} (hkr : ∀ (d : Nat), dk ≤ d → ∀ (x0 : Option Nat) (x1 : Option Nat) (x2 : Int32) (h : ah_H) (r : Option Nat) (h2 : ah_H), kr x0 x1 x2 h = some (r, h2) → Rn X yX8_give cX8_give 6 (some (.object "LetterTree$Page")) d [va_rf x0, va_rf x1, .int x2] h (some (va_rf r)) h2) (hd : 9 ≤ d) (hdk : dk + 0 ≤ d) {a0 : Option Nat} {a1 : Int32} {h : ah_H} {r : Int32} {h2 : ah_H} (hf : bX8_sinkPage_0 X.2.2.2 kr a0 a1 h = some (r, h2)) : Rt X yX8_sinkPage cX8_sinkPage 5 (d + 1) 0 [(0, va_rf a0), (1, .int a1)] [] h (some (.int r)) h2 := by
  unfold bX8_sinkPage_0 at hf
  refine rt_aload_n (pc := 0) (k0 := 0) (x := a0) 0 rfl dX8_sinkPage_0 ?_
  obtain ⟨v3, w2, e1, hf⟩ := ob2_of hf
  have g4 := sX5_fullestKid d (by omega) e1
  refine rt_callV (pc := 1) (As := []) (st := []) me_X5_fullestKid mi_X5_fullestKid wl_X8_50 dX8_sinkPage_1 rfl (by decide) rfl g4.1 g4.2 ?_
  refine rt_istore_n (pc := 4) (k0 := 2) (x := v3) (l2 := [(2, .int v3), (0, va_rf a0), (1, .int a1)]) (by decide) (by first | rfl | (simp [rt_cat, cat_i, cat_l]; done) | (simp [rt_cat, cat_i, cat_l]; decide)) dX8_sinkPage_4 ?_
  refine rt_iload_n (pc := 5) (k0 := 1) (x := a1) 2 rfl dX8_sinkPage_5 ?_
  refine rt_bipush (pc := 6) (n := 40) (v := (40 : Int32)) (by decide) dX8_sinkPage_6 ?_
  by_cases c5 : (40 : Int32) ≤ a1
  · rw [if_pos c5] at hf
    refine rt_icmp_ge_p (pc := 8) (x := a1) (z := (40 : Int32)) (tgt := 22) (by decide) dX8_sinkPage_8 c5 ?_
    exact rt_locals (rt_sub [] rfl) (rX8_sinkPage_22 hkr hd hdk hf)
  rw [if_neg c5] at hf
  refine rt_icmp_ge_n (pc := 8) (x := a1) (z := (40 : Int32)) (tgt := 22) (by decide) dX8_sinkPage_8 c5 ?_
  refine rt_iload_n (pc := 11) (k0 := 2) (x := v3) 0 rfl dX8_sinkPage_11 ?_
  refine rt_aload_n (pc := 12) (k0 := 0) (x := a0) 1 rfl dX8_sinkPage_12 ?_
  obtain ⟨v6, e7, hf⟩ := ob1 hf
  refine rt_gr (pc := 13) fd_X8_53 dX8_sinkPage_13 e7 ?_
  obtain ⟨v10, w9, e8, hf⟩ := ob2_of hf
  have g11 := sJx4a65c_size_8abf5 d (by omega) e8
  refine rt_callV (pc := 16) (As := []) (st := [.int v3]) me_Jx4a65c_size_8abf5 mi_Jx4a65c_size_8abf5 wl_X8_46 dX8_sinkPage_16 rfl (by simp [rt_cat, cat_i, cat_l]) rfl g11.1 g11.2 ?_
  by_cases c12 : v3 < v10
  · rw [if_pos c12] at hf
    refine rt_icmp_lt_p (pc := 19) (x := v3) (z := v10) (tgt := 24) (by decide) dX8_sinkPage_19 c12 ?_
    refine rt_aload_n (pc := 24) (k0 := 0) (x := a0) 1 rfl dX8_sinkPage_24 ?_
    obtain ⟨v13, e14, hf⟩ := ob1 hf
    refine rt_gr (pc := 25) fd_X8_53 dX8_sinkPage_25 e14 ?_
    refine rt_iload_n (pc := 28) (k0 := 2) (x := v3) 0 rfl dX8_sinkPage_28 ?_
    obtain ⟨v17, w16, e15, hf⟩ := ob2_of hf
    have g18 := sJx4a65c_get_915e3 d (by omega) e15
    refine rt_callV (pc := 29) (As := [.int v3]) (st := []) me_Jx4a65c_get_915e3 mi_Jx4a65c_get_915e3 wl_X8_56 dX8_sinkPage_29 rfl (by decide) rfl g18.1 g18.2 ?_
    by_cases c19 : hp_cls w16 v17 6 = false
    · rw [if_pos c19] at hf; cases hf
    rw [if_neg c19] at hf
    refine rt_cast (pc := 32) (x := v17) (show vwCl[6]? = some (RX5, TX5, 5) from rfl) wc_X8_16 dX8_sinkPage_32 ((Bool.not_eq_false _).mp c19) ?_
    refine rt_astore_n (pc := 35) (k0 := 3) (x := v17) (l2 := [(3, va_rf v17), (2, .int v3), (0, va_rf a0), (1, .int a1)]) (by decide) (by first | rfl | (simp [rt_cat, cat_i, cat_l]; done) | (simp [rt_cat, cat_i, cat_l]; decide)) dX8_sinkPage_35 ?_
    obtain ⟨w20, e21, hf⟩ := ob1 hf
    refine rt_newB (pc := 36) nw_X8_22 dX8_sinkPage_36 e21 ?_
    refine rt_dup (pc := 39) (rt_cat _) dX8_sinkPage_39 ?_
    obtain ⟨w23, e22, hf⟩ := ob1 hf
    have g24 := sJx4a65c_init_da8c8 d (by omega) e22
    refine rt_callI (pc := 40) (As := []) (st := [va_rf (some w16.1)]) (ci := 0) me_Jx4a65c_init_da8c8 mI_Jx4a65c_init_da8c8 wl_X8_60 dX8_sinkPage_40 rfl (by simp [rt_cat, cat_i, cat_l]) rfl g24.1 g24.2 ?_
    refine rt_astore (pc := 43) (i := 4) (x := (some w16.1)) (l2 := [(4, va_rf (some w16.1)), (3, va_rf v17), (2, .int v3), (0, va_rf a0), (1, .int a1)]) (by decide) (by first | rfl | (simp [rt_cat, cat_i, cat_l]; done) | (simp [rt_cat, cat_i, cat_l]; decide)) dX8_sinkPage_43 ?_
    refine rt_aload_n (pc := 45) (k0 := 0) (x := a0) 3 rfl dX8_sinkPage_45 ?_
    refine rt_aload_n (pc := 46) (k0 := 3) (x := v17) 1 rfl dX8_sinkPage_46 ?_
    obtain ⟨v25, e26, hf⟩ := ob1 hf
    refine rt_gl (pc := 47) fd_X8_61 dX8_sinkPage_47 e26 ?_
    refine rt_aload_n (pc := 50) (k0 := 0) (x := a0) 3 rfl dX8_sinkPage_50 ?_
    refine rt_iload_n (pc := 51) (k0 := 2) (x := v3) 2 rfl dX8_sinkPage_51 ?_
    obtain ⟨v29, w28, e27, hf⟩ := ob2_of hf
    have g30 := sX5_lastKeyOf d (by omega) e27
    refine rt_callV (pc := 52) (As := [.int v3]) (st := [.long v25, va_rf a0]) me_X5_lastKeyOf mi_X5_lastKeyOf wl_X8_65 dX8_sinkPage_52 rfl (by simp [rt_cat, cat_i, cat_l]) rfl g30.1 g30.2 ?_
    refine rt_aload (pc := 55) (i := 4) (x := (some w16.1)) 0 rfl dX8_sinkPage_55 ?_
    obtain ⟨w32, e31, hf⟩ := ob1 hf
    have g33 := sX5_moveLetters d (by omega) e31
    refine rt_callV (pc := 57) (As := [.long v25, .long v29, va_rf (some w16.1)]) (st := []) me_X5_moveLetters mi_X5_moveLetters wl_X8_69 dX8_sinkPage_57 rfl (by decide) rfl g33.1 g33.2 ?_
    refine rt_aload_n (pc := 60) (k0 := 0) (x := a0) 3 rfl dX8_sinkPage_60 ?_
    obtain ⟨v34, e35, hf⟩ := ob1 hf
    refine rt_gr (pc := 61) fd_X8_53 dX8_sinkPage_61 e35 ?_
    refine rt_iload_n (pc := 64) (k0 := 2) (x := v3) 2 rfl dX8_sinkPage_64 ?_
    refine rt_aload_n (pc := 65) (k0 := 3) (x := v17) 1 rfl dX8_sinkPage_65 ?_
    refine rt_aload (pc := 66) (i := 4) (x := (some w16.1)) 0 rfl dX8_sinkPage_66 ?_
    refine rt_iload_n (pc := 68) (k0 := 1) (x := a1) 4 rfl dX8_sinkPage_68 ?_
    refine rt_iconst (pc := 69) (n := 1) (v := (1 : Int32)) (by decide) dX8_sinkPage_69 ?_
    refine rt_iadd (pc := 70) (x := a1) (z := (1 : Int32)) dX8_sinkPage_70 ?_
    obtain ⟨v38, w37, e36, hf⟩ := ob2_of hf
    have g39 := hkr d (by omega) _ _ _ _ _ _ e36
    refine rt_callS (pc := 71) (As := [va_rf v17, va_rf (some w16.1), .int (a1 + (1 : Int32))]) (st := [.int v3, va_rf v34]) me_X8_give ms_X8_give wl_X8_73 dX8_sinkPage_71 rfl (by simp [rt_cat, cat_i, cat_l]) rfl g39 ?_
    obtain ⟨v42, w41, e40, hf⟩ := ob2_of hf
    have g43 := sJx4a65c_set_bcc79 d (by omega) e40
    refine rt_callV (pc := 74) (As := [.int v3, va_rf v38]) (st := []) me_Jx4a65c_set_bcc79 mi_Jx4a65c_set_bcc79 wl_X8_77 dX8_sinkPage_74 rfl (by decide) rfl g43.1 g43.2 ?_
    refine rt_pop (pc := 77) (rt_cat _) dX8_sinkPage_77 ?_
    refine rt_aload_n (pc := 78) (k0 := 0) (x := a0) 3 rfl dX8_sinkPage_78 ?_
    refine rt_iload_n (pc := 79) (k0 := 2) (x := v3) 2 rfl dX8_sinkPage_79 ?_
    obtain ⟨w45, e44, hf⟩ := ob1 hf
    have g46 := sX5_partKid d (by omega) e44
    refine rt_callV (pc := 80) (As := [.int v3]) (st := []) me_X5_partKid mi_X5_partKid wl_X8_81 dX8_sinkPage_80 rfl (by decide) rfl g46.1 g46.2 ?_
    refine rt_aload (pc := 83) (i := 4) (x := (some w16.1)) 0 rfl dX8_sinkPage_83 ?_
    obtain ⟨v49, w48, e47, hf⟩ := ob2_of hf
    have g50 := sJx4a65c_size_8abf5 d (by omega) e47
    refine rt_callV (pc := 85) (As := []) (st := []) me_Jx4a65c_size_8abf5 mi_Jx4a65c_size_8abf5 wl_X8_46 dX8_sinkPage_85 rfl (by decide) rfl g50.1 g50.2 ?_
    cases hf
    exact rt_ret (pc := 88) dX8_sinkPage_88 rfl
  rw [if_neg c12] at hf
  refine rt_icmp_lt_n (pc := 19) (x := v3) (z := v10) (tgt := 24) (by decide) dX8_sinkPage_19 c12 ?_
  exact rt_locals (rt_sub [] rfl) (rX8_sinkPage_22 hkr hd hdk hf)
noncomputable def fX8_sinkPage (E : ah_E) (kr : Option Nat → Option Nat → Int32 → ah_H → Option (Option Nat × ah_H)) (a0 : Option Nat) (a1 : Int32) (h : ah_H) : Option (Int32 × ah_H) := bX8_sinkPage_0 E kr a0 a1 h
set_option maxRecDepth 20000 in
set_option maxHeartbeats 4000000 in
theorem sX8_sinkPage {X : ah_X} {dk : Nat} {kr : Option Nat → Option Nat → Int32 → ah_H → Option (Option Nat × ah_H)} (hkr : ∀ (d : Nat), dk ≤ d → ∀ (x0 : Option Nat) (x1 : Option Nat) (x2 : Int32) (h : ah_H) (r : Option Nat) (h2 : ah_H), kr x0 x1 x2 h = some (r, h2) → Rn X yX8_give cX8_give 6 (some (.object "LetterTree$Page")) d [va_rf x0, va_rf x1, .int x2] h (some (va_rf r)) h2) (d : Nat) (hdk : dk + 1 ≤ d) (hd : 10 ≤ d) {a0 : Option Nat} {a1 : Int32} {h : ah_H} {r : Int32} {h2 : ah_H} (hf : fX8_sinkPage X.2.2.2 kr a0 a1 h = some (r, h2)) : Rn X yX8_sinkPage cX8_sinkPage 5 (some .int) d [va_rf a0, .int a1] h (some (.int r)) h2 := by
  unfold fX8_sinkPage at hf
  obtain ⟨d, rfl⟩ : ∃ k, d = k + 1 := ⟨d - 1, by omega⟩
  exact Rn.of2 me_X8_sinkPage (by simp [lg_sl, rt_cat, cat_i, cat_l]) (ok_i _) (l := [(0, va_rf a0), (1, .int a1)]) (by simp [lv_args, rt_cat, cat_i, cat_l]) (rX8_sinkPage_0 hkr (by omega) (by omega) hf)
noncomputable def bX8_give_63 (E : ah_E) (kr : Option Nat → Option Nat → Int32 → ah_H → Option (Option Nat × ah_H)) (a3 : Option Nat) (h : ah_H) : Option (Option Nat × ah_H) :=
  some (a3, h)
set_option maxRecDepth 20000 in
set_option maxHeartbeats 4000000 in
theorem rX8_give_63 {X : ah_X} {d : Nat} {dk : Nat} {kr : Option Nat → Option Nat → Int32 → ah_H → Option (Option Nat × ah_H)} (hkr : ∀ (d : Nat), dk ≤ d → ∀ (x0 : Option Nat) (x1 : Option Nat) (x2 : Int32) (h : ah_H) (r : Option Nat) (h2 : ah_H), kr x0 x1 x2 h = some (r, h2) → Rn X yX8_give cX8_give 6 (some (.object "LetterTree$Page")) d [va_rf x0, va_rf x1, .int x2] h (some (va_rf r)) h2) (hd : 10 ≤ d) (hdk : dk + 1 ≤ d) {a3 : Option Nat} {h : ah_H} {r : Option Nat} {h2 : ah_H} (hf : bX8_give_63 X.2.2.2 kr a3 h = some (r, h2)) : Rt X yX8_give cX8_give 6 (d + 1) 63 [(3, va_rf a3)] [] h (some (va_rf r)) h2 := by
  unfold bX8_give_63 at hf
  refine rt_aload_n (pc := 63) (k0 := 3) (x := a3) 0 rfl dX8_give_63 ?_
  cases hf
  exact rt_ret (pc := 64) (rt_atR _ dX8_give_64) rfl
noncomputable def bX8_give_32 (E : ah_E) (kr : Option Nat → Option Nat → Int32 → ah_H → Option (Option Nat × ah_H)) : Nat → Int32 → Option Nat → Int32 → Int32 → ah_H → Option (Option Nat × ah_H)
  | 0 => fun _ _ _ _ _ => none
  | n + 1 => fun a2 a3 a4 a5 h =>
  if a4 ≤ a5 then
    bX8_give_63 E kr a3 h
  else
  (hp_gr h a3 6 3).bind fun v2 =>
  ob2 (fJx4a65c_size_8abf5 E v2 h) fun v6 w5 =>
  if v6 ≤ (8 : Int32) then
    bX8_give_63 E kr a3 w5
  else
  ob2 (fX8_sinkPage E kr a3 a2 w5) fun v11 w10 =>
  bX8_give_32 E kr n a2 a3 a4 (a5 + 1) w10
set_option maxRecDepth 20000 in
set_option maxHeartbeats 4000000 in
theorem rX8_give_32 {X : ah_X} {d : Nat} {dk : Nat} {kr : Option Nat → Option Nat → Int32 → ah_H → Option (Option Nat × ah_H)} (hkr : ∀ (d : Nat), dk ≤ d → ∀ (x0 : Option Nat) (x1 : Option Nat) (x2 : Int32) (h : ah_H) (r : Option Nat) (h2 : ah_H), kr x0 x1 x2 h = some (r, h2) → Rn X yX8_give cX8_give 6 (some (.object "LetterTree$Page")) d [va_rf x0, va_rf x1, .int x2] h (some (va_rf r)) h2) (hd : 10 ≤ d) (hdk : dk + 1 ≤ d) (n : Nat) : ∀ (a2 : Int32) (a3 : Option Nat) (a4 : Int32) (a5 : Int32) (h : ah_H) (r : Option Nat) (h2 : ah_H), bX8_give_32 X.2.2.2 kr n a2 a3 a4 a5 h = some (r, h2) → Rt X yX8_give cX8_give 6 (d + 1) 32 [(2, .int a2), (3, va_rf a3), (4, .int a4), (5, .int a5)] [] h (some (va_rf r)) h2 := by
  induction n with
  | zero => intro a2 a3 a4 a5 h r h2 hf; cases hf
  | succ n ih =>
  intro a2 a3 a4 a5 h r h2 hf
  unfold bX8_give_32 at hf
  refine rt_iload (pc := 32) (i := 5) (x := a5) 3 rfl dX8_give_32 ?_
  refine rt_iload (pc := 34) (i := 4) (x := a4) 2 rfl dX8_give_34 ?_
  by_cases c1 : a4 ≤ a5
  · rw [if_pos c1] at hf
    refine rt_icmp_ge_p (pc := 36) (x := a5) (z := a4) (tgt := 63) (by decide) dX8_give_36 c1 ?_
    exact rt_locals (rt_sub [1] rfl) (rX8_give_63 hkr hd hdk hf)
  rw [if_neg c1] at hf
  refine rt_icmp_ge_n (pc := 36) (x := a5) (z := a4) (tgt := 63) (by decide) dX8_give_36 c1 ?_
  refine rt_aload_n (pc := 39) (k0 := 3) (x := a3) 1 rfl dX8_give_39 ?_
  obtain ⟨v2, e3, hf⟩ := ob1 hf
  refine rt_gr (pc := 40) fd_X8_15 dX8_give_40 e3 ?_
  obtain ⟨v6, w5, e4, hf⟩ := ob2_of hf
  have g7 := sJx4a65c_size_8abf5 d (by omega) e4
  refine rt_callV (pc := 43) (As := []) (st := []) me_Jx4a65c_size_8abf5 mi_Jx4a65c_size_8abf5 wl_X8_46 dX8_give_43 rfl (by decide) rfl g7.1 g7.2 ?_
  refine rt_bipush (pc := 46) (n := 8) (v := (8 : Int32)) (by decide) dX8_give_46 ?_
  by_cases c8 : v6 ≤ (8 : Int32)
  · rw [if_pos c8] at hf
    refine rt_icmp_le_p (pc := 48) (x := v6) (z := (8 : Int32)) (tgt := 63) (by decide) dX8_give_48 c8 ?_
    exact rt_locals (rt_sub [1] rfl) (rX8_give_63 hkr hd hdk hf)
  rw [if_neg c8] at hf
  refine rt_icmp_le_n (pc := 48) (x := v6) (z := (8 : Int32)) (tgt := 63) (by decide) dX8_give_48 c8 ?_
  refine rt_aload_n (pc := 51) (k0 := 3) (x := a3) 1 rfl dX8_give_51 ?_
  refine rt_iload_n (pc := 52) (k0 := 2) (x := a2) 0 rfl dX8_give_52 ?_
  obtain ⟨v11, w10, e9, hf⟩ := ob2_of hf
  have g12 := sX8_sinkPage hkr d (by omega) (by omega) e9
  refine rt_callS (pc := 53) (As := [va_rf a3, .int a2]) (st := []) me_X8_sinkPage ms_X8_sinkPage wl_X8_31 dX8_give_53 rfl (by decide) rfl g12 ?_
  refine rt_pop (pc := 56) rfl dX8_give_56 ?_
  refine rt_iinc (pc := 57) (i := 5) (n := 1) (x := a5) (v := (a5 + 1)) (l2 := [(5, .int (a5 + 1)), (2, .int a2), (3, va_rf a3), (4, .int a4)]) 3 rfl rfl (by decide) (by first | rfl | (simp [rt_cat, cat_i, cat_l]; done) | (simp [rt_cat, cat_i, cat_l]; decide)) dX8_give_57 ?_
  refine rt_goto (pc := 60) (tgt := 32) (by decide) dX8_give_60 ?_
  exact rt_locals (rt_sub [1, 2, 3, 0] rfl) (ih _ _ _ _ _ _ _ hf)
noncomputable def bX8_give_0 (E : ah_E) (kr : Option Nat → Option Nat → Int32 → ah_H → Option (Option Nat × ah_H)) (a0 : Option Nat) (a1 : Option Nat) (a2 : Int32) (h : ah_H) : Option (Option Nat × ah_H) :=
  ob2 (fX5_isChangedBy E a0 a1 h) fun v3 w2 =>
  if v3 = 0 then
    some (a0, w2)
  else
  ob2 (fX5_opened E a0 w2) fun v8 w7 =>
  (fX5_takeIn E v8 a1 w7).bind fun w11 =>
  (hp_gr w11 v8 6 3).bind fun v13 =>
  ob2 (fJx4a65c_size_8abf5 E v13 w11) fun v17 w16 =>
  bX8_give_32 E kr zf a2 v8 v17 (0 : Int32) w16
set_option maxRecDepth 20000 in
set_option maxHeartbeats 4000000 in
theorem rX8_give_0 {X : ah_X} {d : Nat} {dk : Nat} {kr : Option Nat → Option Nat → Int32 → ah_H → Option (Option Nat × ah_H)} (hkr : ∀ (d : Nat), dk ≤ d → ∀ (x0 : Option Nat) (x1 : Option Nat) (x2 : Int32) (h : ah_H) (r : Option Nat) (h2 : ah_H), kr x0 x1 x2 h = some (r, h2) → Rn X yX8_give cX8_give 6 (some (.object "LetterTree$Page")) d [va_rf x0, va_rf x1, .int x2] h (some (va_rf r)) h2) (hd : 10 ≤ d) (hdk : dk + 1 ≤ d) {a0 : Option Nat} {a1 : Option Nat} {a2 : Int32} {h : ah_H} {r : Option Nat} {h2 : ah_H} (hf : bX8_give_0 X.2.2.2 kr a0 a1 a2 h = some (r, h2)) : Rt X yX8_give cX8_give 6 (d + 1) 0 [(0, va_rf a0), (1, va_rf a1), (2, .int a2)] [] h (some (va_rf r)) h2 := by
  unfold bX8_give_0 at hf
  refine rt_aload_n (pc := 0) (k0 := 0) (x := a0) 0 rfl dX8_give_0 ?_
  refine rt_aload_n (pc := 1) (k0 := 1) (x := a1) 1 rfl dX8_give_1 ?_
  obtain ⟨v3, w2, e1, hf⟩ := ob2_of hf
  have g4 := sX5_isChangedBy d (by omega) e1
  refine rt_callV (pc := 2) (As := [va_rf a1]) (st := []) me_X5_isChangedBy mi_X5_isChangedBy wl_X8_38 dX8_give_2 rfl (by decide) rfl g4.1 g4.2 ?_
  by_cases c5 : v3 = 0
  · rw [if_pos c5] at hf
    refine rt_if_ne_p (pc := 5) (x := v3) (tgt := 10) (by decide) dX8_give_5 c5 ?_
    refine rt_aload_n (pc := 8) (k0 := 0) (x := a0) 0 rfl dX8_give_8 ?_
    cases hf
    exact rt_ret (pc := 9) (rt_atR _ dX8_give_9) rfl
  rw [if_neg c5] at hf
  refine rt_if_ne_n (pc := 5) (x := v3) (tgt := 10) (by decide) dX8_give_5 c5 ?_
  refine rt_aload_n (pc := 10) (k0 := 0) (x := a0) 0 rfl dX8_give_10 ?_
  obtain ⟨v8, w7, e6, hf⟩ := ob2_of hf
  have g9 := sX5_opened d (by omega) e6
  refine rt_callV (pc := 11) (As := []) (st := []) me_X5_opened mi_X5_opened wl_X8_27 dX8_give_11 rfl (by decide) rfl g9.1 g9.2 ?_
  refine rt_astore_n (pc := 14) (k0 := 3) (x := v8) (l2 := [(3, va_rf v8), (0, va_rf a0), (1, va_rf a1), (2, .int a2)]) (by decide) (by first | rfl | (simp [rt_cat, cat_i, cat_l]; done) | (simp [rt_cat, cat_i, cat_l]; decide)) dX8_give_14 ?_
  refine rt_aload_n (pc := 15) (k0 := 3) (x := v8) 0 rfl dX8_give_15 ?_
  refine rt_aload_n (pc := 16) (k0 := 1) (x := a1) 2 rfl dX8_give_16 ?_
  obtain ⟨w11, e10, hf⟩ := ob1 hf
  have g12 := sX5_takeIn d (by omega) e10
  refine rt_callV (pc := 17) (As := [va_rf a1]) (st := []) me_X5_takeIn mi_X5_takeIn wl_X8_42 dX8_give_17 rfl (by decide) rfl g12.1 g12.2 ?_
  refine rt_aload_n (pc := 20) (k0 := 3) (x := v8) 0 rfl dX8_give_20 ?_
  obtain ⟨v13, e14, hf⟩ := ob1 hf
  refine rt_gr (pc := 21) fd_X8_15 dX8_give_21 e14 ?_
  obtain ⟨v17, w16, e15, hf⟩ := ob2_of hf
  have g18 := sJx4a65c_size_8abf5 d (by omega) e15
  refine rt_callV (pc := 24) (As := []) (st := []) me_Jx4a65c_size_8abf5 mi_Jx4a65c_size_8abf5 wl_X8_46 dX8_give_24 rfl (by decide) rfl g18.1 g18.2 ?_
  refine rt_istore (pc := 27) (i := 4) (x := v17) (l2 := [(4, .int v17), (3, va_rf v8), (0, va_rf a0), (1, va_rf a1), (2, .int a2)]) (by decide) (by first | rfl | (simp [rt_cat, cat_i, cat_l]; done) | (simp [rt_cat, cat_i, cat_l]; decide)) dX8_give_27 ?_
  refine rt_iconst (pc := 29) (n := 0) (v := (0 : Int32)) (by decide) dX8_give_29 ?_
  refine rt_istore (pc := 30) (i := 5) (x := (0 : Int32)) (l2 := [(5, .int (0 : Int32)), (4, .int v17), (3, va_rf v8), (0, va_rf a0), (1, va_rf a1), (2, .int a2)]) (by decide) (by first | rfl | (simp [rt_cat, cat_i, cat_l]; done) | (simp [rt_cat, cat_i, cat_l]; decide)) dX8_give_30 ?_
  exact rt_locals (rt_sub [5, 2, 1, 0] rfl) (rX8_give_32 hkr hd hdk zf _ _ _ _ _ _ _ hf)
noncomputable def gX8_give (E : ah_E) (kr : Option Nat → Option Nat → Int32 → ah_H → Option (Option Nat × ah_H)) (a0 : Option Nat) (a1 : Option Nat) (a2 : Int32) (h : ah_H) : Option (Option Nat × ah_H) := bX8_give_0 E kr a0 a1 a2 h
set_option maxRecDepth 20000 in
set_option maxHeartbeats 4000000 in
theorem tX8_give {X : ah_X} {dk : Nat} {kr : Option Nat → Option Nat → Int32 → ah_H → Option (Option Nat × ah_H)} (hkr : ∀ (d : Nat), dk ≤ d → ∀ (x0 : Option Nat) (x1 : Option Nat) (x2 : Int32) (h : ah_H) (r : Option Nat) (h2 : ah_H), kr x0 x1 x2 h = some (r, h2) → Rn X yX8_give cX8_give 6 (some (.object "LetterTree$Page")) d [va_rf x0, va_rf x1, .int x2] h (some (va_rf r)) h2) (d : Nat) (hdk : dk + 2 ≤ d) (hd : 11 ≤ d) {a0 : Option Nat} {a1 : Option Nat} {a2 : Int32} {h : ah_H} {r : Option Nat} {h2 : ah_H} (hf : gX8_give X.2.2.2 kr a0 a1 a2 h = some (r, h2)) : Rn X yX8_give cX8_give 6 (some (.object "LetterTree$Page")) d [va_rf a0, va_rf a1, .int a2] h (some (va_rf r)) h2 := by
  unfold gX8_give at hf
  obtain ⟨d, rfl⟩ : ∃ k, d = k + 1 := ⟨d - 1, by omega⟩
  exact Rn.of2 me_X8_give (by simp [lg_sl, rt_cat, cat_i, cat_l]) (ok_o _ _) (l := [(0, va_rf a0), (1, va_rf a1), (2, .int a2)]) (by simp [lv_args, rt_cat, cat_i, cat_l]) (rX8_give_0 hkr (by omega) (by omega) hf)
noncomputable def fX8_give (E : ah_E) : Nat → Option Nat → Option Nat → Int32 → ah_H → Option (Option Nat × ah_H)
  | 0 => fun _ _ _ _ => none
  | n + 1 => fun a0 a1 a2 h => gX8_give E (fX8_give E n) a0 a1 a2 h
set_option maxRecDepth 20000 in
set_option maxHeartbeats 4000000 in
theorem sX8_give {X : ah_X} (n : Nat) : ∀ (d : Nat), 11 + 2 * n ≤ d → ∀ (a0 : Option Nat) (a1 : Option Nat) (a2 : Int32) (h : ah_H) (r : Option Nat) (h2 : ah_H), fX8_give X.2.2.2 n a0 a1 a2 h = some (r, h2) → Rn X yX8_give cX8_give 6 (some (.object "LetterTree$Page")) d [va_rf a0, va_rf a1, .int a2] h (some (va_rf r)) h2 := by
  induction n with
  | zero => intro d hd a0 a1 a2 h r h2 hf; cases hf
  | succ n ih =>
    intro d hd a0 a1 a2 h r h2 hf
    exact tX8_give (dk := 11 + 2 * n) ih d (by omega) (by omega) hf
noncomputable def bX8_partRoot_64 (E : ah_E) (h : ah_H) : Option ah_H :=
  some h
set_option maxRecDepth 20000 in
set_option maxHeartbeats 4000000 in
theorem rX8_partRoot_64 {X : ah_X} {d : Nat} (hd : 9 ≤ d)  {h : ah_H} {h2 : ah_H} (hf : bX8_partRoot_64 X.2.2.2  h = some h2) : Rt X yX8_partRoot cX8_partRoot 3 (d + 1) 64 [] [] h none h2 := by
  unfold bX8_partRoot_64 at hf
  cases hf
  exact rt_ret (pc := 64) dX8_partRoot_64 rfl
noncomputable def bX8_partRoot_2 (E : ah_E) : Nat → Option Nat → Int32 → ah_H → Option ah_H
  | 0 => fun _ _ _ => none
  | n + 1 => fun a0 a1 h =>
  if (40 : Int32) ≤ a1 then
    bX8_partRoot_64 E  h
  else
  (hp_gr h a0 9 0).bind fun v2 =>
  ob2 (fX5_isTooBig E v2 h) fun v6 w5 =>
  if v6 = 0 then
    bX8_partRoot_64 E  w5
  else
  (hp_new w5 6 nf_6 5).bind fun w9 =>
  (hp_new w9 2 nf_2 1).bind fun w11 =>
  (fX1_init E (some w9.1) w11).bind fun w14 =>
  (fX5_init E (some w5.1) (-9223372036854775808 : Int64) (some w9.1) w14).bind fun w17 =>
  (hp_gr w17 (some w5.1) 6 2).bind fun v19 =>
  (hp_gr w17 a0 9 0).bind fun v21 =>
  ob2 (fJx4a65c_add_9ea2d E v19 v21 w17) fun v25 w24 =>
  (fX5_partKid E (some w5.1) (0 : Int32) w24).bind fun w28 =>
  (hp_pv w28 a0 9 0 (va_rf (some w5.1))).bind fun w30 =>
  bX8_partRoot_2 E n a0 (a1 + 1) w30
set_option maxRecDepth 20000 in
set_option maxHeartbeats 4000000 in
theorem rX8_partRoot_2 {X : ah_X} {d : Nat} (hd : 9 ≤ d) (n : Nat) : ∀ (a0 : Option Nat) (a1 : Int32) (h : ah_H) (h2 : ah_H), bX8_partRoot_2 X.2.2.2 n a0 a1 h = some h2 → Rt X yX8_partRoot cX8_partRoot 3 (d + 1) 2 [(0, va_rf a0), (1, .int a1)] [] h none h2 := by
  induction n with
  | zero => intro a0 a1 h h2 hf; cases hf
  | succ n ih =>
  intro a0 a1 h h2 hf
  unfold bX8_partRoot_2 at hf
  refine rt_iload_n (pc := 2) (k0 := 1) (x := a1) 1 rfl dX8_partRoot_2 ?_
  refine rt_bipush (pc := 3) (n := 40) (v := (40 : Int32)) (by decide) dX8_partRoot_3 ?_
  by_cases c1 : (40 : Int32) ≤ a1
  · rw [if_pos c1] at hf
    refine rt_icmp_ge_p (pc := 5) (x := a1) (z := (40 : Int32)) (tgt := 64) (by decide) dX8_partRoot_5 c1 ?_
    exact rt_locals (rt_sub [] rfl) (rX8_partRoot_64 hd hf)
  rw [if_neg c1] at hf
  refine rt_icmp_ge_n (pc := 5) (x := a1) (z := (40 : Int32)) (tgt := 64) (by decide) dX8_partRoot_5 c1 ?_
  refine rt_aload_n (pc := 8) (k0 := 0) (x := a0) 0 rfl dX8_partRoot_8 ?_
  obtain ⟨v2, e3, hf⟩ := ob1 hf
  refine rt_gr (pc := 9) fd_X8_9 dX8_partRoot_9 e3 ?_
  obtain ⟨v6, w5, e4, hf⟩ := ob2_of hf
  have g7 := sX5_isTooBig d (by omega) e4
  refine rt_callV (pc := 12) (As := []) (st := []) me_X5_isTooBig mi_X5_isTooBig wl_X8_85 dX8_partRoot_12 rfl (by decide) rfl g7.1 g7.2 ?_
  by_cases c8 : v6 = 0
  · rw [if_pos c8] at hf
    refine rt_if_eq_p (pc := 15) (x := v6) (tgt := 64) (by decide) dX8_partRoot_15 c8 ?_
    exact rt_locals (rt_sub [] rfl) (rX8_partRoot_64 hd hf)
  rw [if_neg c8] at hf
  refine rt_if_eq_n (pc := 15) (x := v6) (tgt := 64) (by decide) dX8_partRoot_15 c8 ?_
  obtain ⟨w9, e10, hf⟩ := ob1 hf
  refine rt_newB (pc := 18) nw_X8_16 dX8_partRoot_18 e10 ?_
  refine rt_dup (pc := 21) (rt_cat _) dX8_partRoot_21 ?_
  refine rt_ldc2 (pc := 22) wj_X8_88 dX8_partRoot_22 ?_
  obtain ⟨w11, e12, hf⟩ := ob1 hf
  refine rt_newB (pc := 25) nw_X8_90 dX8_partRoot_25 e12 ?_
  refine rt_dup (pc := 28) (rt_cat _) dX8_partRoot_28 ?_
  obtain ⟨w14, e13, hf⟩ := ob1 hf
  have g15 := sX1_init d (by omega) e13
  refine rt_callIN (pc := 29) (As := []) (st := [va_rf (some w9.1), .long (-9223372036854775808 : Int64), va_rf (some w5.1), va_rf (some w5.1)]) (ci := 2) me_X1_init mI_X1_init wln_X8_92 dX8_partRoot_29 rfl (by simp [rt_cat, cat_i, cat_l]) rfl g15.1 g15.2 ?_
  obtain ⟨w17, e16, hf⟩ := ob1 hf
  have g18 := sX5_init d (by omega) e16
  refine rt_callI (pc := 32) (As := [.long (-9223372036854775808 : Int64), va_rf (some w9.1)]) (st := [va_rf (some w5.1)]) (ci := 6) me_X5_init mI_X5_init wl_X8_93 dX8_partRoot_32 rfl (by simp [rt_cat, cat_i, cat_l]) rfl g18.1 g18.2 ?_
  refine rt_astore_n (pc := 35) (k0 := 2) (x := (some w5.1)) (l2 := [(2, va_rf (some w5.1)), (0, va_rf a0), (1, .int a1)]) (by decide) (by first | rfl | (simp [rt_cat, cat_i, cat_l]; done) | (simp [rt_cat, cat_i, cat_l]; decide)) dX8_partRoot_35 ?_
  refine rt_aload_n (pc := 36) (k0 := 2) (x := (some w5.1)) 0 rfl dX8_partRoot_36 ?_
  obtain ⟨v19, e20, hf⟩ := ob1 hf
  refine rt_gr (pc := 37) fd_X8_53 dX8_partRoot_37 e20 ?_
  refine rt_aload_n (pc := 40) (k0 := 0) (x := a0) 1 rfl dX8_partRoot_40 ?_
  obtain ⟨v21, e22, hf⟩ := ob1 hf
  refine rt_gr (pc := 41) fd_X8_9 dX8_partRoot_41 e22 ?_
  obtain ⟨v25, w24, e23, hf⟩ := ob2_of hf
  have g26 := sJx4a65c_add_9ea2d d (by omega) e23
  refine rt_callV (pc := 44) (As := [va_rf v21]) (st := []) me_Jx4a65c_add_9ea2d mi_Jx4a65c_add_9ea2d wl_X8_96 dX8_partRoot_44 rfl (by decide) rfl g26.1 g26.2 ?_
  refine rt_pop (pc := 47) rfl dX8_partRoot_47 ?_
  refine rt_aload_n (pc := 48) (k0 := 2) (x := (some w5.1)) 0 rfl dX8_partRoot_48 ?_
  refine rt_iconst (pc := 49) (n := 0) (v := (0 : Int32)) (by decide) dX8_partRoot_49 ?_
  obtain ⟨w28, e27, hf⟩ := ob1 hf
  have g29 := sX5_partKid d (by omega) e27
  refine rt_callV (pc := 50) (As := [.int (0 : Int32)]) (st := []) me_X5_partKid mi_X5_partKid wl_X8_81 dX8_partRoot_50 rfl (by decide) rfl g29.1 g29.2 ?_
  refine rt_aload_n (pc := 53) (k0 := 0) (x := a0) 1 rfl dX8_partRoot_53 ?_
  refine rt_aload_n (pc := 54) (k0 := 2) (x := (some w5.1)) 0 rfl dX8_partRoot_54 ?_
  obtain ⟨w30, e31, hf⟩ := ob1 hf
  refine rt_putf (pc := 55) (x := a0) fw_X8_9 (Or.inl rfl) (pf_o _ _).1 (pf_o _ _).2 dX8_partRoot_55 e31 ?_
  refine rt_iinc (pc := 58) (i := 1) (n := 1) (x := a1) (v := (a1 + 1)) (l2 := [(1, .int (a1 + 1)), (2, va_rf (some w5.1)), (0, va_rf a0)]) 2 rfl rfl (by decide) (by first | rfl | (simp [rt_cat, cat_i, cat_l]; done) | (simp [rt_cat, cat_i, cat_l]; decide)) dX8_partRoot_58 ?_
  refine rt_goto (pc := 61) (tgt := 2) (by decide) dX8_partRoot_61 ?_
  exact rt_locals (rt_sub [2, 0] rfl) (ih _ _ _ _ hf)
noncomputable def bX8_partRoot_0 (E : ah_E) (a0 : Option Nat) (h : ah_H) : Option ah_H :=
  bX8_partRoot_2 E zf a0 (0 : Int32) h
set_option maxRecDepth 20000 in
set_option maxHeartbeats 4000000 in
theorem rX8_partRoot_0 {X : ah_X} {d : Nat} (hd : 9 ≤ d) {a0 : Option Nat} {h : ah_H} {h2 : ah_H} (hf : bX8_partRoot_0 X.2.2.2 a0 h = some h2) : Rt X yX8_partRoot cX8_partRoot 3 (d + 1) 0 [(0, va_rf a0)] [] h none h2 := by
  unfold bX8_partRoot_0 at hf
  refine rt_iconst (pc := 0) (n := 0) (v := (0 : Int32)) (by decide) dX8_partRoot_0 ?_
  refine rt_istore_n (pc := 1) (k0 := 1) (x := (0 : Int32)) (l2 := [(1, .int (0 : Int32)), (0, va_rf a0)]) (by decide) (by first | rfl | (simp [rt_cat, cat_i, cat_l]; done) | (simp [rt_cat, cat_i, cat_l]; decide)) dX8_partRoot_1 ?_
  exact rt_locals (rt_sub [1, 0] rfl) (rX8_partRoot_2 hd zf _ _ _ _ hf)
noncomputable def fX8_partRoot (E : ah_E) (a0 : Option Nat) (h : ah_H) : Option ah_H := if hp_rcv h a0 9 = false then none else bX8_partRoot_0 E a0 h
set_option maxRecDepth 20000 in
set_option maxHeartbeats 4000000 in
theorem sX8_partRoot {X : ah_X} (d : Nat) (hd : 10 ≤ d) {a0 : Option Nat} {h : ah_H} {h2 : ah_H} (hf : fX8_partRoot X.2.2.2 a0 h = some h2) : hp_rcv h a0 9 = true ∧ Rn X yX8_partRoot cX8_partRoot 3 none d [va_rf a0] h none h2 := by
  unfold fX8_partRoot at hf
  by_cases c0 : hp_rcv h a0 9 = false
  · rw [if_pos c0] at hf; cases hf
  rw [if_neg c0] at hf
  refine ⟨(Bool.not_eq_false _).mp c0, ?_⟩
  obtain ⟨d, rfl⟩ : ∃ k, d = k + 1 := ⟨d - 1, by omega⟩
  exact Rn.of2 me_X8_partRoot (by simp [lg_sl, rt_cat, cat_i, cat_l]) rfl (l := [(0, va_rf a0)]) (by simp [lv_args, rt_cat, cat_i, cat_l]) (rX8_partRoot_0 (by omega) hf)
noncomputable def bX8_pagesIn_47 (E : ah_E) (kr : Option Nat → Int32 → ah_H → Option (Int32 × ah_H)) (a2 : Int32) (h : ah_H) : Option (Int32 × ah_H) :=
  some (a2, h)
set_option maxRecDepth 20000 in
set_option maxHeartbeats 4000000 in
theorem rX8_pagesIn_47 {X : ah_X} {d : Nat} {dk : Nat} {kr : Option Nat → Int32 → ah_H → Option (Int32 × ah_H)} (hkr : ∀ (d : Nat), dk ≤ d → ∀ (x0 : Option Nat) (x1 : Int32) (h : ah_H) (r : Int32) (h2 : ah_H), kr x0 x1 h = some (r, h2) → Rn X yX8_pagesIn cX8_pagesIn 4 (some .int) d [va_rf x0, .int x1] h (some (.int r)) h2) (hd : 2 ≤ d) (hdk : dk + 0 ≤ d) {a2 : Int32} {h : ah_H} {r : Int32} {h2 : ah_H} (hf : bX8_pagesIn_47 X.2.2.2 kr a2 h = some (r, h2)) : Rt X yX8_pagesIn cX8_pagesIn 4 (d + 1) 47 [(2, .int a2)] [] h (some (.int r)) h2 := by
  unfold bX8_pagesIn_47 at hf
  refine rt_iload_n (pc := 47) (k0 := 2) (x := a2) 0 rfl dX8_pagesIn_47 ?_
  cases hf
  exact rt_ret (pc := 48) dX8_pagesIn_48 rfl
noncomputable def bX8_pagesIn_4 (E : ah_E) (kr : Option Nat → Int32 → ah_H → Option (Int32 × ah_H)) : Nat → Option Nat → Int32 → Int32 → Int32 → ah_H → Option (Int32 × ah_H)
  | 0 => fun _ _ _ _ _ => none
  | n + 1 => fun a0 a1 a2 a3 h =>
  (hp_gr h a0 6 2).bind fun v1 =>
  ob2 (fJx4a65c_size_8abf5 E v1 h) fun v5 w4 =>
  if v5 ≤ a3 then
    bX8_pagesIn_47 E kr a2 w4
  else
  if (40 : Int32) ≤ a1 then
    bX8_pagesIn_47 E kr a2 w4
  else
  (hp_gr w4 a0 6 2).bind fun v9 =>
  ob2 (fJx4a65c_get_915e3 E v9 a3 w4) fun v13 w12 =>
  if hp_cls w12 v13 6 = false then none else
  ob2 (kr v13 (a1 + (1 : Int32)) w12) fun v18 w17 =>
  bX8_pagesIn_4 E kr n a0 a1 (a2 + v18) (a3 + 1) w17
set_option maxRecDepth 20000 in
set_option maxHeartbeats 4000000 in
theorem rX8_pagesIn_4 {X : ah_X} {d : Nat} {dk : Nat} {kr : Option Nat → Int32 → ah_H → Option (Int32 × ah_H)} (hkr : ∀ (d : Nat), dk ≤ d → ∀ (x0 : Option Nat) (x1 : Int32) (h : ah_H) (r : Int32) (h2 : ah_H), kr x0 x1 h = some (r, h2) → Rn X yX8_pagesIn cX8_pagesIn 4 (some .int) d [va_rf x0, .int x1] h (some (.int r)) h2) (hd : 2 ≤ d) (hdk : dk + 0 ≤ d) (n : Nat) : ∀ (a0 : Option Nat) (a1 : Int32) (a2 : Int32) (a3 : Int32) (h : ah_H) (r : Int32) (h2 : ah_H), bX8_pagesIn_4 X.2.2.2 kr n a0 a1 a2 a3 h = some (r, h2) → Rt X yX8_pagesIn cX8_pagesIn 4 (d + 1) 4 [(0, va_rf a0), (1, .int a1), (2, .int a2), (3, .int a3)] [] h (some (.int r)) h2 := by
  induction n with
  | zero => intro a0 a1 a2 a3 h r h2 hf; cases hf
  | succ n ih =>
  intro a0 a1 a2 a3 h r h2 hf
  unfold bX8_pagesIn_4 at hf
  refine rt_iload_n (pc := 4) (k0 := 3) (x := a3) 3 rfl dX8_pagesIn_4 ?_
  refine rt_aload_n (pc := 5) (k0 := 0) (x := a0) 0 rfl dX8_pagesIn_5 ?_
  obtain ⟨v1, e2, hf⟩ := ob1 hf
  refine rt_gr (pc := 6) fd_X8_53 dX8_pagesIn_6 e2 ?_
  obtain ⟨v5, w4, e3, hf⟩ := ob2_of hf
  have g6 := sJx4a65c_size_8abf5 d (by omega) e3
  refine rt_callV (pc := 9) (As := []) (st := [.int a3]) me_Jx4a65c_size_8abf5 mi_Jx4a65c_size_8abf5 wl_X8_46 dX8_pagesIn_9 rfl (by simp [rt_cat, cat_i, cat_l]) rfl g6.1 g6.2 ?_
  by_cases c7 : v5 ≤ a3
  · rw [if_pos c7] at hf
    refine rt_icmp_ge_p (pc := 12) (x := a3) (z := v5) (tgt := 47) (by decide) dX8_pagesIn_12 c7 ?_
    exact rt_locals (rt_sub [2] rfl) (rX8_pagesIn_47 hkr hd hdk hf)
  rw [if_neg c7] at hf
  refine rt_icmp_ge_n (pc := 12) (x := a3) (z := v5) (tgt := 47) (by decide) dX8_pagesIn_12 c7 ?_
  refine rt_iload_n (pc := 15) (k0 := 1) (x := a1) 1 rfl dX8_pagesIn_15 ?_
  refine rt_bipush (pc := 16) (n := 40) (v := (40 : Int32)) (by decide) dX8_pagesIn_16 ?_
  by_cases c8 : (40 : Int32) ≤ a1
  · rw [if_pos c8] at hf
    refine rt_icmp_ge_p (pc := 18) (x := a1) (z := (40 : Int32)) (tgt := 47) (by decide) dX8_pagesIn_18 c8 ?_
    exact rt_locals (rt_sub [2] rfl) (rX8_pagesIn_47 hkr hd hdk hf)
  rw [if_neg c8] at hf
  refine rt_icmp_ge_n (pc := 18) (x := a1) (z := (40 : Int32)) (tgt := 47) (by decide) dX8_pagesIn_18 c8 ?_
  refine rt_iload_n (pc := 21) (k0 := 2) (x := a2) 2 rfl dX8_pagesIn_21 ?_
  refine rt_aload_n (pc := 22) (k0 := 0) (x := a0) 0 rfl dX8_pagesIn_22 ?_
  obtain ⟨v9, e10, hf⟩ := ob1 hf
  refine rt_gr (pc := 23) fd_X8_53 dX8_pagesIn_23 e10 ?_
  refine rt_iload_n (pc := 26) (k0 := 3) (x := a3) 3 rfl dX8_pagesIn_26 ?_
  obtain ⟨v13, w12, e11, hf⟩ := ob2_of hf
  have g14 := sJx4a65c_get_915e3 d (by omega) e11
  refine rt_callV (pc := 27) (As := [.int a3]) (st := [.int a2]) me_Jx4a65c_get_915e3 mi_Jx4a65c_get_915e3 wl_X8_56 dX8_pagesIn_27 rfl (by simp [rt_cat, cat_i, cat_l]) rfl g14.1 g14.2 ?_
  by_cases c15 : hp_cls w12 v13 6 = false
  · rw [if_pos c15] at hf; cases hf
  rw [if_neg c15] at hf
  refine rt_cast (pc := 30) (x := v13) (show vwCl[6]? = some (RX5, TX5, 5) from rfl) wc_X8_16 dX8_pagesIn_30 ((Bool.not_eq_false _).mp c15) ?_
  refine rt_iload_n (pc := 33) (k0 := 1) (x := a1) 1 rfl dX8_pagesIn_33 ?_
  refine rt_iconst (pc := 34) (n := 1) (v := (1 : Int32)) (by decide) dX8_pagesIn_34 ?_
  refine rt_iadd (pc := 35) (x := a1) (z := (1 : Int32)) dX8_pagesIn_35 ?_
  obtain ⟨v18, w17, e16, hf⟩ := ob2_of hf
  have g19 := hkr d (by omega) _ _ _ _ _ e16
  refine rt_callS (pc := 36) (As := [va_rf v13, .int (a1 + (1 : Int32))]) (st := [.int a2]) me_X8_pagesIn ms_X8_pagesIn wl_X8_120 dX8_pagesIn_36 rfl (by simp [rt_cat, cat_i, cat_l]) rfl g19 ?_
  refine rt_iadd (pc := 39) (x := a2) (z := v18) dX8_pagesIn_39 ?_
  refine rt_istore_n (pc := 40) (k0 := 2) (x := (a2 + v18)) (l2 := [(2, .int (a2 + v18)), (0, va_rf a0), (1, .int a1), (3, .int a3)]) (by decide) (by first | rfl | (simp [rt_cat, cat_i, cat_l]; done) | (simp [rt_cat, cat_i, cat_l]; decide)) dX8_pagesIn_40 ?_
  refine rt_iinc (pc := 41) (i := 3) (n := 1) (x := a3) (v := (a3 + 1)) (l2 := [(3, .int (a3 + 1)), (2, .int (a2 + v18)), (0, va_rf a0), (1, .int a1)]) 3 rfl rfl (by decide) (by first | rfl | (simp [rt_cat, cat_i, cat_l]; done) | (simp [rt_cat, cat_i, cat_l]; decide)) dX8_pagesIn_41 ?_
  refine rt_goto (pc := 44) (tgt := 4) (by decide) dX8_pagesIn_44 ?_
  exact rt_locals (rt_sub [2, 3, 1, 0] rfl) (ih _ _ _ _ _ _ _ hf)
noncomputable def bX8_pagesIn_0 (E : ah_E) (kr : Option Nat → Int32 → ah_H → Option (Int32 × ah_H)) (a0 : Option Nat) (a1 : Int32) (h : ah_H) : Option (Int32 × ah_H) :=
  bX8_pagesIn_4 E kr zf a0 a1 (1 : Int32) (0 : Int32) h
set_option maxRecDepth 20000 in
set_option maxHeartbeats 4000000 in
theorem rX8_pagesIn_0 {X : ah_X} {d : Nat} {dk : Nat} {kr : Option Nat → Int32 → ah_H → Option (Int32 × ah_H)} (hkr : ∀ (d : Nat), dk ≤ d → ∀ (x0 : Option Nat) (x1 : Int32) (h : ah_H) (r : Int32) (h2 : ah_H), kr x0 x1 h = some (r, h2) → Rn X yX8_pagesIn cX8_pagesIn 4 (some .int) d [va_rf x0, .int x1] h (some (.int r)) h2) (hd : 2 ≤ d) (hdk : dk + 0 ≤ d) {a0 : Option Nat} {a1 : Int32} {h : ah_H} {r : Int32} {h2 : ah_H} (hf : bX8_pagesIn_0 X.2.2.2 kr a0 a1 h = some (r, h2)) : Rt X yX8_pagesIn cX8_pagesIn 4 (d + 1) 0 [(0, va_rf a0), (1, .int a1)] [] h (some (.int r)) h2 := by
  unfold bX8_pagesIn_0 at hf
  refine rt_iconst (pc := 0) (n := 1) (v := (1 : Int32)) (by decide) dX8_pagesIn_0 ?_
  refine rt_istore_n (pc := 1) (k0 := 2) (x := (1 : Int32)) (l2 := [(2, .int (1 : Int32)), (0, va_rf a0), (1, .int a1)]) (by decide) (by first | rfl | (simp [rt_cat, cat_i, cat_l]; done) | (simp [rt_cat, cat_i, cat_l]; decide)) dX8_pagesIn_1 ?_
  refine rt_iconst (pc := 2) (n := 0) (v := (0 : Int32)) (by decide) dX8_pagesIn_2 ?_
  refine rt_istore_n (pc := 3) (k0 := 3) (x := (0 : Int32)) (l2 := [(3, .int (0 : Int32)), (2, .int (1 : Int32)), (0, va_rf a0), (1, .int a1)]) (by decide) (by first | rfl | (simp [rt_cat, cat_i, cat_l]; done) | (simp [rt_cat, cat_i, cat_l]; decide)) dX8_pagesIn_3 ?_
  exact rt_locals (rt_sub [2, 3, 1, 0] rfl) (rX8_pagesIn_4 hkr hd hdk zf _ _ _ _ _ _ _ hf)
noncomputable def gX8_pagesIn (E : ah_E) (kr : Option Nat → Int32 → ah_H → Option (Int32 × ah_H)) (a0 : Option Nat) (a1 : Int32) (h : ah_H) : Option (Int32 × ah_H) := bX8_pagesIn_0 E kr a0 a1 h
set_option maxRecDepth 20000 in
set_option maxHeartbeats 4000000 in
theorem tX8_pagesIn {X : ah_X} {dk : Nat} {kr : Option Nat → Int32 → ah_H → Option (Int32 × ah_H)} (hkr : ∀ (d : Nat), dk ≤ d → ∀ (x0 : Option Nat) (x1 : Int32) (h : ah_H) (r : Int32) (h2 : ah_H), kr x0 x1 h = some (r, h2) → Rn X yX8_pagesIn cX8_pagesIn 4 (some .int) d [va_rf x0, .int x1] h (some (.int r)) h2) (d : Nat) (hdk : dk + 1 ≤ d) (hd : 3 ≤ d) {a0 : Option Nat} {a1 : Int32} {h : ah_H} {r : Int32} {h2 : ah_H} (hf : gX8_pagesIn X.2.2.2 kr a0 a1 h = some (r, h2)) : Rn X yX8_pagesIn cX8_pagesIn 4 (some .int) d [va_rf a0, .int a1] h (some (.int r)) h2 := by
  unfold gX8_pagesIn at hf
  obtain ⟨d, rfl⟩ : ∃ k, d = k + 1 := ⟨d - 1, by omega⟩
  exact Rn.of2 me_X8_pagesIn (by simp [lg_sl, rt_cat, cat_i, cat_l]) (ok_i _) (l := [(0, va_rf a0), (1, .int a1)]) (by simp [lv_args, rt_cat, cat_i, cat_l]) (rX8_pagesIn_0 hkr (by omega) (by omega) hf)
noncomputable def fX8_pagesIn (E : ah_E) : Nat → Option Nat → Int32 → ah_H → Option (Int32 × ah_H)
  | 0 => fun _ _ _ => none
  | n + 1 => fun a0 a1 h => gX8_pagesIn E (fX8_pagesIn E n) a0 a1 h
set_option maxRecDepth 20000 in
set_option maxHeartbeats 4000000 in
theorem sX8_pagesIn {X : ah_X} (n : Nat) : ∀ (d : Nat), 3 + 1 * n ≤ d → ∀ (a0 : Option Nat) (a1 : Int32) (h : ah_H) (r : Int32) (h2 : ah_H), fX8_pagesIn X.2.2.2 n a0 a1 h = some (r, h2) → Rn X yX8_pagesIn cX8_pagesIn 4 (some .int) d [va_rf a0, .int a1] h (some (.int r)) h2 := by
  induction n with
  | zero => intro d hd a0 a1 h r h2 hf; cases hf
  | succ n ih =>
    intro d hd a0 a1 h r h2 hf
    exact tX8_pagesIn (dk := 3 + 1 * n) ih d (by omega) (by omega) hf
noncomputable def bX8_pageAt_86 (E : ah_E) (kr : Option Nat → Int32 → Int32 → ah_H → Option (Option Nat × ah_H)) (h : ah_H) : Option (Option Nat × ah_H) :=
  some (none, h)
set_option maxRecDepth 20000 in
set_option maxHeartbeats 4000000 in
theorem rX8_pageAt_86 {X : ah_X} {d : Nat} {dk : Nat} {kr : Option Nat → Int32 → Int32 → ah_H → Option (Option Nat × ah_H)} (hkr : ∀ (d : Nat), dk ≤ d → ∀ (x0 : Option Nat) (x1 : Int32) (x2 : Int32) (h : ah_H) (r : Option Nat) (h2 : ah_H), kr x0 x1 x2 h = some (r, h2) → Rn X yX8_pageAt cX8_pageAt 7 (some (.object "LetterTree$Page")) d [va_rf x0, .int x1, .int x2] h (some (va_rf r)) h2) (hd : 48 ≤ d) (hdk : dk + 0 ≤ d)  {h : ah_H} {r : Option Nat} {h2 : ah_H} (hf : bX8_pageAt_86 X.2.2.2 kr  h = some (r, h2)) : Rt X yX8_pageAt cX8_pageAt 7 (d + 1) 86 [] [] h (some (va_rf r)) h2 := by
  unfold bX8_pageAt_86 at hf
  refine rt_null (pc := 86) dX8_pageAt_86 ?_
  cases hf
  exact rt_ret (pc := 87) (rt_atR _ dX8_pageAt_87) rfl
noncomputable def bX8_pageAt_11 (E : ah_E) (kr : Option Nat → Int32 → Int32 → ah_H → Option (Option Nat × ah_H)) : Nat → Option Nat → Int32 → Int32 → Int32 → Int32 → ah_H → Option (Option Nat × ah_H)
  | 0 => fun _ _ _ _ _ _ => none
  | n + 1 => fun a0 a1 a2 a3 a4 h =>
  if a1 ≤ 0 then
    bX8_pageAt_86 E kr  h
  else
  (hp_gr h a0 6 2).bind fun v2 =>
  ob2 (fJx4a65c_size_8abf5 E v2 h) fun v6 w5 =>
  if v6 ≤ a4 then
    bX8_pageAt_86 E kr  w5
  else
  if (40 : Int32) ≤ a2 then
    bX8_pageAt_86 E kr  w5
  else
  (hp_gr w5 a0 6 2).bind fun v10 =>
  ob2 (fJx4a65c_get_915e3 E v10 a4 w5) fun v14 w13 =>
  if hp_cls w13 v14 6 = false then none else
  ob2 (fX8_pagesIn E zd v14 (0 : Int32) w13) fun v19 w18 =>
  if (a3 + v19) ≤ a1 then
    bX8_pageAt_11 E kr n a0 a1 a2 (a3 + v19) (a4 + 1) w18
  else
  ob2 (kr v14 (a1 - a3) (a2 + (1 : Int32)) w18) fun v24 w23 =>
  some (v24, w23)
set_option maxRecDepth 20000 in
set_option maxHeartbeats 4000000 in
theorem rX8_pageAt_11 {X : ah_X} {d : Nat} {dk : Nat} {kr : Option Nat → Int32 → Int32 → ah_H → Option (Option Nat × ah_H)} (hkr : ∀ (d : Nat), dk ≤ d → ∀ (x0 : Option Nat) (x1 : Int32) (x2 : Int32) (h : ah_H) (r : Option Nat) (h2 : ah_H), kr x0 x1 x2 h = some (r, h2) → Rn X yX8_pageAt cX8_pageAt 7 (some (.object "LetterTree$Page")) d [va_rf x0, .int x1, .int x2] h (some (va_rf r)) h2) (hd : 48 ≤ d) (hdk : dk + 0 ≤ d) (n : Nat) : ∀ (a0 : Option Nat) (a1 : Int32) (a2 : Int32) (a3 : Int32) (a4 : Int32) (h : ah_H) (r : Option Nat) (h2 : ah_H), bX8_pageAt_11 X.2.2.2 kr n a0 a1 a2 a3 a4 h = some (r, h2) → Rt X yX8_pageAt cX8_pageAt 7 (d + 1) 11 [(0, va_rf a0), (1, .int a1), (2, .int a2), (3, .int a3), (4, .int a4)] [] h (some (va_rf r)) h2 := by
  induction n with
  | zero => intro a0 a1 a2 a3 a4 h r h2 hf; cases hf
  | succ n ih =>
  intro a0 a1 a2 a3 a4 h r h2 hf
  unfold bX8_pageAt_11 at hf
  refine rt_iload_n (pc := 11) (k0 := 1) (x := a1) 1 rfl dX8_pageAt_11 ?_
  by_cases c1 : a1 ≤ 0
  · rw [if_pos c1] at hf
    refine rt_if_le_p (pc := 12) (x := a1) (tgt := 86) (by decide) dX8_pageAt_12 c1 ?_
    exact rt_locals (rt_sub [] rfl) (rX8_pageAt_86 hkr hd hdk hf)
  rw [if_neg c1] at hf
  refine rt_if_le_n (pc := 12) (x := a1) (tgt := 86) (by decide) dX8_pageAt_12 c1 ?_
  refine rt_iload (pc := 15) (i := 4) (x := a4) 4 rfl dX8_pageAt_15 ?_
  refine rt_aload_n (pc := 17) (k0 := 0) (x := a0) 0 rfl dX8_pageAt_17 ?_
  obtain ⟨v2, e3, hf⟩ := ob1 hf
  refine rt_gr (pc := 18) fd_X8_53 dX8_pageAt_18 e3 ?_
  obtain ⟨v6, w5, e4, hf⟩ := ob2_of hf
  have g7 := sJx4a65c_size_8abf5 d (by omega) e4
  refine rt_callV (pc := 21) (As := []) (st := [.int a4]) me_Jx4a65c_size_8abf5 mi_Jx4a65c_size_8abf5 wl_X8_46 dX8_pageAt_21 rfl (by simp [rt_cat, cat_i, cat_l]) rfl g7.1 g7.2 ?_
  by_cases c8 : v6 ≤ a4
  · rw [if_pos c8] at hf
    refine rt_icmp_ge_p (pc := 24) (x := a4) (z := v6) (tgt := 86) (by decide) dX8_pageAt_24 c8 ?_
    exact rt_locals (rt_sub [] rfl) (rX8_pageAt_86 hkr hd hdk hf)
  rw [if_neg c8] at hf
  refine rt_icmp_ge_n (pc := 24) (x := a4) (z := v6) (tgt := 86) (by decide) dX8_pageAt_24 c8 ?_
  refine rt_iload_n (pc := 27) (k0 := 2) (x := a2) 2 rfl dX8_pageAt_27 ?_
  refine rt_bipush (pc := 28) (n := 40) (v := (40 : Int32)) (by decide) dX8_pageAt_28 ?_
  by_cases c9 : (40 : Int32) ≤ a2
  · rw [if_pos c9] at hf
    refine rt_icmp_ge_p (pc := 30) (x := a2) (z := (40 : Int32)) (tgt := 86) (by decide) dX8_pageAt_30 c9 ?_
    exact rt_locals (rt_sub [] rfl) (rX8_pageAt_86 hkr hd hdk hf)
  rw [if_neg c9] at hf
  refine rt_icmp_ge_n (pc := 30) (x := a2) (z := (40 : Int32)) (tgt := 86) (by decide) dX8_pageAt_30 c9 ?_
  refine rt_aload_n (pc := 33) (k0 := 0) (x := a0) 0 rfl dX8_pageAt_33 ?_
  obtain ⟨v10, e11, hf⟩ := ob1 hf
  refine rt_gr (pc := 34) fd_X8_53 dX8_pageAt_34 e11 ?_
  refine rt_iload (pc := 37) (i := 4) (x := a4) 4 rfl dX8_pageAt_37 ?_
  obtain ⟨v14, w13, e12, hf⟩ := ob2_of hf
  have g15 := sJx4a65c_get_915e3 d (by omega) e12
  refine rt_callV (pc := 39) (As := [.int a4]) (st := []) me_Jx4a65c_get_915e3 mi_Jx4a65c_get_915e3 wl_X8_56 dX8_pageAt_39 rfl (by decide) rfl g15.1 g15.2 ?_
  by_cases c16 : hp_cls w13 v14 6 = false
  · rw [if_pos c16] at hf; cases hf
  rw [if_neg c16] at hf
  refine rt_cast (pc := 42) (x := v14) (show vwCl[6]? = some (RX5, TX5, 5) from rfl) wc_X8_16 dX8_pageAt_42 ((Bool.not_eq_false _).mp c16) ?_
  refine rt_astore (pc := 45) (i := 5) (x := v14) (l2 := [(5, va_rf v14), (0, va_rf a0), (1, .int a1), (2, .int a2), (3, .int a3), (4, .int a4)]) (by decide) (by first | rfl | (simp [rt_cat, cat_i, cat_l]; done) | (simp [rt_cat, cat_i, cat_l]; decide)) dX8_pageAt_45 ?_
  refine rt_aload (pc := 47) (i := 5) (x := v14) 0 rfl dX8_pageAt_47 ?_
  refine rt_iconst (pc := 49) (n := 0) (v := (0 : Int32)) (by decide) dX8_pageAt_49 ?_
  obtain ⟨v19, w18, e17, hf⟩ := ob2_of hf
  have g20 := sX8_pagesIn zd d (by unfold zd; omega) _ _ _ _ _ e17
  refine rt_callS (pc := 50) (As := [va_rf v14, .int (0 : Int32)]) (st := []) me_X8_pagesIn ms_X8_pagesIn wl_X8_120 dX8_pageAt_50 rfl (by decide) rfl g20 ?_
  refine rt_istore (pc := 53) (i := 6) (x := v19) (l2 := [(6, .int v19), (5, va_rf v14), (0, va_rf a0), (1, .int a1), (2, .int a2), (3, .int a3), (4, .int a4)]) (by decide) (by first | rfl | (simp [rt_cat, cat_i, cat_l]; done) | (simp [rt_cat, cat_i, cat_l]; decide)) dX8_pageAt_53 ?_
  refine rt_iload_n (pc := 55) (k0 := 1) (x := a1) 3 rfl dX8_pageAt_55 ?_
  refine rt_iload_n (pc := 56) (k0 := 3) (x := a3) 5 rfl dX8_pageAt_56 ?_
  refine rt_iload (pc := 57) (i := 6) (x := v19) 0 rfl dX8_pageAt_57 ?_
  refine rt_iadd (pc := 59) (x := a3) (z := v19) dX8_pageAt_59 ?_
  by_cases c21 : (a3 + v19) ≤ a1
  · rw [if_pos c21] at hf
    refine rt_icmp_ge_p (pc := 60) (x := a1) (z := (a3 + v19)) (tgt := 75) (by decide) dX8_pageAt_60 c21 ?_
    refine rt_iload_n (pc := 75) (k0 := 3) (x := a3) 5 rfl dX8_pageAt_75 ?_
    refine rt_iload (pc := 76) (i := 6) (x := v19) 0 rfl dX8_pageAt_76 ?_
    refine rt_iadd (pc := 78) (x := a3) (z := v19) dX8_pageAt_78 ?_
    refine rt_istore_n (pc := 79) (k0 := 3) (x := (a3 + v19)) (l2 := [(3, .int (a3 + v19)), (6, .int v19), (5, va_rf v14), (0, va_rf a0), (1, .int a1), (2, .int a2), (4, .int a4)]) (by decide) (by first | rfl | (simp [rt_cat, cat_i, cat_l]; done) | (simp [rt_cat, cat_i, cat_l]; decide)) dX8_pageAt_79 ?_
    refine rt_iinc (pc := 80) (i := 4) (n := 1) (x := a4) (v := (a4 + 1)) (l2 := [(4, .int (a4 + 1)), (3, .int (a3 + v19)), (6, .int v19), (5, va_rf v14), (0, va_rf a0), (1, .int a1), (2, .int a2)]) 6 rfl rfl (by decide) (by first | rfl | (simp [rt_cat, cat_i, cat_l]; done) | (simp [rt_cat, cat_i, cat_l]; decide)) dX8_pageAt_80 ?_
    refine rt_goto (pc := 83) (tgt := 11) (by decide) dX8_pageAt_83 ?_
    exact rt_locals (rt_sub [4, 5, 6, 1, 0] rfl) (ih _ _ _ _ _ _ _ _ hf)
  rw [if_neg c21] at hf
  refine rt_icmp_ge_n (pc := 60) (x := a1) (z := (a3 + v19)) (tgt := 75) (by decide) dX8_pageAt_60 c21 ?_
  refine rt_aload (pc := 63) (i := 5) (x := v14) 1 rfl dX8_pageAt_63 ?_
  refine rt_iload_n (pc := 65) (k0 := 1) (x := a1) 3 rfl dX8_pageAt_65 ?_
  refine rt_iload_n (pc := 66) (k0 := 3) (x := a3) 5 rfl dX8_pageAt_66 ?_
  refine rt_isub (pc := 67) (x := a1) (z := a3) dX8_pageAt_67 ?_
  refine rt_iload_n (pc := 68) (k0 := 2) (x := a2) 4 rfl dX8_pageAt_68 ?_
  refine rt_iconst (pc := 69) (n := 1) (v := (1 : Int32)) (by decide) dX8_pageAt_69 ?_
  refine rt_iadd (pc := 70) (x := a2) (z := (1 : Int32)) dX8_pageAt_70 ?_
  obtain ⟨v24, w23, e22, hf⟩ := ob2_of hf
  have g25 := hkr d (by omega) _ _ _ _ _ _ e22
  refine rt_callS (pc := 71) (As := [va_rf v14, .int (a1 - a3), .int (a2 + (1 : Int32))]) (st := []) me_X8_pageAt ms_X8_pageAt wl_X8_130 dX8_pageAt_71 rfl (by decide) rfl g25 ?_
  cases hf
  exact rt_ret (pc := 74) (rt_atR _ dX8_pageAt_74) rfl
noncomputable def bX8_pageAt_0 (E : ah_E) (kr : Option Nat → Int32 → Int32 → ah_H → Option (Option Nat × ah_H)) (a0 : Option Nat) (a1 : Int32) (a2 : Int32) (h : ah_H) : Option (Option Nat × ah_H) :=
  if a1 = 0 then
    some (a0, h)
  else
  bX8_pageAt_11 E kr zf a0 a1 a2 (1 : Int32) (0 : Int32) h
set_option maxRecDepth 20000 in
set_option maxHeartbeats 4000000 in
theorem rX8_pageAt_0 {X : ah_X} {d : Nat} {dk : Nat} {kr : Option Nat → Int32 → Int32 → ah_H → Option (Option Nat × ah_H)} (hkr : ∀ (d : Nat), dk ≤ d → ∀ (x0 : Option Nat) (x1 : Int32) (x2 : Int32) (h : ah_H) (r : Option Nat) (h2 : ah_H), kr x0 x1 x2 h = some (r, h2) → Rn X yX8_pageAt cX8_pageAt 7 (some (.object "LetterTree$Page")) d [va_rf x0, .int x1, .int x2] h (some (va_rf r)) h2) (hd : 48 ≤ d) (hdk : dk + 0 ≤ d) {a0 : Option Nat} {a1 : Int32} {a2 : Int32} {h : ah_H} {r : Option Nat} {h2 : ah_H} (hf : bX8_pageAt_0 X.2.2.2 kr a0 a1 a2 h = some (r, h2)) : Rt X yX8_pageAt cX8_pageAt 7 (d + 1) 0 [(0, va_rf a0), (1, .int a1), (2, .int a2)] [] h (some (va_rf r)) h2 := by
  unfold bX8_pageAt_0 at hf
  refine rt_iload_n (pc := 0) (k0 := 1) (x := a1) 1 rfl dX8_pageAt_0 ?_
  by_cases c1 : a1 = 0
  · rw [if_pos c1] at hf
    refine rt_if_ne_p (pc := 1) (x := a1) (tgt := 6) (by decide) dX8_pageAt_1 c1 ?_
    refine rt_aload_n (pc := 4) (k0 := 0) (x := a0) 0 rfl dX8_pageAt_4 ?_
    cases hf
    exact rt_ret (pc := 5) (rt_atR _ dX8_pageAt_5) rfl
  rw [if_neg c1] at hf
  refine rt_if_ne_n (pc := 1) (x := a1) (tgt := 6) (by decide) dX8_pageAt_1 c1 ?_
  refine rt_iconst (pc := 6) (n := 1) (v := (1 : Int32)) (by decide) dX8_pageAt_6 ?_
  refine rt_istore_n (pc := 7) (k0 := 3) (x := (1 : Int32)) (l2 := [(3, .int (1 : Int32)), (0, va_rf a0), (1, .int a1), (2, .int a2)]) (by decide) (by first | rfl | (simp [rt_cat, cat_i, cat_l]; done) | (simp [rt_cat, cat_i, cat_l]; decide)) dX8_pageAt_7 ?_
  refine rt_iconst (pc := 8) (n := 0) (v := (0 : Int32)) (by decide) dX8_pageAt_8 ?_
  refine rt_istore (pc := 9) (i := 4) (x := (0 : Int32)) (l2 := [(4, .int (0 : Int32)), (3, .int (1 : Int32)), (0, va_rf a0), (1, .int a1), (2, .int a2)]) (by decide) (by first | rfl | (simp [rt_cat, cat_i, cat_l]; done) | (simp [rt_cat, cat_i, cat_l]; decide)) dX8_pageAt_9 ?_
  exact rt_locals (rt_sub [2, 3, 4, 1, 0] rfl) (rX8_pageAt_11 hkr hd hdk zf _ _ _ _ _ _ _ _ hf)
noncomputable def gX8_pageAt (E : ah_E) (kr : Option Nat → Int32 → Int32 → ah_H → Option (Option Nat × ah_H)) (a0 : Option Nat) (a1 : Int32) (a2 : Int32) (h : ah_H) : Option (Option Nat × ah_H) := bX8_pageAt_0 E kr a0 a1 a2 h
set_option maxRecDepth 20000 in
set_option maxHeartbeats 4000000 in
theorem tX8_pageAt {X : ah_X} {dk : Nat} {kr : Option Nat → Int32 → Int32 → ah_H → Option (Option Nat × ah_H)} (hkr : ∀ (d : Nat), dk ≤ d → ∀ (x0 : Option Nat) (x1 : Int32) (x2 : Int32) (h : ah_H) (r : Option Nat) (h2 : ah_H), kr x0 x1 x2 h = some (r, h2) → Rn X yX8_pageAt cX8_pageAt 7 (some (.object "LetterTree$Page")) d [va_rf x0, .int x1, .int x2] h (some (va_rf r)) h2) (d : Nat) (hdk : dk + 1 ≤ d) (hd : 49 ≤ d) {a0 : Option Nat} {a1 : Int32} {a2 : Int32} {h : ah_H} {r : Option Nat} {h2 : ah_H} (hf : gX8_pageAt X.2.2.2 kr a0 a1 a2 h = some (r, h2)) : Rn X yX8_pageAt cX8_pageAt 7 (some (.object "LetterTree$Page")) d [va_rf a0, .int a1, .int a2] h (some (va_rf r)) h2 := by
  unfold gX8_pageAt at hf
  obtain ⟨d, rfl⟩ : ∃ k, d = k + 1 := ⟨d - 1, by omega⟩
  exact Rn.of2 me_X8_pageAt (by simp [lg_sl, rt_cat, cat_i, cat_l]) (ok_o _ _) (l := [(0, va_rf a0), (1, .int a1), (2, .int a2)]) (by simp [lv_args, rt_cat, cat_i, cat_l]) (rX8_pageAt_0 hkr (by omega) (by omega) hf)
noncomputable def fX8_pageAt (E : ah_E) : Nat → Option Nat → Int32 → Int32 → ah_H → Option (Option Nat × ah_H)
  | 0 => fun _ _ _ _ => none
  | n + 1 => fun a0 a1 a2 h => gX8_pageAt E (fX8_pageAt E n) a0 a1 a2 h
set_option maxRecDepth 20000 in
set_option maxHeartbeats 4000000 in
theorem sX8_pageAt {X : ah_X} (n : Nat) : ∀ (d : Nat), 49 + 1 * n ≤ d → ∀ (a0 : Option Nat) (a1 : Int32) (a2 : Int32) (h : ah_H) (r : Option Nat) (h2 : ah_H), fX8_pageAt X.2.2.2 n a0 a1 a2 h = some (r, h2) → Rn X yX8_pageAt cX8_pageAt 7 (some (.object "LetterTree$Page")) d [va_rf a0, .int a1, .int a2] h (some (va_rf r)) h2 := by
  induction n with
  | zero => intro d hd a0 a1 a2 h r h2 hf; cases hf
  | succ n ih =>
    intro d hd a0 a1 a2 h r h2 hf
    exact tX8_pageAt (dk := 49 + 1 * n) ih d (by omega) (by omega) hf
noncomputable def bX7_addBytes_53 (E : ah_E) (h : ah_H) : Option ah_H :=
  some h
set_option maxRecDepth 20000 in
set_option maxHeartbeats 4000000 in
theorem rX7_addBytes_53 {X : ah_X} {d : Nat}  {h : ah_H} {h2 : ah_H} (hf : bX7_addBytes_53 X.2.2.2  h = some h2) : Rt X yX7_addBytes cX7_addBytes 5 d 53 [] [] h none h2 := by
  unfold bX7_addBytes_53 at hf
  cases hf
  exact rt_ret (pc := 53) dX7_addBytes_53 rfl
noncomputable def bX7_addBytes_5 (E : ah_E) : Nat → Option Nat → Int64 → Int32 → ah_H → Option ah_H
  | 0 => fun _ _ _ _ => none
  | n + 1 => fun a0 a1 a4 h =>
  if a4 < 0 then
    bX7_addBytes_53 E  h
  else
  (hp_gi h a0 8 1).bind fun v2 =>
  if (40 : Int32) ≤ v2 then
    bX7_addBytes_53 E  h
  else
  (hp_gr h a0 8 0).bind fun v5 =>
  (hp_gi h a0 8 1).bind fun v7 =>
  (hp_stb h v5 v7 ((((((a1).toUInt64 >>> ((((8 : Int32) * a4)).toInt64.toUInt64 &&& Int64.toUInt64 63)).toInt64)).toInt32).toInt8.toInt32)).bind fun w9 =>
  (hp_gi w9 a0 8 1).bind fun v11 =>
  (hp_pv w9 a0 8 1 (.int (v11 + (1 : Int32)))).bind fun w13 =>
  bX7_addBytes_5 E n a0 a1 (a4 + (-1)) w13
set_option maxRecDepth 20000 in
set_option maxHeartbeats 4000000 in
theorem rX7_addBytes_5 {X : ah_X} {d : Nat} (n : Nat) : ∀ (a0 : Option Nat) (a1 : Int64) (a4 : Int32) (h : ah_H) (h2 : ah_H), bX7_addBytes_5 X.2.2.2 n a0 a1 a4 h = some h2 → Rt X yX7_addBytes cX7_addBytes 5 d 5 [(0, va_rf a0), (1, .long a1), (4, .int a4)] [] h none h2 := by
  induction n with
  | zero => intro a0 a1 a4 h h2 hf; cases hf
  | succ n ih =>
  intro a0 a1 a4 h h2 hf
  unfold bX7_addBytes_5 at hf
  refine rt_iload (pc := 5) (i := 4) (x := a4) 2 rfl dX7_addBytes_5 ?_
  by_cases c1 : a4 < 0
  · rw [if_pos c1] at hf
    refine rt_if_lt_p (pc := 7) (x := a4) (tgt := 53) (by decide) dX7_addBytes_7 c1 ?_
    exact rt_locals (rt_sub [] rfl) (rX7_addBytes_53 hf)
  rw [if_neg c1] at hf
  refine rt_if_lt_n (pc := 7) (x := a4) (tgt := 53) (by decide) dX7_addBytes_7 c1 ?_
  refine rt_aload_n (pc := 10) (k0 := 0) (x := a0) 0 rfl dX7_addBytes_10 ?_
  obtain ⟨v2, e3, hf⟩ := ob1 hf
  refine rt_gi (pc := 11) fd_X7_15 dX7_addBytes_11 e3 ?_
  refine rt_bipush (pc := 14) (n := 40) (v := (40 : Int32)) (by decide) dX7_addBytes_14 ?_
  by_cases c4 : (40 : Int32) ≤ v2
  · rw [if_pos c4] at hf
    refine rt_icmp_ge_p (pc := 16) (x := v2) (z := (40 : Int32)) (tgt := 53) (by decide) dX7_addBytes_16 c4 ?_
    exact rt_locals (rt_sub [] rfl) (rX7_addBytes_53 hf)
  rw [if_neg c4] at hf
  refine rt_icmp_ge_n (pc := 16) (x := v2) (z := (40 : Int32)) (tgt := 53) (by decide) dX7_addBytes_16 c4 ?_
  refine rt_aload_n (pc := 19) (k0 := 0) (x := a0) 0 rfl dX7_addBytes_19 ?_
  obtain ⟨v5, e6, hf⟩ := ob1 hf
  refine rt_gr (pc := 20) fd_X7_9 dX7_addBytes_20 e6 ?_
  refine rt_aload_n (pc := 23) (k0 := 0) (x := a0) 0 rfl dX7_addBytes_23 ?_
  obtain ⟨v7, e8, hf⟩ := ob1 hf
  refine rt_gi (pc := 24) fd_X7_15 dX7_addBytes_24 e8 ?_
  refine rt_lload_n (pc := 27) (k0 := 1) (x := a1) 1 rfl dX7_addBytes_27 ?_
  refine rt_bipush (pc := 28) (n := 8) (v := (8 : Int32)) (by decide) dX7_addBytes_28 ?_
  refine rt_iload (pc := 30) (i := 4) (x := a4) 2 rfl dX7_addBytes_30 ?_
  refine rt_imul (pc := 32) (x := (8 : Int32)) (z := a4) dX7_addBytes_32 ?_
  refine rt_lushr (pc := 33) (x := a1) (z := ((8 : Int32) * a4)) dX7_addBytes_33 ?_
  refine rt_l2i (pc := 34) (x := (((a1).toUInt64 >>> ((((8 : Int32) * a4)).toInt64.toUInt64 &&& Int64.toUInt64 63)).toInt64)) dX7_addBytes_34 ?_
  refine rt_i2b (pc := 35) (x := ((((a1).toUInt64 >>> ((((8 : Int32) * a4)).toInt64.toUInt64 &&& Int64.toUInt64 63)).toInt64)).toInt32) dX7_addBytes_35 ?_
  obtain ⟨w9, e10, hf⟩ := ob1 hf
  refine rt_bast (pc := 36) dX7_addBytes_36 e10 ?_
  refine rt_aload_n (pc := 37) (k0 := 0) (x := a0) 0 rfl dX7_addBytes_37 ?_
  refine rt_dup (pc := 38) (rt_cat _) dX7_addBytes_38 ?_
  obtain ⟨v11, e12, hf⟩ := ob1 hf
  refine rt_gi (pc := 39) fd_X7_15 dX7_addBytes_39 e12 ?_
  refine rt_iconst (pc := 42) (n := 1) (v := (1 : Int32)) (by decide) dX7_addBytes_42 ?_
  refine rt_iadd (pc := 43) (x := v11) (z := (1 : Int32)) dX7_addBytes_43 ?_
  obtain ⟨w13, e14, hf⟩ := ob1 hf
  refine rt_putf (pc := 44) (x := a0) fw_X7_15 (Or.inl rfl) (pf_i _).1 (pf_i _).2 dX7_addBytes_44 e14 ?_
  refine rt_iinc (pc := 47) (i := 4) (n := -1) (x := a4) (v := (a4 + (-1))) (l2 := [(4, .int (a4 + (-1))), (0, va_rf a0), (1, .long a1)]) 2 rfl rfl (by decide) (by first | rfl | (simp [rt_cat, cat_i, cat_l]; done) | (simp [rt_cat, cat_i, cat_l]; decide)) dX7_addBytes_47 ?_
  refine rt_goto (pc := 50) (tgt := 5) (by decide) dX7_addBytes_50 ?_
  exact rt_locals (rt_sub [1, 2, 0] rfl) (ih _ _ _ _ _ hf)
noncomputable def bX7_addBytes_0 (E : ah_E) (a0 : Option Nat) (a1 : Int64) (a3 : Int32) (h : ah_H) : Option ah_H :=
  bX7_addBytes_5 E zf a0 a1 (a3 - (1 : Int32)) h
set_option maxRecDepth 20000 in
set_option maxHeartbeats 4000000 in
theorem rX7_addBytes_0 {X : ah_X} {d : Nat} {a0 : Option Nat} {a1 : Int64} {a3 : Int32} {h : ah_H} {h2 : ah_H} (hf : bX7_addBytes_0 X.2.2.2 a0 a1 a3 h = some h2) : Rt X yX7_addBytes cX7_addBytes 5 d 0 [(0, va_rf a0), (1, .long a1), (3, .int a3)] [] h none h2 := by
  unfold bX7_addBytes_0 at hf
  refine rt_iload_n (pc := 0) (k0 := 3) (x := a3) 2 rfl dX7_addBytes_0 ?_
  refine rt_iconst (pc := 1) (n := 1) (v := (1 : Int32)) (by decide) dX7_addBytes_1 ?_
  refine rt_isub (pc := 2) (x := a3) (z := (1 : Int32)) dX7_addBytes_2 ?_
  refine rt_istore (pc := 3) (i := 4) (x := (a3 - (1 : Int32))) (l2 := [(4, .int (a3 - (1 : Int32))), (0, va_rf a0), (1, .long a1), (3, .int a3)]) (by decide) (by first | rfl | (simp [rt_cat, cat_i, cat_l]; done) | (simp [rt_cat, cat_i, cat_l]; decide)) dX7_addBytes_3 ?_
  exact rt_locals (rt_sub [1, 2, 0] rfl) (rX7_addBytes_5 zf _ _ _ _ _ hf)
noncomputable def fX7_addBytes (E : ah_E) (a0 : Option Nat) (a1 : Int64) (a3 : Int32) (h : ah_H) : Option ah_H := if hp_rcv h a0 8 = false then none else bX7_addBytes_0 E a0 a1 a3 h
set_option maxRecDepth 20000 in
set_option maxHeartbeats 4000000 in
theorem sX7_addBytes {X : ah_X} (d : Nat) (hd : 0 ≤ d) {a0 : Option Nat} {a1 : Int64} {a3 : Int32} {h : ah_H} {h2 : ah_H} (hf : fX7_addBytes X.2.2.2 a0 a1 a3 h = some h2) : hp_rcv h a0 8 = true ∧ Rn X yX7_addBytes cX7_addBytes 5 none d [va_rf a0, .long a1, .int a3] h none h2 := by
  unfold fX7_addBytes at hf
  by_cases c0 : hp_rcv h a0 8 = false
  · rw [if_pos c0] at hf; cases hf
  rw [if_neg c0] at hf
  refine ⟨(Bool.not_eq_false _).mp c0, ?_⟩
  exact Rn.of2 me_X7_addBytes (by simp [lg_sl, rt_cat, cat_i, cat_l]) rfl (l := [(0, va_rf a0), (1, .long a1), (3, .int a3)]) (by simp [lv_args, rt_cat, cat_i, cat_l]) (rX7_addBytes_0 hf)
noncomputable def bX0_markPages_93 (E : ah_E) (kr : Option Nat → Option Nat → Int32 → ah_H → Option ah_H) (h : ah_H) : Option ah_H :=
  some h
set_option maxRecDepth 20000 in
set_option maxHeartbeats 4000000 in
theorem rX0_markPages_93 {X : ah_X} {d : Nat} {dk : Nat} {kr : Option Nat → Option Nat → Int32 → ah_H → Option ah_H} (hkr : ∀ (d : Nat), dk ≤ d → ∀ (x0 : Option Nat) (x1 : Option Nat) (x2 : Int32) (h : ah_H) (h2 : ah_H), kr x0 x1 x2 h = some h2 → Rn X yX0_markPages cX0_markPages 4 none d [va_rf x0, va_rf x1, .int x2] h none h2) (hd : 2 ≤ d) (hdk : dk + 0 ≤ d)  {h : ah_H} {h2 : ah_H} (hf : bX0_markPages_93 X.2.2.2 kr  h = some h2) : Rt X yX0_markPages cX0_markPages 4 (d + 1) 93 [] [] h none h2 := by
  unfold bX0_markPages_93 at hf
  cases hf
  exact rt_ret (pc := 93) dX0_markPages_93 rfl
noncomputable def bX0_markPages_52 (E : ah_E) (kr : Option Nat → Option Nat → Int32 → ah_H → Option ah_H) : Nat → Option Nat → Option Nat → Int32 → Int32 → ah_H → Option ah_H
  | 0 => fun _ _ _ _ _ => none
  | n + 1 => fun a0 a1 a2 a3 h =>
  (hp_gr h a1 6 2).bind fun v1 =>
  ob2 (fJx4a65c_size_8abf5 E v1 h) fun v5 w4 =>
  if v5 ≤ a3 then
    bX0_markPages_93 E kr  w4
  else
  if (40 : Int32) ≤ a2 then
    bX0_markPages_93 E kr  w4
  else
  (hp_gr w4 a1 6 2).bind fun v9 =>
  ob2 (fJx4a65c_get_915e3 E v9 a3 w4) fun v13 w12 =>
  if hp_cls w12 v13 6 = false then none else
  (kr a0 v13 (a2 + (1 : Int32)) w12).bind fun w17 =>
  bX0_markPages_52 E kr n a0 a1 a2 (a3 + 1) w17
set_option maxRecDepth 20000 in
set_option maxHeartbeats 4000000 in
theorem rX0_markPages_52 {X : ah_X} {d : Nat} {dk : Nat} {kr : Option Nat → Option Nat → Int32 → ah_H → Option ah_H} (hkr : ∀ (d : Nat), dk ≤ d → ∀ (x0 : Option Nat) (x1 : Option Nat) (x2 : Int32) (h : ah_H) (h2 : ah_H), kr x0 x1 x2 h = some h2 → Rn X yX0_markPages cX0_markPages 4 none d [va_rf x0, va_rf x1, .int x2] h none h2) (hd : 2 ≤ d) (hdk : dk + 0 ≤ d) (n : Nat) : ∀ (a0 : Option Nat) (a1 : Option Nat) (a2 : Int32) (a3 : Int32) (h : ah_H) (h2 : ah_H), bX0_markPages_52 X.2.2.2 kr n a0 a1 a2 a3 h = some h2 → Rt X yX0_markPages cX0_markPages 4 (d + 1) 52 [(0, va_rf a0), (1, va_rf a1), (2, .int a2), (3, .int a3)] [] h none h2 := by
  induction n with
  | zero => intro a0 a1 a2 a3 h h2 hf; cases hf
  | succ n ih =>
  intro a0 a1 a2 a3 h h2 hf
  unfold bX0_markPages_52 at hf
  refine rt_iload_n (pc := 52) (k0 := 3) (x := a3) 3 rfl dX0_markPages_52 ?_
  refine rt_aload_n (pc := 53) (k0 := 1) (x := a1) 1 rfl dX0_markPages_53 ?_
  obtain ⟨v1, e2, hf⟩ := ob1 hf
  refine rt_gr (pc := 54) fd_X0_72 dX0_markPages_54 e2 ?_
  obtain ⟨v5, w4, e3, hf⟩ := ob2_of hf
  have g6 := sJx4a65c_size_8abf5 d (by omega) e3
  refine rt_callV (pc := 57) (As := []) (st := [.int a3]) me_Jx4a65c_size_8abf5 mi_Jx4a65c_size_8abf5 wl_X0_54 dX0_markPages_57 rfl (by simp [rt_cat, cat_i, cat_l]) rfl g6.1 g6.2 ?_
  by_cases c7 : v5 ≤ a3
  · rw [if_pos c7] at hf
    refine rt_icmp_ge_p (pc := 60) (x := a3) (z := v5) (tgt := 93) (by decide) dX0_markPages_60 c7 ?_
    exact rt_locals (rt_sub [] rfl) (rX0_markPages_93 hkr hd hdk hf)
  rw [if_neg c7] at hf
  refine rt_icmp_ge_n (pc := 60) (x := a3) (z := v5) (tgt := 93) (by decide) dX0_markPages_60 c7 ?_
  refine rt_iload_n (pc := 63) (k0 := 2) (x := a2) 2 rfl dX0_markPages_63 ?_
  refine rt_bipush (pc := 64) (n := 40) (v := (40 : Int32)) (by decide) dX0_markPages_64 ?_
  by_cases c8 : (40 : Int32) ≤ a2
  · rw [if_pos c8] at hf
    refine rt_icmp_ge_p (pc := 66) (x := a2) (z := (40 : Int32)) (tgt := 93) (by decide) dX0_markPages_66 c8 ?_
    exact rt_locals (rt_sub [] rfl) (rX0_markPages_93 hkr hd hdk hf)
  rw [if_neg c8] at hf
  refine rt_icmp_ge_n (pc := 66) (x := a2) (z := (40 : Int32)) (tgt := 93) (by decide) dX0_markPages_66 c8 ?_
  refine rt_aload_n (pc := 69) (k0 := 0) (x := a0) 0 rfl dX0_markPages_69 ?_
  refine rt_aload_n (pc := 70) (k0 := 1) (x := a1) 1 rfl dX0_markPages_70 ?_
  obtain ⟨v9, e10, hf⟩ := ob1 hf
  refine rt_gr (pc := 71) fd_X0_72 dX0_markPages_71 e10 ?_
  refine rt_iload_n (pc := 74) (k0 := 3) (x := a3) 3 rfl dX0_markPages_74 ?_
  obtain ⟨v13, w12, e11, hf⟩ := ob2_of hf
  have g14 := sJx4a65c_get_915e3 d (by omega) e11
  refine rt_callV (pc := 75) (As := [.int a3]) (st := [va_rf a0]) me_Jx4a65c_get_915e3 mi_Jx4a65c_get_915e3 wl_X0_60 dX0_markPages_75 rfl (by simp [rt_cat, cat_i, cat_l]) rfl g14.1 g14.2 ?_
  by_cases c15 : hp_cls w12 v13 6 = false
  · rw [if_pos c15] at hf; cases hf
  rw [if_neg c15] at hf
  refine rt_cast (pc := 78) (x := v13) (show vwCl[6]? = some (RX5, TX5, 5) from rfl) wc_X0_68 dX0_markPages_78 ((Bool.not_eq_false _).mp c15) ?_
  refine rt_iload_n (pc := 81) (k0 := 2) (x := a2) 2 rfl dX0_markPages_81 ?_
  refine rt_iconst (pc := 82) (n := 1) (v := (1 : Int32)) (by decide) dX0_markPages_82 ?_
  refine rt_iadd (pc := 83) (x := a2) (z := (1 : Int32)) dX0_markPages_83 ?_
  obtain ⟨w17, e16, hf⟩ := ob1 hf
  have g18 := hkr d (by omega) _ _ _ _ _ e16
  refine rt_callS (pc := 84) (As := [va_rf a0, va_rf v13, .int (a2 + (1 : Int32))]) (st := []) me_X0_markPages ms_X0_markPages wl_X0_38 dX0_markPages_84 rfl (by decide) rfl g18 ?_
  refine rt_iinc (pc := 87) (i := 3) (n := 1) (x := a3) (v := (a3 + 1)) (l2 := [(3, .int (a3 + 1)), (0, va_rf a0), (1, va_rf a1), (2, .int a2)]) 3 rfl rfl (by decide) (by first | rfl | (simp [rt_cat, cat_i, cat_l]; done) | (simp [rt_cat, cat_i, cat_l]; decide)) dX0_markPages_87 ?_
  refine rt_goto (pc := 90) (tgt := 52) (by decide) dX0_markPages_90 ?_
  exact rt_locals (rt_sub [1, 2, 3, 0] rfl) (ih _ _ _ _ _ _ hf)
noncomputable def bX0_markPages_50 (E : ah_E) (kr : Option Nat → Option Nat → Int32 → ah_H → Option ah_H) (a0 : Option Nat) (a1 : Option Nat) (a2 : Int32) (h : ah_H) : Option ah_H :=
  bX0_markPages_52 E kr zf a0 a1 a2 (0 : Int32) h
set_option maxRecDepth 20000 in
set_option maxHeartbeats 4000000 in
theorem rX0_markPages_50 {X : ah_X} {d : Nat} {dk : Nat} {kr : Option Nat → Option Nat → Int32 → ah_H → Option ah_H} (hkr : ∀ (d : Nat), dk ≤ d → ∀ (x0 : Option Nat) (x1 : Option Nat) (x2 : Int32) (h : ah_H) (h2 : ah_H), kr x0 x1 x2 h = some h2 → Rn X yX0_markPages cX0_markPages 4 none d [va_rf x0, va_rf x1, .int x2] h none h2) (hd : 2 ≤ d) (hdk : dk + 0 ≤ d) {a0 : Option Nat} {a1 : Option Nat} {a2 : Int32} {h : ah_H} {h2 : ah_H} (hf : bX0_markPages_50 X.2.2.2 kr a0 a1 a2 h = some h2) : Rt X yX0_markPages cX0_markPages 4 (d + 1) 50 [(0, va_rf a0), (1, va_rf a1), (2, .int a2)] [] h none h2 := by
  unfold bX0_markPages_50 at hf
  refine rt_iconst (pc := 50) (n := 0) (v := (0 : Int32)) (by decide) dX0_markPages_50 ?_
  refine rt_istore_n (pc := 51) (k0 := 3) (x := (0 : Int32)) (l2 := [(3, .int (0 : Int32)), (0, va_rf a0), (1, va_rf a1), (2, .int a2)]) (by decide) (by first | rfl | (simp [rt_cat, cat_i, cat_l]; done) | (simp [rt_cat, cat_i, cat_l]; decide)) dX0_markPages_51 ?_
  exact rt_locals (rt_sub [1, 2, 3, 0] rfl) (rX0_markPages_52 hkr hd hdk zf _ _ _ _ _ _ hf)
noncomputable def bX0_markPages_0 (E : ah_E) (kr : Option Nat → Option Nat → Int32 → ah_H → Option ah_H) (a0 : Option Nat) (a1 : Option Nat) (a2 : Int32) (h : ah_H) : Option ah_H :=
  (hp_gi h a1 6 4).bind fun v1 =>
  if v1 < 0 then
    bX0_markPages_50 E kr a0 a1 a2 h
  else
  (hp_gi h a1 6 4).bind fun v4 =>
  if (1000 : Int32) ≤ v4 then
    bX0_markPages_50 E kr a0 a1 a2 h
  else
  (hp_gr h a0 1 2).bind fun v7 =>
  (hp_gi h a1 6 4).bind fun v9 =>
  (hp_ldb h v7 v9).bind fun v11 =>
  if v11 = 0 then
    (hp_gr h a0 1 2).bind fun v14 =>
    (hp_gi h a1 6 4).bind fun v16 =>
    (hp_stb h v14 v16 (1 : Int32)).bind fun w18 =>
    (hp_gi w18 a0 1 3).bind fun v20 =>
    (hp_pv w18 a0 1 3 (.int (v20 + (1 : Int32)))).bind fun w22 =>
    bX0_markPages_50 E kr a0 a1 a2 w22
  else
  some h
set_option maxRecDepth 20000 in
set_option maxHeartbeats 4000000 in
theorem rX0_markPages_0 {X : ah_X} {d : Nat} {dk : Nat} {kr : Option Nat → Option Nat → Int32 → ah_H → Option ah_H} (hkr : ∀ (d : Nat), dk ≤ d → ∀ (x0 : Option Nat) (x1 : Option Nat) (x2 : Int32) (h : ah_H) (h2 : ah_H), kr x0 x1 x2 h = some h2 → Rn X yX0_markPages cX0_markPages 4 none d [va_rf x0, va_rf x1, .int x2] h none h2) (hd : 2 ≤ d) (hdk : dk + 0 ≤ d) {a0 : Option Nat} {a1 : Option Nat} {a2 : Int32} {h : ah_H} {h2 : ah_H} (hf : bX0_markPages_0 X.2.2.2 kr a0 a1 a2 h = some h2) : Rt X yX0_markPages cX0_markPages 4 (d + 1) 0 [(0, va_rf a0), (1, va_rf a1), (2, .int a2)] [] h none h2 := by
  unfold bX0_markPages_0 at hf
  refine rt_aload_n (pc := 0) (k0 := 1) (x := a1) 1 rfl dX0_markPages_0 ?_
  obtain ⟨v1, e2, hf⟩ := ob1 hf
  refine rt_gi (pc := 1) fd_X0_67 dX0_markPages_1 e2 ?_
  by_cases c3 : v1 < 0
  · rw [if_pos c3] at hf
    refine rt_if_lt_p (pc := 4) (x := v1) (tgt := 50) (by decide) dX0_markPages_4 c3 ?_
    exact rX0_markPages_50 hkr hd hdk hf
  rw [if_neg c3] at hf
  refine rt_if_lt_n (pc := 4) (x := v1) (tgt := 50) (by decide) dX0_markPages_4 c3 ?_
  refine rt_aload_n (pc := 7) (k0 := 1) (x := a1) 1 rfl dX0_markPages_7 ?_
  obtain ⟨v4, e5, hf⟩ := ob1 hf
  refine rt_gi (pc := 8) fd_X0_67 dX0_markPages_8 e5 ?_
  refine rt_sipush (pc := 11) (n := 1000) (v := (1000 : Int32)) (by decide) dX0_markPages_11 ?_
  by_cases c6 : (1000 : Int32) ≤ v4
  · rw [if_pos c6] at hf
    refine rt_icmp_ge_p (pc := 14) (x := v4) (z := (1000 : Int32)) (tgt := 50) (by decide) dX0_markPages_14 c6 ?_
    exact rX0_markPages_50 hkr hd hdk hf
  rw [if_neg c6] at hf
  refine rt_icmp_ge_n (pc := 14) (x := v4) (z := (1000 : Int32)) (tgt := 50) (by decide) dX0_markPages_14 c6 ?_
  refine rt_aload_n (pc := 17) (k0 := 0) (x := a0) 0 rfl dX0_markPages_17 ?_
  obtain ⟨v7, e8, hf⟩ := ob1 hf
  refine rt_gr (pc := 18) fd_X0_21 dX0_markPages_18 e8 ?_
  refine rt_aload_n (pc := 21) (k0 := 1) (x := a1) 1 rfl dX0_markPages_21 ?_
  obtain ⟨v9, e10, hf⟩ := ob1 hf
  refine rt_gi (pc := 22) fd_X0_67 dX0_markPages_22 e10 ?_
  obtain ⟨v11, e12, hf⟩ := ob1 hf
  refine rt_bald (pc := 25) dX0_markPages_25 e12 ?_
  by_cases c13 : v11 = 0
  · rw [if_pos c13] at hf
    refine rt_if_eq_p (pc := 26) (x := v11) (tgt := 30) (by decide) dX0_markPages_26 c13 ?_
    refine rt_aload_n (pc := 30) (k0 := 0) (x := a0) 0 rfl dX0_markPages_30 ?_
    obtain ⟨v14, e15, hf⟩ := ob1 hf
    refine rt_gr (pc := 31) fd_X0_21 dX0_markPages_31 e15 ?_
    refine rt_aload_n (pc := 34) (k0 := 1) (x := a1) 1 rfl dX0_markPages_34 ?_
    obtain ⟨v16, e17, hf⟩ := ob1 hf
    refine rt_gi (pc := 35) fd_X0_67 dX0_markPages_35 e17 ?_
    refine rt_iconst (pc := 38) (n := 1) (v := (1 : Int32)) (by decide) dX0_markPages_38 ?_
    obtain ⟨w18, e19, hf⟩ := ob1 hf
    refine rt_bast (pc := 39) dX0_markPages_39 e19 ?_
    refine rt_aload_n (pc := 40) (k0 := 0) (x := a0) 0 rfl dX0_markPages_40 ?_
    refine rt_dup (pc := 41) (rt_cat _) dX0_markPages_41 ?_
    obtain ⟨v20, e21, hf⟩ := ob1 hf
    refine rt_gi (pc := 42) fd_X0_31 dX0_markPages_42 e21 ?_
    refine rt_iconst (pc := 45) (n := 1) (v := (1 : Int32)) (by decide) dX0_markPages_45 ?_
    refine rt_iadd (pc := 46) (x := v20) (z := (1 : Int32)) dX0_markPages_46 ?_
    obtain ⟨w22, e23, hf⟩ := ob1 hf
    refine rt_putf (pc := 47) (x := a0) fw_X0_31 (Or.inl rfl) (pf_i _).1 (pf_i _).2 dX0_markPages_47 e23 ?_
    exact rX0_markPages_50 hkr hd hdk hf
  rw [if_neg c13] at hf
  refine rt_if_eq_n (pc := 26) (x := v11) (tgt := 30) (by decide) dX0_markPages_26 c13 ?_
  cases hf
  exact rt_ret (pc := 29) dX0_markPages_29 rfl
noncomputable def gX0_markPages (E : ah_E) (kr : Option Nat → Option Nat → Int32 → ah_H → Option ah_H) (a0 : Option Nat) (a1 : Option Nat) (a2 : Int32) (h : ah_H) : Option ah_H := bX0_markPages_0 E kr a0 a1 a2 h
set_option maxRecDepth 20000 in
set_option maxHeartbeats 4000000 in
theorem tX0_markPages {X : ah_X} {dk : Nat} {kr : Option Nat → Option Nat → Int32 → ah_H → Option ah_H} (hkr : ∀ (d : Nat), dk ≤ d → ∀ (x0 : Option Nat) (x1 : Option Nat) (x2 : Int32) (h : ah_H) (h2 : ah_H), kr x0 x1 x2 h = some h2 → Rn X yX0_markPages cX0_markPages 4 none d [va_rf x0, va_rf x1, .int x2] h none h2) (d : Nat) (hdk : dk + 1 ≤ d) (hd : 3 ≤ d) {a0 : Option Nat} {a1 : Option Nat} {a2 : Int32} {h : ah_H} {h2 : ah_H} (hf : gX0_markPages X.2.2.2 kr a0 a1 a2 h = some h2) : Rn X yX0_markPages cX0_markPages 4 none d [va_rf a0, va_rf a1, .int a2] h none h2 := by
  unfold gX0_markPages at hf
  obtain ⟨d, rfl⟩ : ∃ k, d = k + 1 := ⟨d - 1, by omega⟩
  exact Rn.of2 me_X0_markPages (by simp [lg_sl, rt_cat, cat_i, cat_l]) rfl (l := [(0, va_rf a0), (1, va_rf a1), (2, .int a2)]) (by simp [lv_args, rt_cat, cat_i, cat_l]) (rX0_markPages_0 hkr (by omega) (by omega) hf)
noncomputable def fX0_markPages (E : ah_E) : Nat → Option Nat → Option Nat → Int32 → ah_H → Option ah_H
  | 0 => fun _ _ _ _ => none
  | n + 1 => fun a0 a1 a2 h => gX0_markPages E (fX0_markPages E n) a0 a1 a2 h
set_option maxRecDepth 20000 in
set_option maxHeartbeats 4000000 in
theorem sX0_markPages {X : ah_X} (n : Nat) : ∀ (d : Nat), 3 + 1 * n ≤ d → ∀ (a0 : Option Nat) (a1 : Option Nat) (a2 : Int32) (h : ah_H) (h2 : ah_H), fX0_markPages X.2.2.2 n a0 a1 a2 h = some h2 → Rn X yX0_markPages cX0_markPages 4 none d [va_rf a0, va_rf a1, .int a2] h none h2 := by
  induction n with
  | zero => intro d hd a0 a1 a2 h h2 hf; cases hf
  | succ n ih =>
    intro d hd a0 a1 a2 h h2 hf
    exact tX0_markPages (dk := 3 + 1 * n) ih d (by omega) (by omega) hf
noncomputable def bX0_markPictures_2 (E : ah_E) : Nat → Option Nat → Option Nat → Int32 → ah_H → Option ah_H
  | 0 => fun _ _ _ _ => none
  | n + 1 => fun a0 a1 a2 h =>
  ob2 (fJx4a65c_size_8abf5 E a1 h) fun v3 w2 =>
  if v3 ≤ a2 then
    some w2
  else
  ob2 (fJx4a65c_get_915e3 E a1 a2 w2) fun v8 w7 =>
  if hp_cls w7 v8 7 = false then none else
  (hp_gr w7 v8 7 1).bind fun v11 =>
  (fX0_markPages E zd a0 v11 (0 : Int32) w7).bind fun w14 =>
  bX0_markPictures_2 E n a0 a1 (a2 + 1) w14
set_option maxRecDepth 20000 in
set_option maxHeartbeats 4000000 in
theorem rX0_markPictures_2 {X : ah_X} {d : Nat} (hd : 48 ≤ d) (n : Nat) : ∀ (a0 : Option Nat) (a1 : Option Nat) (a2 : Int32) (h : ah_H) (h2 : ah_H), bX0_markPictures_2 X.2.2.2 n a0 a1 a2 h = some h2 → Rt X yX0_markPictures cX0_markPictures 3 (d + 1) 2 [(0, va_rf a0), (1, va_rf a1), (2, .int a2)] [] h none h2 := by
  induction n with
  | zero => intro a0 a1 a2 h h2 hf; cases hf
  | succ n ih =>
  intro a0 a1 a2 h h2 hf
  unfold bX0_markPictures_2 at hf
  refine rt_iload_n (pc := 2) (k0 := 2) (x := a2) 2 rfl dX0_markPictures_2 ?_
  refine rt_aload_n (pc := 3) (k0 := 1) (x := a1) 1 rfl dX0_markPictures_3 ?_
  obtain ⟨v3, w2, e1, hf⟩ := ob2_of hf
  have g4 := sJx4a65c_size_8abf5 d (by omega) e1
  refine rt_callV (pc := 4) (As := []) (st := [.int a2]) me_Jx4a65c_size_8abf5 mi_Jx4a65c_size_8abf5 wl_X0_54 dX0_markPictures_4 rfl (by simp [rt_cat, cat_i, cat_l]) rfl g4.1 g4.2 ?_
  by_cases c5 : v3 ≤ a2
  · rw [if_pos c5] at hf
    refine rt_icmp_ge_p (pc := 7) (x := a2) (z := v3) (tgt := 32) (by decide) dX0_markPictures_7 c5 ?_
    cases hf
    exact rt_ret (pc := 32) dX0_markPictures_32 rfl
  rw [if_neg c5] at hf
  refine rt_icmp_ge_n (pc := 7) (x := a2) (z := v3) (tgt := 32) (by decide) dX0_markPictures_7 c5 ?_
  refine rt_aload_n (pc := 10) (k0 := 0) (x := a0) 0 rfl dX0_markPictures_10 ?_
  refine rt_aload_n (pc := 11) (k0 := 1) (x := a1) 1 rfl dX0_markPictures_11 ?_
  refine rt_iload_n (pc := 12) (k0 := 2) (x := a2) 2 rfl dX0_markPictures_12 ?_
  obtain ⟨v8, w7, e6, hf⟩ := ob2_of hf
  have g9 := sJx4a65c_get_915e3 d (by omega) e6
  refine rt_callV (pc := 13) (As := [.int a2]) (st := [va_rf a0]) me_Jx4a65c_get_915e3 mi_Jx4a65c_get_915e3 wl_X0_60 dX0_markPictures_13 rfl (by simp [rt_cat, cat_i, cat_l]) rfl g9.1 g9.2 ?_
  by_cases c10 : hp_cls w7 v8 7 = false
  · rw [if_pos c10] at hf; cases hf
  rw [if_neg c10] at hf
  refine rt_cast (pc := 16) (x := v8) (show vwCl[7]? = some (RX6, TX6, 2) from rfl) wc_X0_64 dX0_markPictures_16 ((Bool.not_eq_false _).mp c10) ?_
  obtain ⟨v11, e12, hf⟩ := ob1 hf
  refine rt_gr (pc := 19) fd_X0_66 dX0_markPictures_19 e12 ?_
  refine rt_iconst (pc := 22) (n := 0) (v := (0 : Int32)) (by decide) dX0_markPictures_22 ?_
  obtain ⟨w14, e13, hf⟩ := ob1 hf
  have g15 := sX0_markPages zd d (by unfold zd; omega) _ _ _ _ _ e13
  refine rt_callS (pc := 23) (As := [va_rf a0, va_rf v11, .int (0 : Int32)]) (st := []) me_X0_markPages ms_X0_markPages wl_X0_38 dX0_markPictures_23 rfl (by decide) rfl g15 ?_
  refine rt_iinc (pc := 26) (i := 2) (n := 1) (x := a2) (v := (a2 + 1)) (l2 := [(2, .int (a2 + 1)), (0, va_rf a0), (1, va_rf a1)]) 2 rfl rfl (by decide) (by first | rfl | (simp [rt_cat, cat_i, cat_l]; done) | (simp [rt_cat, cat_i, cat_l]; decide)) dX0_markPictures_26 ?_
  refine rt_goto (pc := 29) (tgt := 2) (by decide) dX0_markPictures_29 ?_
  exact rt_locals (rt_sub [1, 2, 0] rfl) (ih _ _ _ _ _ hf)
noncomputable def bX0_markPictures_0 (E : ah_E) (a0 : Option Nat) (a1 : Option Nat) (h : ah_H) : Option ah_H :=
  bX0_markPictures_2 E zf a0 a1 (0 : Int32) h
set_option maxRecDepth 20000 in
set_option maxHeartbeats 4000000 in
theorem rX0_markPictures_0 {X : ah_X} {d : Nat} (hd : 48 ≤ d) {a0 : Option Nat} {a1 : Option Nat} {h : ah_H} {h2 : ah_H} (hf : bX0_markPictures_0 X.2.2.2 a0 a1 h = some h2) : Rt X yX0_markPictures cX0_markPictures 3 (d + 1) 0 [(0, va_rf a0), (1, va_rf a1)] [] h none h2 := by
  unfold bX0_markPictures_0 at hf
  refine rt_iconst (pc := 0) (n := 0) (v := (0 : Int32)) (by decide) dX0_markPictures_0 ?_
  refine rt_istore_n (pc := 1) (k0 := 2) (x := (0 : Int32)) (l2 := [(2, .int (0 : Int32)), (0, va_rf a0), (1, va_rf a1)]) (by decide) (by first | rfl | (simp [rt_cat, cat_i, cat_l]; done) | (simp [rt_cat, cat_i, cat_l]; decide)) dX0_markPictures_1 ?_
  exact rt_locals (rt_sub [1, 2, 0] rfl) (rX0_markPictures_2 hd zf _ _ _ _ _ hf)
noncomputable def fX0_markPictures (E : ah_E) (a0 : Option Nat) (a1 : Option Nat) (h : ah_H) : Option ah_H := if hp_rcv h a0 1 = false then none else bX0_markPictures_0 E a0 a1 h
set_option maxRecDepth 20000 in
set_option maxHeartbeats 4000000 in
theorem sX0_markPictures {X : ah_X} (d : Nat) (hd : 49 ≤ d) {a0 : Option Nat} {a1 : Option Nat} {h : ah_H} {h2 : ah_H} (hf : fX0_markPictures X.2.2.2 a0 a1 h = some h2) : hp_rcv h a0 1 = true ∧ Rn X yX0_markPictures cX0_markPictures 3 none d [va_rf a0, va_rf a1] h none h2 := by
  unfold fX0_markPictures at hf
  by_cases c0 : hp_rcv h a0 1 = false
  · rw [if_pos c0] at hf; cases hf
  rw [if_neg c0] at hf
  refine ⟨(Bool.not_eq_false _).mp c0, ?_⟩
  obtain ⟨d, rfl⟩ : ∃ k, d = k + 1 := ⟨d - 1, by omega⟩
  exact Rn.of2 me_X0_markPictures (by simp [lg_sl, rt_cat, cat_i, cat_l]) rfl (l := [(0, va_rf a0), (1, va_rf a1)]) (by simp [lv_args, rt_cat, cat_i, cat_l]) (rX0_markPictures_0 (by omega) hf)
noncomputable def bX0_markTaken_72 (E : ah_E) (k31 : Option Nat → Int32 → ah_H → Option ah_H) (a0 : Option Nat) (a3 : Int32) (h : ah_H) : Option ah_H :=
  k31 a0 (a3 + 1) h
set_option maxRecDepth 20000 in
set_option maxHeartbeats 4000000 in
theorem rX0_markTaken_72 {X : ah_X} {d : Nat} (hd : 49 ≤ d) {k31 : Option Nat → Int32 → ah_H → Option ah_H} (hk31 : ∀ (x0 : Option Nat) (x1 : Int32) (h : ah_H) (h2 : ah_H), k31 x0 x1 h = some h2 → Rt X yX0_markTaken cX0_markTaken 5 (d + 1) 31 [(0, va_rf x0), (3, .int x1)] [] h none h2) {a0 : Option Nat} {a3 : Int32} {h : ah_H} {h2 : ah_H} (hf : bX0_markTaken_72 X.2.2.2 k31 a0 a3 h = some h2) : Rt X yX0_markTaken cX0_markTaken 5 (d + 1) 72 [(0, va_rf a0), (3, .int a3)] [] h none h2 := by
  unfold bX0_markTaken_72 at hf
  refine rt_iinc (pc := 72) (i := 3) (n := 1) (x := a3) (v := (a3 + 1)) (l2 := [(3, .int (a3 + 1)), (0, va_rf a0)]) 1 rfl rfl (by decide) (by first | rfl | (simp [rt_cat, cat_i, cat_l]; done) | (simp [rt_cat, cat_i, cat_l]; decide)) dX0_markTaken_72 ?_
  refine rt_goto (pc := 75) (tgt := 31) (by decide) dX0_markTaken_75 ?_
  exact rt_locals (rt_sub [1, 0] rfl) (hk31 _ _ _ _ hf)
noncomputable def bX0_markTaken_31 (E : ah_E) : Nat → Option Nat → Int32 → ah_H → Option ah_H
  | 0 => fun _ _ _ => none
  | n + 1 => fun a0 a3 h =>
  (hp_gr h a0 1 0).bind fun v1 =>
  (hp_len h v1).bind fun v3 =>
  if v3 ≤ a3 then
    some h
  else
  (hp_gr h a0 1 0).bind fun v6 =>
  (hp_ldq h v6 a3).bind fun v8 =>
  if v8 = none then
    bX0_markTaken_72 E (bX0_markTaken_31 E n) a0 a3 h
  else
  (hp_gr h v8 4 2).bind fun v11 =>
  (fX0_markPages E zd a0 v11 (0 : Int32) h).bind fun w14 =>
  (hp_gr w14 v8 4 4).bind fun v16 =>
  (fX0_markPictures E a0 v16 w14).bind fun w19 =>
  bX0_markTaken_72 E (bX0_markTaken_31 E n) a0 a3 w19
set_option maxRecDepth 20000 in
set_option maxHeartbeats 4000000 in
theorem rX0_markTaken_31 {X : ah_X} {d : Nat} (hd : 49 ≤ d) (n : Nat) : ∀ (a0 : Option Nat) (a3 : Int32) (h : ah_H) (h2 : ah_H), bX0_markTaken_31 X.2.2.2 n a0 a3 h = some h2 → Rt X yX0_markTaken cX0_markTaken 5 (d + 1) 31 [(0, va_rf a0), (3, .int a3)] [] h none h2 := by
  induction n with
  | zero => intro a0 a3 h h2 hf; cases hf
  | succ n ih =>
  intro a0 a3 h h2 hf
  unfold bX0_markTaken_31 at hf
  refine rt_iload_n (pc := 31) (k0 := 3) (x := a3) 1 rfl dX0_markTaken_31 ?_
  refine rt_aload_n (pc := 32) (k0 := 0) (x := a0) 0 rfl dX0_markTaken_32 ?_
  obtain ⟨v1, e2, hf⟩ := ob1 hf
  refine rt_gr (pc := 33) fd_X0_11 dX0_markTaken_33 e2 ?_
  obtain ⟨v3, e4, hf⟩ := ob1 hf
  refine rt_alen (pc := 36) dX0_markTaken_36 e4 ?_
  by_cases c5 : v3 ≤ a3
  · rw [if_pos c5] at hf
    refine rt_icmp_ge_p (pc := 37) (x := a3) (z := v3) (tgt := 78) (by decide) dX0_markTaken_37 c5 ?_
    cases hf
    exact rt_ret (pc := 78) dX0_markTaken_78 rfl
  rw [if_neg c5] at hf
  refine rt_icmp_ge_n (pc := 37) (x := a3) (z := v3) (tgt := 78) (by decide) dX0_markTaken_37 c5 ?_
  refine rt_aload_n (pc := 40) (k0 := 0) (x := a0) 0 rfl dX0_markTaken_40 ?_
  obtain ⟨v6, e7, hf⟩ := ob1 hf
  refine rt_gr (pc := 41) fd_X0_11 dX0_markTaken_41 e7 ?_
  refine rt_iload_n (pc := 44) (k0 := 3) (x := a3) 1 rfl dX0_markTaken_44 ?_
  obtain ⟨v8, e9, hf⟩ := ob1 hf
  refine rt_aald (pc := 45) dX0_markTaken_45 e9 ?_
  refine rt_astore (pc := 46) (i := 4) (x := v8) (l2 := [(4, va_rf v8), (0, va_rf a0), (3, .int a3)]) (by decide) (by first | rfl | (simp [rt_cat, cat_i, cat_l]; done) | (simp [rt_cat, cat_i, cat_l]; decide)) dX0_markTaken_46 ?_
  refine rt_aload (pc := 48) (i := 4) (x := v8) 0 rfl dX0_markTaken_48 ?_
  by_cases c10 : v8 = none
  · rw [if_pos c10] at hf
    refine rt_ifnull_p (pc := 50) (x := v8) (tgt := 72) (by decide) dX0_markTaken_50 c10 ?_
    exact rt_locals (rt_sub [1, 2] rfl) (rX0_markTaken_72 hd ih hf)
  rw [if_neg c10] at hf
  refine rt_ifnull_n (pc := 50) (x := v8) (tgt := 72) (by decide) dX0_markTaken_50 c10 ?_
  refine rt_aload_n (pc := 53) (k0 := 0) (x := a0) 1 rfl dX0_markTaken_53 ?_
  refine rt_aload (pc := 54) (i := 4) (x := v8) 0 rfl dX0_markTaken_54 ?_
  obtain ⟨v11, e12, hf⟩ := ob1 hf
  refine rt_gr (pc := 56) fd_X0_46 dX0_markTaken_56 e12 ?_
  refine rt_iconst (pc := 59) (n := 0) (v := (0 : Int32)) (by decide) dX0_markTaken_59 ?_
  obtain ⟨w14, e13, hf⟩ := ob1 hf
  have g15 := sX0_markPages zd d (by unfold zd; omega) _ _ _ _ _ e13
  refine rt_callS (pc := 60) (As := [va_rf a0, va_rf v11, .int (0 : Int32)]) (st := []) me_X0_markPages ms_X0_markPages wl_X0_38 dX0_markTaken_60 rfl (by decide) rfl g15 ?_
  refine rt_aload_n (pc := 63) (k0 := 0) (x := a0) 1 rfl dX0_markTaken_63 ?_
  refine rt_aload (pc := 64) (i := 4) (x := v8) 0 rfl dX0_markTaken_64 ?_
  obtain ⟨v16, e17, hf⟩ := ob1 hf
  refine rt_gr (pc := 66) fd_X0_50 dX0_markTaken_66 e17 ?_
  obtain ⟨w19, e18, hf⟩ := ob1 hf
  have g20 := sX0_markPictures d (by omega) e18
  refine rt_callV (pc := 69) (As := [va_rf v16]) (st := []) me_X0_markPictures mi_X0_markPictures wl_X0_42 dX0_markTaken_69 rfl (by decide) rfl g20.1 g20.2 ?_
  exact rt_locals (rt_sub [1, 2] rfl) (rX0_markTaken_72 hd ih hf)
noncomputable def bX0_markTaken_0 (E : ah_E) (a0 : Option Nat) (a1 : Option Nat) (a2 : Option Nat) (h : ah_H) : Option ah_H :=
  (hp_gr h a0 1 2).bind fun v1 =>
  (fJ7_fill_031fb E v1 (0 : Int32) h).bind fun w4 =>
  (hp_pv w4 a0 1 3 (.int (0 : Int32))).bind fun w6 =>
  (hp_pv w6 a0 1 4 (.int (0 : Int32))).bind fun w8 =>
  (fX0_markPages E zd a0 a1 (0 : Int32) w8).bind fun w11 =>
  (fX0_markPictures E a0 a2 w11).bind fun w14 =>
  bX0_markTaken_31 E zf a0 (0 : Int32) w14
set_option maxRecDepth 20000 in
set_option maxHeartbeats 4000000 in
theorem rX0_markTaken_0 {X : ah_X} {d : Nat} (hd : 49 ≤ d) {a0 : Option Nat} {a1 : Option Nat} {a2 : Option Nat} {h : ah_H} {h2 : ah_H} (hf : bX0_markTaken_0 X.2.2.2 a0 a1 a2 h = some h2) : Rt X yX0_markTaken cX0_markTaken 5 (d + 1) 0 [(0, va_rf a0), (1, va_rf a1), (2, va_rf a2)] [] h none h2 := by
  unfold bX0_markTaken_0 at hf
  refine rt_aload_n (pc := 0) (k0 := 0) (x := a0) 0 rfl dX0_markTaken_0 ?_
  obtain ⟨v1, e2, hf⟩ := ob1 hf
  refine rt_gr (pc := 1) fd_X0_21 dX0_markTaken_1 e2 ?_
  refine rt_iconst (pc := 4) (n := 0) (v := (0 : Int32)) (by decide) dX0_markTaken_4 ?_
  obtain ⟨w4, e3, hf⟩ := ob1 hf
  have g5 := sJ7_fill_031fb d (by omega) e3
  refine rt_callS (pc := 5) (As := [va_rf v1, .int (0 : Int32)]) (st := []) me_J7_fill_031fb ms_J7_fill_031fb wl_X0_25 dX0_markTaken_5 rfl (by decide) rfl g5 ?_
  refine rt_aload_n (pc := 8) (k0 := 0) (x := a0) 0 rfl dX0_markTaken_8 ?_
  refine rt_iconst (pc := 9) (n := 0) (v := (0 : Int32)) (by decide) dX0_markTaken_9 ?_
  obtain ⟨w6, e7, hf⟩ := ob1 hf
  refine rt_putf (pc := 10) (x := a0) fw_X0_31 (Or.inl rfl) (pf_i _).1 (pf_i _).2 dX0_markTaken_10 e7 ?_
  refine rt_aload_n (pc := 13) (k0 := 0) (x := a0) 0 rfl dX0_markTaken_13 ?_
  refine rt_iconst (pc := 14) (n := 0) (v := (0 : Int32)) (by decide) dX0_markTaken_14 ?_
  obtain ⟨w8, e9, hf⟩ := ob1 hf
  refine rt_putf (pc := 15) (x := a0) fw_X0_35 (Or.inl rfl) (pf_i _).1 (pf_i _).2 dX0_markTaken_15 e9 ?_
  refine rt_aload_n (pc := 18) (k0 := 0) (x := a0) 0 rfl dX0_markTaken_18 ?_
  refine rt_aload_n (pc := 19) (k0 := 1) (x := a1) 1 rfl dX0_markTaken_19 ?_
  refine rt_iconst (pc := 20) (n := 0) (v := (0 : Int32)) (by decide) dX0_markTaken_20 ?_
  obtain ⟨w11, e10, hf⟩ := ob1 hf
  have g12 := sX0_markPages zd d (by unfold zd; omega) _ _ _ _ _ e10
  refine rt_callS (pc := 21) (As := [va_rf a0, va_rf a1, .int (0 : Int32)]) (st := []) me_X0_markPages ms_X0_markPages wl_X0_38 dX0_markTaken_21 rfl (by decide) rfl g12 ?_
  refine rt_aload_n (pc := 24) (k0 := 0) (x := a0) 0 rfl dX0_markTaken_24 ?_
  refine rt_aload_n (pc := 25) (k0 := 2) (x := a2) 2 rfl dX0_markTaken_25 ?_
  obtain ⟨w14, e13, hf⟩ := ob1 hf
  have g15 := sX0_markPictures d (by omega) e13
  refine rt_callV (pc := 26) (As := [va_rf a2]) (st := []) me_X0_markPictures mi_X0_markPictures wl_X0_42 dX0_markTaken_26 rfl (by decide) rfl g15.1 g15.2 ?_
  refine rt_iconst (pc := 29) (n := 0) (v := (0 : Int32)) (by decide) dX0_markTaken_29 ?_
  refine rt_istore_n (pc := 30) (k0 := 3) (x := (0 : Int32)) (l2 := [(3, .int (0 : Int32)), (0, va_rf a0), (1, va_rf a1), (2, va_rf a2)]) (by decide) (by first | rfl | (simp [rt_cat, cat_i, cat_l]; done) | (simp [rt_cat, cat_i, cat_l]; decide)) dX0_markTaken_30 ?_
  exact rt_locals (rt_sub [1, 0] rfl) (rX0_markTaken_31 hd zf _ _ _ _ hf)
noncomputable def fX0_markTaken (E : ah_E) (a0 : Option Nat) (a1 : Option Nat) (a2 : Option Nat) (h : ah_H) : Option ah_H := if hp_rcv h a0 1 = false then none else bX0_markTaken_0 E a0 a1 a2 h
set_option maxRecDepth 20000 in
set_option maxHeartbeats 4000000 in
theorem sX0_markTaken {X : ah_X} (d : Nat) (hd : 50 ≤ d) {a0 : Option Nat} {a1 : Option Nat} {a2 : Option Nat} {h : ah_H} {h2 : ah_H} (hf : fX0_markTaken X.2.2.2 a0 a1 a2 h = some h2) : hp_rcv h a0 1 = true ∧ Rn X yX0_markTaken cX0_markTaken 5 none d [va_rf a0, va_rf a1, va_rf a2] h none h2 := by
  unfold fX0_markTaken at hf
  by_cases c0 : hp_rcv h a0 1 = false
  · rw [if_pos c0] at hf; cases hf
  rw [if_neg c0] at hf
  refine ⟨(Bool.not_eq_false _).mp c0, ?_⟩
  obtain ⟨d, rfl⟩ : ∃ k, d = k + 1 := ⟨d - 1, by omega⟩
  exact Rn.of2 me_X0_markTaken (by simp [lg_sl, rt_cat, cat_i, cat_l]) rfl (l := [(0, va_rf a0), (1, va_rf a1), (2, va_rf a2)]) (by simp [lv_args, rt_cat, cat_i, cat_l]) (rX0_markTaken_0 (by omega) hf)
noncomputable def bX7_become_0 (E : ah_E) (a0 : Option Nat) (a1 : Option Nat) (h : ah_H) : Option ah_H :=
  (hp_len h a1).bind fun v1 =>
  ob2 (fJ9_min_7cf53 E v1 (40 : Int32) h) fun v5 w4 =>
  (hp_pv w4 a0 8 1 (.int v5)).bind fun w7 =>
  (hp_gr w7 a0 8 0).bind fun v9 =>
  (hp_gi w7 a0 8 1).bind fun v11 =>
  (hp_cpb E w7 a1 (0 : Int32) v9 (0 : Int32) v11).bind fun w13 =>
  some w13
set_option maxRecDepth 20000 in
set_option maxHeartbeats 4000000 in
theorem rX7_become_0 {X : ah_X} {d : Nat} (hd : 0 ≤ d) {a0 : Option Nat} {a1 : Option Nat} {h : ah_H} {h2 : ah_H} (hf : bX7_become_0 X.2.2.2 a0 a1 h = some h2) : Rt X yX7_become cX7_become 2 (d + 1) 0 [(0, va_rf a0), (1, va_rf a1)] [] h none h2 := by
  unfold bX7_become_0 at hf
  refine rt_aload_n (pc := 0) (k0 := 0) (x := a0) 0 rfl dX7_become_0 ?_
  refine rt_aload_n (pc := 1) (k0 := 1) (x := a1) 1 rfl dX7_become_1 ?_
  obtain ⟨v1, e2, hf⟩ := ob1 hf
  refine rt_alen (pc := 2) dX7_become_2 e2 ?_
  refine rt_bipush (pc := 3) (n := 40) (v := (40 : Int32)) (by decide) dX7_become_3 ?_
  obtain ⟨v5, w4, e3, hf⟩ := ob2_of hf
  have g6 := sJ9_min_7cf53 d (by omega) e3
  refine rt_callS (pc := 5) (As := [.int v1, .int (40 : Int32)]) (st := [va_rf a0]) me_J9_min_7cf53 ms_J9_min_7cf53 wl_X7_28 dX7_become_5 rfl (by simp [rt_cat, cat_i, cat_l]) rfl g6 ?_
  obtain ⟨w7, e8, hf⟩ := ob1 hf
  refine rt_putf (pc := 8) (x := a0) fw_X7_15 (Or.inl rfl) (pf_i _).1 (pf_i _).2 dX7_become_8 e8 ?_
  refine rt_aload_n (pc := 11) (k0 := 1) (x := a1) 1 rfl dX7_become_11 ?_
  refine rt_iconst (pc := 12) (n := 0) (v := (0 : Int32)) (by decide) dX7_become_12 ?_
  refine rt_aload_n (pc := 13) (k0 := 0) (x := a0) 0 rfl dX7_become_13 ?_
  obtain ⟨v9, e10, hf⟩ := ob1 hf
  refine rt_gr (pc := 14) fd_X7_9 dX7_become_14 e10 ?_
  refine rt_iconst (pc := 17) (n := 0) (v := (0 : Int32)) (by decide) dX7_become_17 ?_
  refine rt_aload_n (pc := 18) (k0 := 0) (x := a0) 0 rfl dX7_become_18 ?_
  obtain ⟨v11, e12, hf⟩ := ob1 hf
  refine rt_gi (pc := 19) fd_X7_15 dX7_become_19 e12 ?_
  obtain ⟨w13, e14, hf⟩ := ob1 hf
  refine rt_cpb (pc := 22) wl_X7_34 (by decide) dX7_become_22 e14 ?_
  cases hf
  exact rt_ret (pc := 25) dX7_become_25 rfl
noncomputable def fX7_become (E : ah_E) (a0 : Option Nat) (a1 : Option Nat) (h : ah_H) : Option ah_H := if hp_rcv h a0 8 = false then none else bX7_become_0 E a0 a1 h
set_option maxRecDepth 20000 in
set_option maxHeartbeats 4000000 in
theorem sX7_become {X : ah_X} (d : Nat) (hd : 1 ≤ d) {a0 : Option Nat} {a1 : Option Nat} {h : ah_H} {h2 : ah_H} (hf : fX7_become X.2.2.2 a0 a1 h = some h2) : hp_rcv h a0 8 = true ∧ Rn X yX7_become cX7_become 2 none d [va_rf a0, va_rf a1] h none h2 := by
  unfold fX7_become at hf
  by_cases c0 : hp_rcv h a0 8 = false
  · rw [if_pos c0] at hf; cases hf
  rw [if_neg c0] at hf
  refine ⟨(Bool.not_eq_false _).mp c0, ?_⟩
  obtain ⟨d, rfl⟩ : ∃ k, d = k + 1 := ⟨d - 1, by omega⟩
  exact Rn.of2 me_X7_become (by simp [lg_sl, rt_cat, cat_i, cat_l]) rfl (l := [(0, va_rf a0), (1, va_rf a1)]) (by simp [lv_args, rt_cat, cat_i, cat_l]) (rX7_become_0 (by omega) hf)
noncomputable def bX8_levels_43 (E : ah_E) (a1 : Int32) (h : ah_H) : Option (Int32 × ah_H) :=
  some (a1, h)
set_option maxRecDepth 20000 in
set_option maxHeartbeats 4000000 in
theorem rX8_levels_43 {X : ah_X} {d : Nat} (hd : 2 ≤ d) {a1 : Int32} {h : ah_H} {r : Int32} {h2 : ah_H} (hf : bX8_levels_43 X.2.2.2 a1 h = some (r, h2)) : Rt X yX8_levels cX8_levels 4 (d + 1) 43 [(1, .int a1)] [] h (some (.int r)) h2 := by
  unfold bX8_levels_43 at hf
  refine rt_iload_n (pc := 43) (k0 := 1) (x := a1) 0 rfl dX8_levels_43 ?_
  cases hf
  exact rt_ret (pc := 44) dX8_levels_44 rfl
noncomputable def bX8_levels_9 (E : ah_E) : Nat → Int32 → Option Nat → Int32 → ah_H → Option (Int32 × ah_H)
  | 0 => fun _ _ _ _ => none
  | n + 1 => fun a1 a2 a3 h =>
  if (40 : Int32) ≤ a3 then
    bX8_levels_43 E a1 h
  else
  ob2 (fX5_isLeaf E a2 h) fun v4 w3 =>
  if v4 = 0 then
    (hp_gr w3 a2 6 2).bind fun v7 =>
    ob2 (fJx4a65c_get_915e3 E v7 (0 : Int32) w3) fun v11 w10 =>
    if hp_cls w10 v11 6 = false then none else
    bX8_levels_9 E n (a1 + 1) v11 (a3 + 1) w10
  else
  bX8_levels_43 E a1 w3
set_option maxRecDepth 20000 in
set_option maxHeartbeats 4000000 in
theorem rX8_levels_9 {X : ah_X} {d : Nat} (hd : 2 ≤ d) (n : Nat) : ∀ (a1 : Int32) (a2 : Option Nat) (a3 : Int32) (h : ah_H) (r : Int32) (h2 : ah_H), bX8_levels_9 X.2.2.2 n a1 a2 a3 h = some (r, h2) → Rt X yX8_levels cX8_levels 4 (d + 1) 9 [(1, .int a1), (2, va_rf a2), (3, .int a3)] [] h (some (.int r)) h2 := by
  induction n with
  | zero => intro a1 a2 a3 h r h2 hf; cases hf
  | succ n ih =>
  intro a1 a2 a3 h r h2 hf
  unfold bX8_levels_9 at hf
  refine rt_iload_n (pc := 9) (k0 := 3) (x := a3) 2 rfl dX8_levels_9 ?_
  refine rt_bipush (pc := 10) (n := 40) (v := (40 : Int32)) (by decide) dX8_levels_10 ?_
  by_cases c1 : (40 : Int32) ≤ a3
  · rw [if_pos c1] at hf
    refine rt_icmp_ge_p (pc := 12) (x := a3) (z := (40 : Int32)) (tgt := 43) (by decide) dX8_levels_12 c1 ?_
    exact rt_locals (rt_sub [0] rfl) (rX8_levels_43 hd hf)
  rw [if_neg c1] at hf
  refine rt_icmp_ge_n (pc := 12) (x := a3) (z := (40 : Int32)) (tgt := 43) (by decide) dX8_levels_12 c1 ?_
  refine rt_aload_n (pc := 15) (k0 := 2) (x := a2) 1 rfl dX8_levels_15 ?_
  obtain ⟨v4, w3, e2, hf⟩ := ob2_of hf
  have g5 := sX5_isLeaf d (by omega) e2
  refine rt_callV (pc := 16) (As := []) (st := []) me_X5_isLeaf mi_X5_isLeaf wl_X8_107 dX8_levels_16 rfl (by decide) rfl g5.1 g5.2 ?_
  by_cases c6 : v4 = 0
  · rw [if_pos c6] at hf
    refine rt_if_ne_p (pc := 19) (x := v4) (tgt := 43) (by decide) dX8_levels_19 c6 ?_
    refine rt_aload_n (pc := 22) (k0 := 2) (x := a2) 1 rfl dX8_levels_22 ?_
    obtain ⟨v7, e8, hf⟩ := ob1 hf
    refine rt_gr (pc := 23) fd_X8_53 dX8_levels_23 e8 ?_
    refine rt_iconst (pc := 26) (n := 0) (v := (0 : Int32)) (by decide) dX8_levels_26 ?_
    obtain ⟨v11, w10, e9, hf⟩ := ob2_of hf
    have g12 := sJx4a65c_get_915e3 d (by omega) e9
    refine rt_callV (pc := 27) (As := [.int (0 : Int32)]) (st := []) me_Jx4a65c_get_915e3 mi_Jx4a65c_get_915e3 wl_X8_56 dX8_levels_27 rfl (by decide) rfl g12.1 g12.2 ?_
    by_cases c13 : hp_cls w10 v11 6 = false
    · rw [if_pos c13] at hf; cases hf
    rw [if_neg c13] at hf
    refine rt_cast (pc := 30) (x := v11) (show vwCl[6]? = some (RX5, TX5, 5) from rfl) wc_X8_16 dX8_levels_30 ((Bool.not_eq_false _).mp c13) ?_
    refine rt_astore_n (pc := 33) (k0 := 2) (x := v11) (l2 := [(2, va_rf v11), (1, .int a1), (3, .int a3)]) (by decide) (by first | rfl | (simp [rt_cat, cat_i, cat_l]; done) | (simp [rt_cat, cat_i, cat_l]; decide)) dX8_levels_33 ?_
    refine rt_iinc (pc := 34) (i := 1) (n := 1) (x := a1) (v := (a1 + 1)) (l2 := [(1, .int (a1 + 1)), (2, va_rf v11), (3, .int a3)]) 1 rfl rfl (by decide) (by first | rfl | (simp [rt_cat, cat_i, cat_l]; done) | (simp [rt_cat, cat_i, cat_l]; decide)) dX8_levels_34 ?_
    refine rt_iinc (pc := 37) (i := 3) (n := 1) (x := a3) (v := (a3 + 1)) (l2 := [(3, .int (a3 + 1)), (1, .int (a1 + 1)), (2, va_rf v11)]) 2 rfl rfl (by decide) (by first | rfl | (simp [rt_cat, cat_i, cat_l]; done) | (simp [rt_cat, cat_i, cat_l]; decide)) dX8_levels_37 ?_
    refine rt_goto (pc := 40) (tgt := 9) (by decide) dX8_levels_40 ?_
    exact rt_locals (rt_sub [1, 2, 0] rfl) (ih _ _ _ _ _ _ hf)
  rw [if_neg c6] at hf
  refine rt_if_ne_n (pc := 19) (x := v4) (tgt := 43) (by decide) dX8_levels_19 c6 ?_
  exact rt_locals (rt_sub [0] rfl) (rX8_levels_43 hd hf)
noncomputable def bX8_levels_0 (E : ah_E) (a0 : Option Nat) (h : ah_H) : Option (Int32 × ah_H) :=
  (hp_gr h a0 9 0).bind fun v1 =>
  bX8_levels_9 E zf (1 : Int32) v1 (0 : Int32) h
set_option maxRecDepth 20000 in
set_option maxHeartbeats 4000000 in
theorem rX8_levels_0 {X : ah_X} {d : Nat} (hd : 2 ≤ d) {a0 : Option Nat} {h : ah_H} {r : Int32} {h2 : ah_H} (hf : bX8_levels_0 X.2.2.2 a0 h = some (r, h2)) : Rt X yX8_levels cX8_levels 4 (d + 1) 0 [(0, va_rf a0)] [] h (some (.int r)) h2 := by
  unfold bX8_levels_0 at hf
  refine rt_iconst (pc := 0) (n := 1) (v := (1 : Int32)) (by decide) dX8_levels_0 ?_
  refine rt_istore_n (pc := 1) (k0 := 1) (x := (1 : Int32)) (l2 := [(1, .int (1 : Int32)), (0, va_rf a0)]) (by decide) (by first | rfl | (simp [rt_cat, cat_i, cat_l]; done) | (simp [rt_cat, cat_i, cat_l]; decide)) dX8_levels_1 ?_
  refine rt_aload_n (pc := 2) (k0 := 0) (x := a0) 1 rfl dX8_levels_2 ?_
  obtain ⟨v1, e2, hf⟩ := ob1 hf
  refine rt_gr (pc := 3) fd_X8_9 dX8_levels_3 e2 ?_
  refine rt_astore_n (pc := 6) (k0 := 2) (x := v1) (l2 := [(2, va_rf v1), (1, .int (1 : Int32)), (0, va_rf a0)]) (by decide) (by first | rfl | (simp [rt_cat, cat_i, cat_l]; done) | (simp [rt_cat, cat_i, cat_l]; decide)) dX8_levels_6 ?_
  refine rt_iconst (pc := 7) (n := 0) (v := (0 : Int32)) (by decide) dX8_levels_7 ?_
  refine rt_istore_n (pc := 8) (k0 := 3) (x := (0 : Int32)) (l2 := [(3, .int (0 : Int32)), (2, va_rf v1), (1, .int (1 : Int32)), (0, va_rf a0)]) (by decide) (by first | rfl | (simp [rt_cat, cat_i, cat_l]; done) | (simp [rt_cat, cat_i, cat_l]; decide)) dX8_levels_8 ?_
  exact rt_locals (rt_sub [2, 1, 0] rfl) (rX8_levels_9 hd zf _ _ _ _ _ _ hf)
noncomputable def fX8_levels (E : ah_E) (a0 : Option Nat) (h : ah_H) : Option (Int32 × ah_H) := if hp_rcv h a0 9 = false then none else bX8_levels_0 E a0 h
set_option maxRecDepth 20000 in
set_option maxHeartbeats 4000000 in
theorem sX8_levels {X : ah_X} (d : Nat) (hd : 3 ≤ d) {a0 : Option Nat} {h : ah_H} {r : Int32} {h2 : ah_H} (hf : fX8_levels X.2.2.2 a0 h = some (r, h2)) : hp_rcv h a0 9 = true ∧ Rn X yX8_levels cX8_levels 4 (some .int) d [va_rf a0] h (some (.int r)) h2 := by
  unfold fX8_levels at hf
  by_cases c0 : hp_rcv h a0 9 = false
  · rw [if_pos c0] at hf; cases hf
  rw [if_neg c0] at hf
  refine ⟨(Bool.not_eq_false _).mp c0, ?_⟩
  obtain ⟨d, rfl⟩ : ∃ k, d = k + 1 := ⟨d - 1, by omega⟩
  exact Rn.of2 me_X8_levels (by simp [lg_sl, rt_cat, cat_i, cat_l]) (ok_i _) (l := [(0, va_rf a0)]) (by simp [lv_args, rt_cat, cat_i, cat_l]) (rX8_levels_0 (by omega) hf)
noncomputable def bX0_init_0 (E : ah_E) (a0 : Option Nat) (h : ah_H) : Option ah_H :=
  if hp_rcv h a0 1 = false then none else
  (hp_na h 5 (2 : Int32) (.inr (.inr (.inr (.inr (fun _ => none)))))).bind fun w3 =>
  (hp_pv w3 a0 1 0 (va_rf (some h.1))).bind fun w5 =>
  (hp_na w5 2 (4 : Int32) (.inl (fun _ => 0))).bind fun w7 =>
  (hp_pv w7 a0 1 1 (va_rf (some w5.1))).bind fun w9 =>
  (hp_na w9 0 (1000 : Int32) (.inl (fun _ => 0))).bind fun w11 =>
  (hp_pv w11 a0 1 2 (va_rf (some w9.1))).bind fun w13 =>
  some w13
set_option maxRecDepth 20000 in
set_option maxHeartbeats 4000000 in
theorem rX0_init_0 {X : ah_X} {d : Nat} (hd : 0 ≤ d) {a0 : Option Nat} {h : ah_H} {h2 : ah_H} (hf : bX0_init_0 X.2.2.2 a0 h = some h2) : Rt X yX0_init cX0_init 1 (d + 1) 0 [(0, va_rf a0)] [] h none h2 := by
  unfold bX0_init_0 at hf
  refine rt_aload_n (pc := 0) (k0 := 0) (x := a0) 0 rfl dX0_init_0 ?_
  by_cases c1 : hp_rcv h a0 1 = false
  · rw [if_pos c1] at hf; cases hf
  rw [if_neg c1] at hf
  refine rt_objInit (pc := 1) wl_X0_3 (by decide) dX0_init_1 (by obtain ⟨q, _, q2, _⟩ := hp_rcv_spec ((Bool.not_eq_false _).mp c1); exact ⟨q, q2⟩) ?_
  refine rt_aload_n (pc := 4) (k0 := 0) (x := a0) 0 rfl dX0_init_4 ?_
  refine rt_iconst (pc := 5) (n := 2) (v := (2 : Int32)) (by decide) dX0_init_5 ?_
  obtain ⟨w3, e4, hf⟩ := ob1 hf
  refine rt_anew (pc := 6) 5 "LetterTree$Head" (by decide) rfl wc_X0_9 (fun _ hK => hK.2.2.2.1) dX0_init_6 e4 ?_
  obtain ⟨w5, e6, hf⟩ := ob1 hf
  refine rt_putf (pc := 9) (x := a0) fw_X0_11 (Or.inr rfl) (pf_a _ _).1 (pf_a _ _).2 dX0_init_9 e6 ?_
  refine rt_aload_n (pc := 12) (k0 := 0) (x := a0) 0 rfl dX0_init_12 ?_
  refine rt_iconst (pc := 13) (n := 4) (v := (4 : Int32)) (by decide) dX0_init_13 ?_
  obtain ⟨w7, e8, hf⟩ := ob1 hf
  refine rt_newa (pc := 14) 2 (by decide) rfl wa_int (fun _ _ => rfl) (by decide) dX0_init_14 e8 ?_
  obtain ⟨w9, e10, hf⟩ := ob1 hf
  refine rt_putf (pc := 16) (x := a0) fw_X0_17 (Or.inr rfl) (pf_a _ _).1 (pf_a _ _).2 dX0_init_16 e10 ?_
  refine rt_aload_n (pc := 19) (k0 := 0) (x := a0) 0 rfl dX0_init_19 ?_
  refine rt_sipush (pc := 20) (n := 1000) (v := (1000 : Int32)) (by decide) dX0_init_20 ?_
  obtain ⟨w11, e12, hf⟩ := ob1 hf
  refine rt_newa (pc := 23) 0 (by decide) rfl wa_byte (fun _ _ => rfl) (by decide) dX0_init_23 e12 ?_
  obtain ⟨w13, e14, hf⟩ := ob1 hf
  refine rt_putf (pc := 25) (x := a0) fw_X0_21 (Or.inr rfl) (pf_a _ _).1 (pf_a _ _).2 dX0_init_25 e14 ?_
  cases hf
  exact rt_ret (pc := 28) dX0_init_28 rfl
noncomputable def fX0_init (E : ah_E) (a0 : Option Nat) (h : ah_H) : Option ah_H := if hp_rcv h a0 1 = false then none else bX0_init_0 E a0 h
set_option maxRecDepth 20000 in
set_option maxHeartbeats 4000000 in
theorem sX0_init {X : ah_X} (d : Nat) (hd : 1 ≤ d) {a0 : Option Nat} {h : ah_H} {h2 : ah_H} (hf : fX0_init X.2.2.2 a0 h = some h2) : hp_rcv h a0 1 = true ∧ Rn X yX0_init cX0_init 1 none d [va_rf a0] h none h2 := by
  unfold fX0_init at hf
  by_cases c0 : hp_rcv h a0 1 = false
  · rw [if_pos c0] at hf; cases hf
  rw [if_neg c0] at hf
  refine ⟨(Bool.not_eq_false _).mp c0, ?_⟩
  obtain ⟨d, rfl⟩ : ∃ k, d = k + 1 := ⟨d - 1, by omega⟩
  exact Rn.of2 me_X0_init (by simp [lg_sl, rt_cat, cat_i, cat_l]) rfl (l := [(0, va_rf a0)]) (by simp [lv_args, rt_cat, cat_i, cat_l]) (rX0_init_0 (by omega) hf)
noncomputable def bX7_init_0 (E : ah_E) (a0 : Option Nat) (h : ah_H) : Option ah_H :=
  if hp_rcv h a0 8 = false then none else
  (hp_na h 0 (40 : Int32) (.inl (fun _ => 0))).bind fun w3 =>
  (hp_pv w3 a0 8 0 (va_rf (some h.1))).bind fun w5 =>
  some w5
set_option maxRecDepth 20000 in
set_option maxHeartbeats 4000000 in
theorem rX7_init_0 {X : ah_X} {d : Nat} (hd : 0 ≤ d) {a0 : Option Nat} {h : ah_H} {h2 : ah_H} (hf : bX7_init_0 X.2.2.2 a0 h = some h2) : Rt X yX7_init cX7_init 1 (d + 1) 0 [(0, va_rf a0)] [] h none h2 := by
  unfold bX7_init_0 at hf
  refine rt_aload_n (pc := 0) (k0 := 0) (x := a0) 0 rfl dX7_init_0 ?_
  by_cases c1 : hp_rcv h a0 8 = false
  · rw [if_pos c1] at hf; cases hf
  rw [if_neg c1] at hf
  refine rt_objInit (pc := 1) wl_X7_3 (by decide) dX7_init_1 (by obtain ⟨q, _, q2, _⟩ := hp_rcv_spec ((Bool.not_eq_false _).mp c1); exact ⟨q, q2⟩) ?_
  refine rt_aload_n (pc := 4) (k0 := 0) (x := a0) 0 rfl dX7_init_4 ?_
  refine rt_bipush (pc := 5) (n := 40) (v := (40 : Int32)) (by decide) dX7_init_5 ?_
  obtain ⟨w3, e4, hf⟩ := ob1 hf
  refine rt_newa (pc := 7) 0 (by decide) rfl wa_byte (fun _ _ => rfl) (by decide) dX7_init_7 e4 ?_
  obtain ⟨w5, e6, hf⟩ := ob1 hf
  refine rt_putf (pc := 9) (x := a0) fw_X7_9 (Or.inr rfl) (pf_a _ _).1 (pf_a _ _).2 dX7_init_9 e6 ?_
  cases hf
  exact rt_ret (pc := 12) dX7_init_12 rfl
noncomputable def fX7_init (E : ah_E) (a0 : Option Nat) (h : ah_H) : Option ah_H := if hp_rcv h a0 8 = false then none else bX7_init_0 E a0 h
set_option maxRecDepth 20000 in
set_option maxHeartbeats 4000000 in
theorem sX7_init {X : ah_X} (d : Nat) (hd : 1 ≤ d) {a0 : Option Nat} {h : ah_H} {h2 : ah_H} (hf : fX7_init X.2.2.2 a0 h = some h2) : hp_rcv h a0 8 = true ∧ Rn X yX7_init cX7_init 1 none d [va_rf a0] h none h2 := by
  unfold fX7_init at hf
  by_cases c0 : hp_rcv h a0 8 = false
  · rw [if_pos c0] at hf; cases hf
  rw [if_neg c0] at hf
  refine ⟨(Bool.not_eq_false _).mp c0, ?_⟩
  obtain ⟨d, rfl⟩ : ∃ k, d = k + 1 := ⟨d - 1, by omega⟩
  exact Rn.of2 me_X7_init (by simp [lg_sl, rt_cat, cat_i, cat_l]) rfl (l := [(0, va_rf a0)]) (by simp [lv_args, rt_cat, cat_i, cat_l]) (rX7_init_0 (by omega) hf)
noncomputable def bX8_init_0 (E : ah_E) (a0 : Option Nat) (h : ah_H) : Option ah_H :=
  if hp_rcv h a0 9 = false then none else
  some h
set_option maxRecDepth 20000 in
set_option maxHeartbeats 4000000 in
theorem rX8_init_0 {X : ah_X} {d : Nat} (hd : 0 ≤ d) {a0 : Option Nat} {h : ah_H} {h2 : ah_H} (hf : bX8_init_0 X.2.2.2 a0 h = some h2) : Rt X yX8_init cX8_init 1 (d + 1) 0 [(0, va_rf a0)] [] h none h2 := by
  unfold bX8_init_0 at hf
  refine rt_aload_n (pc := 0) (k0 := 0) (x := a0) 0 rfl dX8_init_0 ?_
  by_cases c1 : hp_rcv h a0 9 = false
  · rw [if_pos c1] at hf; cases hf
  rw [if_neg c1] at hf
  refine rt_objInit (pc := 1) wl_X8_3 (by decide) dX8_init_1 (by obtain ⟨q, _, q2, _⟩ := hp_rcv_spec ((Bool.not_eq_false _).mp c1); exact ⟨q, q2⟩) ?_
  cases hf
  exact rt_ret (pc := 4) dX8_init_4 rfl
noncomputable def fX8_init (E : ah_E) (a0 : Option Nat) (h : ah_H) : Option ah_H := if hp_rcv h a0 9 = false then none else bX8_init_0 E a0 h
set_option maxRecDepth 20000 in
set_option maxHeartbeats 4000000 in
theorem sX8_init {X : ah_X} (d : Nat) (hd : 1 ≤ d) {a0 : Option Nat} {h : ah_H} {h2 : ah_H} (hf : fX8_init X.2.2.2 a0 h = some h2) : hp_rcv h a0 9 = true ∧ Rn X yX8_init cX8_init 1 none d [va_rf a0] h none h2 := by
  unfold fX8_init at hf
  by_cases c0 : hp_rcv h a0 9 = false
  · rw [if_pos c0] at hf; cases hf
  rw [if_neg c0] at hf
  refine ⟨(Bool.not_eq_false _).mp c0, ?_⟩
  obtain ⟨d, rfl⟩ : ∃ k, d = k + 1 := ⟨d - 1, by omega⟩
  exact Rn.of2 me_X8_init (by simp [lg_sl, rt_cat, cat_i, cat_l]) rfl (l := [(0, va_rf a0)]) (by simp [lv_args, rt_cat, cat_i, cat_l]) (rX8_init_0 (by omega) hf)
noncomputable def bX8_lettersIn_53 (E : ah_E) (kr : Option Nat → Int32 → ah_H → Option (Int32 × ah_H)) (a2 : Int32) (h : ah_H) : Option (Int32 × ah_H) :=
  some (a2, h)
set_option maxRecDepth 20000 in
set_option maxHeartbeats 4000000 in
theorem rX8_lettersIn_53 {X : ah_X} {d : Nat} {dk : Nat} {kr : Option Nat → Int32 → ah_H → Option (Int32 × ah_H)} (hkr : ∀ (d : Nat), dk ≤ d → ∀ (x0 : Option Nat) (x1 : Int32) (h : ah_H) (r : Int32) (h2 : ah_H), kr x0 x1 h = some (r, h2) → Rn X yX8_lettersIn cX8_lettersIn 4 (some .int) d [va_rf x0, .int x1] h (some (.int r)) h2) (hd : 2 ≤ d) (hdk : dk + 0 ≤ d) {a2 : Int32} {h : ah_H} {r : Int32} {h2 : ah_H} (hf : bX8_lettersIn_53 X.2.2.2 kr a2 h = some (r, h2)) : Rt X yX8_lettersIn cX8_lettersIn 4 (d + 1) 53 [(2, .int a2)] [] h (some (.int r)) h2 := by
  unfold bX8_lettersIn_53 at hf
  refine rt_iload_n (pc := 53) (k0 := 2) (x := a2) 0 rfl dX8_lettersIn_53 ?_
  cases hf
  exact rt_ret (pc := 54) dX8_lettersIn_54 rfl
noncomputable def bX8_lettersIn_10 (E : ah_E) (kr : Option Nat → Int32 → ah_H → Option (Int32 × ah_H)) : Nat → Option Nat → Int32 → Int32 → Int32 → ah_H → Option (Int32 × ah_H)
  | 0 => fun _ _ _ _ _ => none
  | n + 1 => fun a0 a1 a2 a3 h =>
  (hp_gr h a0 6 2).bind fun v1 =>
  ob2 (fJx4a65c_size_8abf5 E v1 h) fun v5 w4 =>
  if v5 ≤ a3 then
    bX8_lettersIn_53 E kr a2 w4
  else
  if (40 : Int32) ≤ a1 then
    bX8_lettersIn_53 E kr a2 w4
  else
  (hp_gr w4 a0 6 2).bind fun v9 =>
  ob2 (fJx4a65c_get_915e3 E v9 a3 w4) fun v13 w12 =>
  if hp_cls w12 v13 6 = false then none else
  ob2 (kr v13 (a1 + (1 : Int32)) w12) fun v18 w17 =>
  bX8_lettersIn_10 E kr n a0 a1 (a2 + v18) (a3 + 1) w17
set_option maxRecDepth 20000 in
set_option maxHeartbeats 4000000 in
theorem rX8_lettersIn_10 {X : ah_X} {d : Nat} {dk : Nat} {kr : Option Nat → Int32 → ah_H → Option (Int32 × ah_H)} (hkr : ∀ (d : Nat), dk ≤ d → ∀ (x0 : Option Nat) (x1 : Int32) (h : ah_H) (r : Int32) (h2 : ah_H), kr x0 x1 h = some (r, h2) → Rn X yX8_lettersIn cX8_lettersIn 4 (some .int) d [va_rf x0, .int x1] h (some (.int r)) h2) (hd : 2 ≤ d) (hdk : dk + 0 ≤ d) (n : Nat) : ∀ (a0 : Option Nat) (a1 : Int32) (a2 : Int32) (a3 : Int32) (h : ah_H) (r : Int32) (h2 : ah_H), bX8_lettersIn_10 X.2.2.2 kr n a0 a1 a2 a3 h = some (r, h2) → Rt X yX8_lettersIn cX8_lettersIn 4 (d + 1) 10 [(0, va_rf a0), (1, .int a1), (2, .int a2), (3, .int a3)] [] h (some (.int r)) h2 := by
  induction n with
  | zero => intro a0 a1 a2 a3 h r h2 hf; cases hf
  | succ n ih =>
  intro a0 a1 a2 a3 h r h2 hf
  unfold bX8_lettersIn_10 at hf
  refine rt_iload_n (pc := 10) (k0 := 3) (x := a3) 3 rfl dX8_lettersIn_10 ?_
  refine rt_aload_n (pc := 11) (k0 := 0) (x := a0) 0 rfl dX8_lettersIn_11 ?_
  obtain ⟨v1, e2, hf⟩ := ob1 hf
  refine rt_gr (pc := 12) fd_X8_53 dX8_lettersIn_12 e2 ?_
  obtain ⟨v5, w4, e3, hf⟩ := ob2_of hf
  have g6 := sJx4a65c_size_8abf5 d (by omega) e3
  refine rt_callV (pc := 15) (As := []) (st := [.int a3]) me_Jx4a65c_size_8abf5 mi_Jx4a65c_size_8abf5 wl_X8_46 dX8_lettersIn_15 rfl (by simp [rt_cat, cat_i, cat_l]) rfl g6.1 g6.2 ?_
  by_cases c7 : v5 ≤ a3
  · rw [if_pos c7] at hf
    refine rt_icmp_ge_p (pc := 18) (x := a3) (z := v5) (tgt := 53) (by decide) dX8_lettersIn_18 c7 ?_
    exact rt_locals (rt_sub [2] rfl) (rX8_lettersIn_53 hkr hd hdk hf)
  rw [if_neg c7] at hf
  refine rt_icmp_ge_n (pc := 18) (x := a3) (z := v5) (tgt := 53) (by decide) dX8_lettersIn_18 c7 ?_
  refine rt_iload_n (pc := 21) (k0 := 1) (x := a1) 1 rfl dX8_lettersIn_21 ?_
  refine rt_bipush (pc := 22) (n := 40) (v := (40 : Int32)) (by decide) dX8_lettersIn_22 ?_
  by_cases c8 : (40 : Int32) ≤ a1
  · rw [if_pos c8] at hf
    refine rt_icmp_ge_p (pc := 24) (x := a1) (z := (40 : Int32)) (tgt := 53) (by decide) dX8_lettersIn_24 c8 ?_
    exact rt_locals (rt_sub [2] rfl) (rX8_lettersIn_53 hkr hd hdk hf)
  rw [if_neg c8] at hf
  refine rt_icmp_ge_n (pc := 24) (x := a1) (z := (40 : Int32)) (tgt := 53) (by decide) dX8_lettersIn_24 c8 ?_
  refine rt_iload_n (pc := 27) (k0 := 2) (x := a2) 2 rfl dX8_lettersIn_27 ?_
  refine rt_aload_n (pc := 28) (k0 := 0) (x := a0) 0 rfl dX8_lettersIn_28 ?_
  obtain ⟨v9, e10, hf⟩ := ob1 hf
  refine rt_gr (pc := 29) fd_X8_53 dX8_lettersIn_29 e10 ?_
  refine rt_iload_n (pc := 32) (k0 := 3) (x := a3) 3 rfl dX8_lettersIn_32 ?_
  obtain ⟨v13, w12, e11, hf⟩ := ob2_of hf
  have g14 := sJx4a65c_get_915e3 d (by omega) e11
  refine rt_callV (pc := 33) (As := [.int a3]) (st := [.int a2]) me_Jx4a65c_get_915e3 mi_Jx4a65c_get_915e3 wl_X8_56 dX8_lettersIn_33 rfl (by simp [rt_cat, cat_i, cat_l]) rfl g14.1 g14.2 ?_
  by_cases c15 : hp_cls w12 v13 6 = false
  · rw [if_pos c15] at hf; cases hf
  rw [if_neg c15] at hf
  refine rt_cast (pc := 36) (x := v13) (show vwCl[6]? = some (RX5, TX5, 5) from rfl) wc_X8_16 dX8_lettersIn_36 ((Bool.not_eq_false _).mp c15) ?_
  refine rt_iload_n (pc := 39) (k0 := 1) (x := a1) 1 rfl dX8_lettersIn_39 ?_
  refine rt_iconst (pc := 40) (n := 1) (v := (1 : Int32)) (by decide) dX8_lettersIn_40 ?_
  refine rt_iadd (pc := 41) (x := a1) (z := (1 : Int32)) dX8_lettersIn_41 ?_
  obtain ⟨v18, w17, e16, hf⟩ := ob2_of hf
  have g19 := hkr d (by omega) _ _ _ _ _ e16
  refine rt_callS (pc := 42) (As := [va_rf v13, .int (a1 + (1 : Int32))]) (st := [.int a2]) me_X8_lettersIn ms_X8_lettersIn wl_X8_101 dX8_lettersIn_42 rfl (by simp [rt_cat, cat_i, cat_l]) rfl g19 ?_
  refine rt_iadd (pc := 45) (x := a2) (z := v18) dX8_lettersIn_45 ?_
  refine rt_istore_n (pc := 46) (k0 := 2) (x := (a2 + v18)) (l2 := [(2, .int (a2 + v18)), (0, va_rf a0), (1, .int a1), (3, .int a3)]) (by decide) (by first | rfl | (simp [rt_cat, cat_i, cat_l]; done) | (simp [rt_cat, cat_i, cat_l]; decide)) dX8_lettersIn_46 ?_
  refine rt_iinc (pc := 47) (i := 3) (n := 1) (x := a3) (v := (a3 + 1)) (l2 := [(3, .int (a3 + 1)), (2, .int (a2 + v18)), (0, va_rf a0), (1, .int a1)]) 3 rfl rfl (by decide) (by first | rfl | (simp [rt_cat, cat_i, cat_l]; done) | (simp [rt_cat, cat_i, cat_l]; decide)) dX8_lettersIn_47 ?_
  refine rt_goto (pc := 50) (tgt := 10) (by decide) dX8_lettersIn_50 ?_
  exact rt_locals (rt_sub [2, 3, 1, 0] rfl) (ih _ _ _ _ _ _ _ hf)
noncomputable def bX8_lettersIn_0 (E : ah_E) (kr : Option Nat → Int32 → ah_H → Option (Int32 × ah_H)) (a0 : Option Nat) (a1 : Int32) (h : ah_H) : Option (Int32 × ah_H) :=
  (hp_gr h a0 6 3).bind fun v1 =>
  ob2 (fJx4a65c_size_8abf5 E v1 h) fun v5 w4 =>
  bX8_lettersIn_10 E kr zf a0 a1 v5 (0 : Int32) w4
set_option maxRecDepth 20000 in
set_option maxHeartbeats 4000000 in
theorem rX8_lettersIn_0 {X : ah_X} {d : Nat} {dk : Nat} {kr : Option Nat → Int32 → ah_H → Option (Int32 × ah_H)} (hkr : ∀ (d : Nat), dk ≤ d → ∀ (x0 : Option Nat) (x1 : Int32) (h : ah_H) (r : Int32) (h2 : ah_H), kr x0 x1 h = some (r, h2) → Rn X yX8_lettersIn cX8_lettersIn 4 (some .int) d [va_rf x0, .int x1] h (some (.int r)) h2) (hd : 2 ≤ d) (hdk : dk + 0 ≤ d) {a0 : Option Nat} {a1 : Int32} {h : ah_H} {r : Int32} {h2 : ah_H} (hf : bX8_lettersIn_0 X.2.2.2 kr a0 a1 h = some (r, h2)) : Rt X yX8_lettersIn cX8_lettersIn 4 (d + 1) 0 [(0, va_rf a0), (1, .int a1)] [] h (some (.int r)) h2 := by
  unfold bX8_lettersIn_0 at hf
  refine rt_aload_n (pc := 0) (k0 := 0) (x := a0) 0 rfl dX8_lettersIn_0 ?_
  obtain ⟨v1, e2, hf⟩ := ob1 hf
  refine rt_gr (pc := 1) fd_X8_15 dX8_lettersIn_1 e2 ?_
  obtain ⟨v5, w4, e3, hf⟩ := ob2_of hf
  have g6 := sJx4a65c_size_8abf5 d (by omega) e3
  refine rt_callV (pc := 4) (As := []) (st := []) me_Jx4a65c_size_8abf5 mi_Jx4a65c_size_8abf5 wl_X8_46 dX8_lettersIn_4 rfl (by decide) rfl g6.1 g6.2 ?_
  refine rt_istore_n (pc := 7) (k0 := 2) (x := v5) (l2 := [(2, .int v5), (0, va_rf a0), (1, .int a1)]) (by decide) (by first | rfl | (simp [rt_cat, cat_i, cat_l]; done) | (simp [rt_cat, cat_i, cat_l]; decide)) dX8_lettersIn_7 ?_
  refine rt_iconst (pc := 8) (n := 0) (v := (0 : Int32)) (by decide) dX8_lettersIn_8 ?_
  refine rt_istore_n (pc := 9) (k0 := 3) (x := (0 : Int32)) (l2 := [(3, .int (0 : Int32)), (2, .int v5), (0, va_rf a0), (1, .int a1)]) (by decide) (by first | rfl | (simp [rt_cat, cat_i, cat_l]; done) | (simp [rt_cat, cat_i, cat_l]; decide)) dX8_lettersIn_9 ?_
  exact rt_locals (rt_sub [2, 3, 1, 0] rfl) (rX8_lettersIn_10 hkr hd hdk zf _ _ _ _ _ _ _ hf)
noncomputable def gX8_lettersIn (E : ah_E) (kr : Option Nat → Int32 → ah_H → Option (Int32 × ah_H)) (a0 : Option Nat) (a1 : Int32) (h : ah_H) : Option (Int32 × ah_H) := bX8_lettersIn_0 E kr a0 a1 h
set_option maxRecDepth 20000 in
set_option maxHeartbeats 4000000 in
theorem tX8_lettersIn {X : ah_X} {dk : Nat} {kr : Option Nat → Int32 → ah_H → Option (Int32 × ah_H)} (hkr : ∀ (d : Nat), dk ≤ d → ∀ (x0 : Option Nat) (x1 : Int32) (h : ah_H) (r : Int32) (h2 : ah_H), kr x0 x1 h = some (r, h2) → Rn X yX8_lettersIn cX8_lettersIn 4 (some .int) d [va_rf x0, .int x1] h (some (.int r)) h2) (d : Nat) (hdk : dk + 1 ≤ d) (hd : 3 ≤ d) {a0 : Option Nat} {a1 : Int32} {h : ah_H} {r : Int32} {h2 : ah_H} (hf : gX8_lettersIn X.2.2.2 kr a0 a1 h = some (r, h2)) : Rn X yX8_lettersIn cX8_lettersIn 4 (some .int) d [va_rf a0, .int a1] h (some (.int r)) h2 := by
  unfold gX8_lettersIn at hf
  obtain ⟨d, rfl⟩ : ∃ k, d = k + 1 := ⟨d - 1, by omega⟩
  exact Rn.of2 me_X8_lettersIn (by simp [lg_sl, rt_cat, cat_i, cat_l]) (ok_i _) (l := [(0, va_rf a0), (1, .int a1)]) (by simp [lv_args, rt_cat, cat_i, cat_l]) (rX8_lettersIn_0 hkr (by omega) (by omega) hf)
noncomputable def fX8_lettersIn (E : ah_E) : Nat → Option Nat → Int32 → ah_H → Option (Int32 × ah_H)
  | 0 => fun _ _ _ => none
  | n + 1 => fun a0 a1 h => gX8_lettersIn E (fX8_lettersIn E n) a0 a1 h
set_option maxRecDepth 20000 in
set_option maxHeartbeats 4000000 in
theorem sX8_lettersIn {X : ah_X} (n : Nat) : ∀ (d : Nat), 3 + 1 * n ≤ d → ∀ (a0 : Option Nat) (a1 : Int32) (h : ah_H) (r : Int32) (h2 : ah_H), fX8_lettersIn X.2.2.2 n a0 a1 h = some (r, h2) → Rn X yX8_lettersIn cX8_lettersIn 4 (some .int) d [va_rf a0, .int a1] h (some (.int r)) h2 := by
  induction n with
  | zero => intro d hd a0 a1 h r h2 hf; cases hf
  | succ n ih =>
    intro d hd a0 a1 h r h2 hf
    exact tX8_lettersIn (dk := 3 + 1 * n) ih d (by omega) (by omega) hf
noncomputable def bX5_kidFor_46 (E : ah_E) (a3 : Int32) (h : ah_H) : Option (Int32 × ah_H) :=
  some (a3, h)
set_option maxRecDepth 20000 in
set_option maxHeartbeats 4000000 in
theorem rX5_kidFor_46 {X : ah_X} {d : Nat} (hd : 2 ≤ d) {a3 : Int32} {h : ah_H} {r : Int32} {h2 : ah_H} (hf : bX5_kidFor_46 X.2.2.2 a3 h = some (r, h2)) : Rt X yX5_kidFor cX5_kidFor 5 (d + 1) 46 [(3, .int a3)] [] h (some (.int r)) h2 := by
  unfold bX5_kidFor_46 at hf
  refine rt_iload_n (pc := 46) (k0 := 3) (x := a3) 0 rfl dX5_kidFor_46 ?_
  cases hf
  exact rt_ret (pc := 47) dX5_kidFor_47 rfl
noncomputable def bX5_kidFor_5 (E : ah_E) : Nat → Option Nat → Int64 → Int32 → Int32 → ah_H → Option (Int32 × ah_H)
  | 0 => fun _ _ _ _ _ => none
  | n + 1 => fun a0 a1 a3 a4 h =>
  (hp_gr h a0 6 2).bind fun v1 =>
  ob2 (fJx4a65c_size_8abf5 E v1 h) fun v5 w4 =>
  if v5 ≤ a4 then
    bX5_kidFor_46 E a3 w4
  else
  (hp_gr w4 a0 6 2).bind fun v8 =>
  ob2 (fJx4a65c_get_915e3 E v8 a4 w4) fun v12 w11 =>
  if hp_cls w11 v12 6 = false then none else
  (hp_gl w11 v12 6 0).bind fun v15 =>
  if a1 < v15 then
    bX5_kidFor_46 E a3 w11
  else
  bX5_kidFor_5 E n a0 a1 a4 (a4 + 1) w11
set_option maxRecDepth 20000 in
set_option maxHeartbeats 4000000 in
theorem rX5_kidFor_5 {X : ah_X} {d : Nat} (hd : 2 ≤ d) (n : Nat) : ∀ (a0 : Option Nat) (a1 : Int64) (a3 : Int32) (a4 : Int32) (h : ah_H) (r : Int32) (h2 : ah_H), bX5_kidFor_5 X.2.2.2 n a0 a1 a3 a4 h = some (r, h2) → Rt X yX5_kidFor cX5_kidFor 5 (d + 1) 5 [(0, va_rf a0), (1, .long a1), (3, .int a3), (4, .int a4)] [] h (some (.int r)) h2 := by
  induction n with
  | zero => intro a0 a1 a3 a4 h r h2 hf; cases hf
  | succ n ih =>
  intro a0 a1 a3 a4 h r h2 hf
  unfold bX5_kidFor_5 at hf
  refine rt_iload (pc := 5) (i := 4) (x := a4) 3 rfl dX5_kidFor_5 ?_
  refine rt_aload_n (pc := 7) (k0 := 0) (x := a0) 0 rfl dX5_kidFor_7 ?_
  obtain ⟨v1, e2, hf⟩ := ob1 hf
  refine rt_gr (pc := 8) fd_X5_12 dX5_kidFor_8 e2 ?_
  obtain ⟨v5, w4, e3, hf⟩ := ob2_of hf
  have g6 := sJx4a65c_size_8abf5 d (by omega) e3
  refine rt_callV (pc := 11) (As := []) (st := [.int a4]) me_Jx4a65c_size_8abf5 mi_Jx4a65c_size_8abf5 wl_X5_42 dX5_kidFor_11 rfl (by simp [rt_cat, cat_i, cat_l]) rfl g6.1 g6.2 ?_
  by_cases c7 : v5 ≤ a4
  · rw [if_pos c7] at hf
    refine rt_icmp_ge_p (pc := 14) (x := a4) (z := v5) (tgt := 46) (by decide) dX5_kidFor_14 c7 ?_
    exact rt_locals (rt_sub [2] rfl) (rX5_kidFor_46 hd hf)
  rw [if_neg c7] at hf
  refine rt_icmp_ge_n (pc := 14) (x := a4) (z := v5) (tgt := 46) (by decide) dX5_kidFor_14 c7 ?_
  refine rt_aload_n (pc := 17) (k0 := 0) (x := a0) 0 rfl dX5_kidFor_17 ?_
  obtain ⟨v8, e9, hf⟩ := ob1 hf
  refine rt_gr (pc := 18) fd_X5_12 dX5_kidFor_18 e9 ?_
  refine rt_iload (pc := 21) (i := 4) (x := a4) 3 rfl dX5_kidFor_21 ?_
  obtain ⟨v12, w11, e10, hf⟩ := ob2_of hf
  have g13 := sJx4a65c_get_915e3 d (by omega) e10
  refine rt_callV (pc := 23) (As := [.int a4]) (st := []) me_Jx4a65c_get_915e3 mi_Jx4a65c_get_915e3 wl_X5_60 dX5_kidFor_23 rfl (by decide) rfl g13.1 g13.2 ?_
  by_cases c14 : hp_cls w11 v12 6 = false
  · rw [if_pos c14] at hf; cases hf
  rw [if_neg c14] at hf
  refine rt_cast (pc := 26) (x := v12) (show vwCl[6]? = some (RX5, TX5, 5) from rfl) wc_X5_13 dX5_kidFor_26 ((Bool.not_eq_false _).mp c14) ?_
  obtain ⟨v15, e16, hf⟩ := ob1 hf
  refine rt_gl (pc := 29) fd_X5_25 dX5_kidFor_29 e16 ?_
  refine rt_lload_n (pc := 32) (k0 := 1) (x := a1) 1 rfl dX5_kidFor_32 ?_
  by_cases c17 : a1 < v15
  · rw [if_pos c17] at hf
    refine rt_lif_gt_p (pc := 33) (x := v15) (z := a1) (tgt := 46) (by decide) dX5_kidFor_33 dX5_kidFor_34 c17 ?_
    exact rt_locals (rt_sub [2] rfl) (rX5_kidFor_46 hd hf)
  rw [if_neg c17] at hf
  refine rt_lif_gt_n (pc := 33) (x := v15) (z := a1) (tgt := 46) (by decide) dX5_kidFor_33 dX5_kidFor_34 c17 ?_
  refine rt_iload (pc := 37) (i := 4) (x := a4) 3 rfl dX5_kidFor_37 ?_
  refine rt_istore_n (pc := 39) (k0 := 3) (x := a4) (l2 := [(3, .int a4), (0, va_rf a0), (1, .long a1), (4, .int a4)]) (by decide) (by first | rfl | (simp [rt_cat, cat_i, cat_l]; done) | (simp [rt_cat, cat_i, cat_l]; decide)) dX5_kidFor_39 ?_
  refine rt_iinc (pc := 40) (i := 4) (n := 1) (x := a4) (v := (a4 + 1)) (l2 := [(4, .int (a4 + 1)), (3, .int a4), (0, va_rf a0), (1, .long a1)]) 3 rfl rfl (by decide) (by first | rfl | (simp [rt_cat, cat_i, cat_l]; done) | (simp [rt_cat, cat_i, cat_l]; decide)) dX5_kidFor_40 ?_
  refine rt_goto (pc := 43) (tgt := 5) (by decide) dX5_kidFor_43 ?_
  exact rt_locals (rt_sub [2, 3, 1, 0] rfl) (ih _ _ _ _ _ _ _ hf)
noncomputable def bX5_kidFor_0 (E : ah_E) (a0 : Option Nat) (a1 : Int64) (h : ah_H) : Option (Int32 × ah_H) :=
  bX5_kidFor_5 E zf a0 a1 (0 : Int32) (1 : Int32) h
set_option maxRecDepth 20000 in
set_option maxHeartbeats 4000000 in
theorem rX5_kidFor_0 {X : ah_X} {d : Nat} (hd : 2 ≤ d) {a0 : Option Nat} {a1 : Int64} {h : ah_H} {r : Int32} {h2 : ah_H} (hf : bX5_kidFor_0 X.2.2.2 a0 a1 h = some (r, h2)) : Rt X yX5_kidFor cX5_kidFor 5 (d + 1) 0 [(0, va_rf a0), (1, .long a1)] [] h (some (.int r)) h2 := by
  unfold bX5_kidFor_0 at hf
  refine rt_iconst (pc := 0) (n := 0) (v := (0 : Int32)) (by decide) dX5_kidFor_0 ?_
  refine rt_istore_n (pc := 1) (k0 := 3) (x := (0 : Int32)) (l2 := [(3, .int (0 : Int32)), (0, va_rf a0), (1, .long a1)]) (by decide) (by first | rfl | (simp [rt_cat, cat_i, cat_l]; done) | (simp [rt_cat, cat_i, cat_l]; decide)) dX5_kidFor_1 ?_
  refine rt_iconst (pc := 2) (n := 1) (v := (1 : Int32)) (by decide) dX5_kidFor_2 ?_
  refine rt_istore (pc := 3) (i := 4) (x := (1 : Int32)) (l2 := [(4, .int (1 : Int32)), (3, .int (0 : Int32)), (0, va_rf a0), (1, .long a1)]) (by decide) (by first | rfl | (simp [rt_cat, cat_i, cat_l]; done) | (simp [rt_cat, cat_i, cat_l]; decide)) dX5_kidFor_3 ?_
  exact rt_locals (rt_sub [2, 3, 1, 0] rfl) (rX5_kidFor_5 hd zf _ _ _ _ _ _ _ hf)
noncomputable def fX5_kidFor (E : ah_E) (a0 : Option Nat) (a1 : Int64) (h : ah_H) : Option (Int32 × ah_H) := if hp_rcv h a0 6 = false then none else bX5_kidFor_0 E a0 a1 h
set_option maxRecDepth 20000 in
set_option maxHeartbeats 4000000 in
theorem sX5_kidFor {X : ah_X} (d : Nat) (hd : 3 ≤ d) {a0 : Option Nat} {a1 : Int64} {h : ah_H} {r : Int32} {h2 : ah_H} (hf : fX5_kidFor X.2.2.2 a0 a1 h = some (r, h2)) : hp_rcv h a0 6 = true ∧ Rn X yX5_kidFor cX5_kidFor 5 (some .int) d [va_rf a0, .long a1] h (some (.int r)) h2 := by
  unfold fX5_kidFor at hf
  by_cases c0 : hp_rcv h a0 6 = false
  · rw [if_pos c0] at hf; cases hf
  rw [if_neg c0] at hf
  refine ⟨(Bool.not_eq_false _).mp c0, ?_⟩
  obtain ⟨d, rfl⟩ : ∃ k, d = k + 1 := ⟨d - 1, by omega⟩
  exact Rn.of2 me_X5_kidFor (by simp [lg_sl, rt_cat, cat_i, cat_l]) (ok_i _) (l := [(0, va_rf a0), (1, .long a1)]) (by simp [lv_args, rt_cat, cat_i, cat_l]) (rX5_kidFor_0 (by omega) hf)
noncomputable def bX8_rowIn_13 (E : ah_E) (kr : Option Nat → Int64 → Int32 → ah_H → Option (Option Nat × ah_H)) (a0 : Option Nat) (a1 : Int64) (h : ah_H) : Option (Option Nat × ah_H) :=
  (hp_gr h a0 6 1).bind fun v1 =>
  ob2 (fX1_rowOf E v1 a1 h) fun v5 w4 =>
  some (v5, w4)
set_option maxRecDepth 20000 in
set_option maxHeartbeats 4000000 in
theorem rX8_rowIn_13 {X : ah_X} {d : Nat} {dk : Nat} {kr : Option Nat → Int64 → Int32 → ah_H → Option (Option Nat × ah_H)} (hkr : ∀ (d : Nat), dk ≤ d → ∀ (x0 : Option Nat) (x1 : Int64) (x2 : Int32) (h : ah_H) (r : Option Nat) (h2 : ah_H), kr x0 x1 x2 h = some (r, h2) → Rn X yX8_rowIn cX8_rowIn 7 (some (.array .byte)) d [va_rf x0, .long x1, .int x2] h (some (va_rf r)) h2) (hd : 4 ≤ d) (hdk : dk + 0 ≤ d) {a0 : Option Nat} {a1 : Int64} {h : ah_H} {r : Option Nat} {h2 : ah_H} (hf : bX8_rowIn_13 X.2.2.2 kr a0 a1 h = some (r, h2)) : Rt X yX8_rowIn cX8_rowIn 7 (d + 1) 13 [(0, va_rf a0), (1, .long a1)] [] h (some (va_rf r)) h2 := by
  unfold bX8_rowIn_13 at hf
  refine rt_aload_n (pc := 13) (k0 := 0) (x := a0) 0 rfl dX8_rowIn_13 ?_
  obtain ⟨v1, e2, hf⟩ := ob1 hf
  refine rt_gr (pc := 14) fd_X8_134 dX8_rowIn_14 e2 ?_
  refine rt_lload_n (pc := 17) (k0 := 1) (x := a1) 1 rfl dX8_rowIn_17 ?_
  obtain ⟨v5, w4, e3, hf⟩ := ob2_of hf
  have g6 := sX1_rowOf d (by omega) e3
  refine rt_callV (pc := 18) (As := [.long a1]) (st := []) me_X1_rowOf mi_X1_rowOf wl_X8_138 dX8_rowIn_18 rfl (by decide) rfl g6.1 g6.2 ?_
  cases hf
  exact rt_ret (pc := 21) (rt_atR _ dX8_rowIn_21) rfl
noncomputable def bX8_rowIn_103 (E : ah_E) (kr : Option Nat → Int64 → Int32 → ah_H → Option (Option Nat × ah_H)) (k49 : Option Nat → Int64 → Option Nat → Int32 → ah_H → Option (Option Nat × ah_H)) (a0 : Option Nat) (a1 : Int64) (a4 : Option Nat) (a5 : Int32) (h : ah_H) : Option (Option Nat × ah_H) :=
  k49 a0 a1 a4 (a5 + 1) h
set_option maxRecDepth 20000 in
set_option maxHeartbeats 4000000 in
theorem rX8_rowIn_103 {X : ah_X} {d : Nat} {dk : Nat} {kr : Option Nat → Int64 → Int32 → ah_H → Option (Option Nat × ah_H)} (hkr : ∀ (d : Nat), dk ≤ d → ∀ (x0 : Option Nat) (x1 : Int64) (x2 : Int32) (h : ah_H) (r : Option Nat) (h2 : ah_H), kr x0 x1 x2 h = some (r, h2) → Rn X yX8_rowIn cX8_rowIn 7 (some (.array .byte)) d [va_rf x0, .long x1, .int x2] h (some (va_rf r)) h2) (hd : 4 ≤ d) (hdk : dk + 0 ≤ d) {k49 : Option Nat → Int64 → Option Nat → Int32 → ah_H → Option (Option Nat × ah_H)} (hk49 : ∀ (x0 : Option Nat) (x1 : Int64) (x2 : Option Nat) (x3 : Int32) (h : ah_H) (r : Option Nat) (h2 : ah_H), k49 x0 x1 x2 x3 h = some (r, h2) → Rt X yX8_rowIn cX8_rowIn 7 (d + 1) 49 [(0, va_rf x0), (1, .long x1), (4, va_rf x2), (5, .int x3)] [] h (some (va_rf r)) h2) {a0 : Option Nat} {a1 : Int64} {a4 : Option Nat} {a5 : Int32} {h : ah_H} {r : Option Nat} {h2 : ah_H} (hf : bX8_rowIn_103 X.2.2.2 kr k49 a0 a1 a4 a5 h = some (r, h2)) : Rt X yX8_rowIn cX8_rowIn 7 (d + 1) 103 [(0, va_rf a0), (1, .long a1), (4, va_rf a4), (5, .int a5)] [] h (some (va_rf r)) h2 := by
  unfold bX8_rowIn_103 at hf
  refine rt_iinc (pc := 103) (i := 5) (n := 1) (x := a5) (v := (a5 + 1)) (l2 := [(5, .int (a5 + 1)), (0, va_rf a0), (1, .long a1), (4, va_rf a4)]) 3 rfl rfl (by decide) (by first | rfl | (simp [rt_cat, cat_i, cat_l]; done) | (simp [rt_cat, cat_i, cat_l]; decide)) dX8_rowIn_103 ?_
  refine rt_goto (pc := 106) (tgt := 49) (by decide) dX8_rowIn_106 ?_
  exact rt_locals (rt_sub [1, 2, 3, 0] rfl) (hk49 _ _ _ _ _ _ _ hf)
noncomputable def bX8_rowIn_49 (E : ah_E) (kr : Option Nat → Int64 → Int32 → ah_H → Option (Option Nat × ah_H)) : Nat → Option Nat → Int64 → Option Nat → Int32 → ah_H → Option (Option Nat × ah_H)
  | 0 => fun _ _ _ _ _ => none
  | n + 1 => fun a0 a1 a4 a5 h =>
  (hp_gr h a0 6 3).bind fun v1 =>
  ob2 (fJx4a65c_size_8abf5 E v1 h) fun v5 w4 =>
  if v5 ≤ a5 then
    some (a4, w4)
  else
  (hp_gr w4 a0 6 3).bind fun v8 =>
  ob2 (fJx4a65c_get_915e3 E v8 a5 w4) fun v12 w11 =>
  if hp_cls w11 v12 5 = false then none else
  ob2 (fX4_meets E v12 a1 w11) fun v17 w16 =>
  if v17 = 0 then
    bX8_rowIn_103 E kr (bX8_rowIn_49 E kr n) a0 a1 a4 a5 w16
  else
  ob2 (fX4_changes E v12 a4 w16) fun v22 w21 =>
  if v22 = 0 then
    bX8_rowIn_103 E kr (bX8_rowIn_49 E kr n) a0 a1 a4 a5 w21
  else
  ob2 (fX4_rowAfter E v12 a4 w21) fun v27 w26 =>
  bX8_rowIn_103 E kr (bX8_rowIn_49 E kr n) a0 a1 v27 a5 w26
set_option maxRecDepth 20000 in
set_option maxHeartbeats 4000000 in
theorem rX8_rowIn_49 {X : ah_X} {d : Nat} {dk : Nat} {kr : Option Nat → Int64 → Int32 → ah_H → Option (Option Nat × ah_H)} (hkr : ∀ (d : Nat), dk ≤ d → ∀ (x0 : Option Nat) (x1 : Int64) (x2 : Int32) (h : ah_H) (r : Option Nat) (h2 : ah_H), kr x0 x1 x2 h = some (r, h2) → Rn X yX8_rowIn cX8_rowIn 7 (some (.array .byte)) d [va_rf x0, .long x1, .int x2] h (some (va_rf r)) h2) (hd : 4 ≤ d) (hdk : dk + 0 ≤ d) (n : Nat) : ∀ (a0 : Option Nat) (a1 : Int64) (a4 : Option Nat) (a5 : Int32) (h : ah_H) (r : Option Nat) (h2 : ah_H), bX8_rowIn_49 X.2.2.2 kr n a0 a1 a4 a5 h = some (r, h2) → Rt X yX8_rowIn cX8_rowIn 7 (d + 1) 49 [(0, va_rf a0), (1, .long a1), (4, va_rf a4), (5, .int a5)] [] h (some (va_rf r)) h2 := by
  induction n with
  | zero => intro a0 a1 a4 a5 h r h2 hf; cases hf
  | succ n ih =>
  intro a0 a1 a4 a5 h r h2 hf
  unfold bX8_rowIn_49 at hf
  refine rt_iload (pc := 49) (i := 5) (x := a5) 3 rfl dX8_rowIn_49 ?_
  refine rt_aload_n (pc := 51) (k0 := 0) (x := a0) 0 rfl dX8_rowIn_51 ?_
  obtain ⟨v1, e2, hf⟩ := ob1 hf
  refine rt_gr (pc := 52) fd_X8_15 dX8_rowIn_52 e2 ?_
  obtain ⟨v5, w4, e3, hf⟩ := ob2_of hf
  have g6 := sJx4a65c_size_8abf5 d (by omega) e3
  refine rt_callV (pc := 55) (As := []) (st := [.int a5]) me_Jx4a65c_size_8abf5 mi_Jx4a65c_size_8abf5 wl_X8_46 dX8_rowIn_55 rfl (by simp [rt_cat, cat_i, cat_l]) rfl g6.1 g6.2 ?_
  by_cases c7 : v5 ≤ a5
  · rw [if_pos c7] at hf
    refine rt_icmp_ge_p (pc := 58) (x := a5) (z := v5) (tgt := 109) (by decide) dX8_rowIn_58 c7 ?_
    refine rt_aload (pc := 109) (i := 4) (x := a4) 2 rfl dX8_rowIn_109 ?_
    cases hf
    exact rt_ret (pc := 111) (rt_atR _ dX8_rowIn_111) rfl
  rw [if_neg c7] at hf
  refine rt_icmp_ge_n (pc := 58) (x := a5) (z := v5) (tgt := 109) (by decide) dX8_rowIn_58 c7 ?_
  refine rt_aload_n (pc := 61) (k0 := 0) (x := a0) 0 rfl dX8_rowIn_61 ?_
  obtain ⟨v8, e9, hf⟩ := ob1 hf
  refine rt_gr (pc := 62) fd_X8_15 dX8_rowIn_62 e9 ?_
  refine rt_iload (pc := 65) (i := 5) (x := a5) 3 rfl dX8_rowIn_65 ?_
  obtain ⟨v12, w11, e10, hf⟩ := ob2_of hf
  have g13 := sJx4a65c_get_915e3 d (by omega) e10
  refine rt_callV (pc := 67) (As := [.int a5]) (st := []) me_Jx4a65c_get_915e3 mi_Jx4a65c_get_915e3 wl_X8_56 dX8_rowIn_67 rfl (by decide) rfl g13.1 g13.2 ?_
  by_cases c14 : hp_cls w11 v12 5 = false
  · rw [if_pos c14] at hf; cases hf
  rw [if_neg c14] at hf
  refine rt_cast (pc := 70) (x := v12) (show vwCl[5]? = some (RX4, TX4, 6) from rfl) wc_X8_110 dX8_rowIn_70 ((Bool.not_eq_false _).mp c14) ?_
  refine rt_astore (pc := 73) (i := 6) (x := v12) (l2 := [(6, va_rf v12), (0, va_rf a0), (1, .long a1), (4, va_rf a4), (5, .int a5)]) (by decide) (by first | rfl | (simp [rt_cat, cat_i, cat_l]; done) | (simp [rt_cat, cat_i, cat_l]; decide)) dX8_rowIn_73 ?_
  refine rt_aload (pc := 75) (i := 6) (x := v12) 0 rfl dX8_rowIn_75 ?_
  refine rt_lload_n (pc := 77) (k0 := 1) (x := a1) 2 rfl dX8_rowIn_77 ?_
  obtain ⟨v17, w16, e15, hf⟩ := ob2_of hf
  have g18 := sX4_meets d (by omega) e15
  refine rt_callV (pc := 78) (As := [.long a1]) (st := []) me_X4_meets mi_X4_meets wl_X8_112 dX8_rowIn_78 rfl (by decide) rfl g18.1 g18.2 ?_
  by_cases c19 : v17 = 0
  · rw [if_pos c19] at hf
    refine rt_if_eq_p (pc := 81) (x := v17) (tgt := 103) (by decide) dX8_rowIn_81 c19 ?_
    exact rt_locals (rt_sub [1, 2, 3, 4] rfl) (rX8_rowIn_103 hkr hd hdk ih hf)
  rw [if_neg c19] at hf
  refine rt_if_eq_n (pc := 81) (x := v17) (tgt := 103) (by decide) dX8_rowIn_81 c19 ?_
  refine rt_aload (pc := 84) (i := 6) (x := v12) 0 rfl dX8_rowIn_84 ?_
  refine rt_aload (pc := 86) (i := 4) (x := a4) 3 rfl dX8_rowIn_86 ?_
  obtain ⟨v22, w21, e20, hf⟩ := ob2_of hf
  have g23 := sX4_changes d (by omega) e20
  refine rt_callV (pc := 88) (As := [va_rf a4]) (st := []) me_X4_changes mi_X4_changes wl_X8_146 dX8_rowIn_88 rfl (by decide) rfl g23.1 g23.2 ?_
  by_cases c24 : v22 = 0
  · rw [if_pos c24] at hf
    refine rt_if_eq_p (pc := 91) (x := v22) (tgt := 103) (by decide) dX8_rowIn_91 c24 ?_
    exact rt_locals (rt_sub [1, 2, 3, 4] rfl) (rX8_rowIn_103 hkr hd hdk ih hf)
  rw [if_neg c24] at hf
  refine rt_if_eq_n (pc := 91) (x := v22) (tgt := 103) (by decide) dX8_rowIn_91 c24 ?_
  refine rt_aload (pc := 94) (i := 6) (x := v12) 0 rfl dX8_rowIn_94 ?_
  refine rt_aload (pc := 96) (i := 4) (x := a4) 3 rfl dX8_rowIn_96 ?_
  obtain ⟨v27, w26, e25, hf⟩ := ob2_of hf
  have g28 := sX4_rowAfter d (by omega) e25
  refine rt_callV (pc := 98) (As := [va_rf a4]) (st := []) me_X4_rowAfter mi_X4_rowAfter wl_X8_150 dX8_rowIn_98 rfl (by decide) rfl g28.1 g28.2 ?_
  refine rt_astore (pc := 101) (i := 4) (x := v27) (l2 := [(4, va_rf v27), (6, va_rf v12), (0, va_rf a0), (1, .long a1), (5, .int a5)]) (by decide) (by first | rfl | (simp [rt_cat, cat_i, cat_l]; done) | (simp [rt_cat, cat_i, cat_l]; decide)) dX8_rowIn_101 ?_
  exact rt_locals (rt_sub [2, 3, 0, 4] rfl) (rX8_rowIn_103 hkr hd hdk ih hf)
noncomputable def bX8_rowIn_0 (E : ah_E) (kr : Option Nat → Int64 → Int32 → ah_H → Option (Option Nat × ah_H)) (a0 : Option Nat) (a1 : Int64) (a3 : Int32) (h : ah_H) : Option (Option Nat × ah_H) :=
  ob2 (fX5_isLeaf E a0 h) fun v3 w2 =>
  if v3 = 0 then
    if a3 < (40 : Int32) then
      (hp_gr w2 a0 6 2).bind fun v7 =>
      ob2 (fX5_kidFor E a0 a1 w2) fun v11 w10 =>
      ob2 (fJx4a65c_get_915e3 E v7 v11 w10) fun v15 w14 =>
      if hp_cls w14 v15 6 = false then none else
      ob2 (kr v15 a1 (a3 + (1 : Int32)) w14) fun v20 w19 =>
      bX8_rowIn_49 E kr zf a0 a1 v20 (0 : Int32) w19
    else
    bX8_rowIn_13 E kr a0 a1 w2
  else
  bX8_rowIn_13 E kr a0 a1 w2
set_option maxRecDepth 20000 in
set_option maxHeartbeats 4000000 in
theorem rX8_rowIn_0 {X : ah_X} {d : Nat} {dk : Nat} {kr : Option Nat → Int64 → Int32 → ah_H → Option (Option Nat × ah_H)} (hkr : ∀ (d : Nat), dk ≤ d → ∀ (x0 : Option Nat) (x1 : Int64) (x2 : Int32) (h : ah_H) (r : Option Nat) (h2 : ah_H), kr x0 x1 x2 h = some (r, h2) → Rn X yX8_rowIn cX8_rowIn 7 (some (.array .byte)) d [va_rf x0, .long x1, .int x2] h (some (va_rf r)) h2) (hd : 4 ≤ d) (hdk : dk + 0 ≤ d) {a0 : Option Nat} {a1 : Int64} {a3 : Int32} {h : ah_H} {r : Option Nat} {h2 : ah_H} (hf : bX8_rowIn_0 X.2.2.2 kr a0 a1 a3 h = some (r, h2)) : Rt X yX8_rowIn cX8_rowIn 7 (d + 1) 0 [(0, va_rf a0), (1, .long a1), (3, .int a3)] [] h (some (va_rf r)) h2 := by
  unfold bX8_rowIn_0 at hf
  refine rt_aload_n (pc := 0) (k0 := 0) (x := a0) 0 rfl dX8_rowIn_0 ?_
  obtain ⟨v3, w2, e1, hf⟩ := ob2_of hf
  have g4 := sX5_isLeaf d (by omega) e1
  refine rt_callV (pc := 1) (As := []) (st := []) me_X5_isLeaf mi_X5_isLeaf wl_X8_107 dX8_rowIn_1 rfl (by decide) rfl g4.1 g4.2 ?_
  by_cases c5 : v3 = 0
  · rw [if_pos c5] at hf
    refine rt_if_ne_p (pc := 4) (x := v3) (tgt := 13) (by decide) dX8_rowIn_4 c5 ?_
    refine rt_iload_n (pc := 7) (k0 := 3) (x := a3) 2 rfl dX8_rowIn_7 ?_
    refine rt_bipush (pc := 8) (n := 40) (v := (40 : Int32)) (by decide) dX8_rowIn_8 ?_
    by_cases c6 : a3 < (40 : Int32)
    · rw [if_pos c6] at hf
      refine rt_icmp_lt_p (pc := 10) (x := a3) (z := (40 : Int32)) (tgt := 22) (by decide) dX8_rowIn_10 c6 ?_
      refine rt_aload_n (pc := 22) (k0 := 0) (x := a0) 0 rfl dX8_rowIn_22 ?_
      obtain ⟨v7, e8, hf⟩ := ob1 hf
      refine rt_gr (pc := 23) fd_X8_53 dX8_rowIn_23 e8 ?_
      refine rt_aload_n (pc := 26) (k0 := 0) (x := a0) 0 rfl dX8_rowIn_26 ?_
      refine rt_lload_n (pc := 27) (k0 := 1) (x := a1) 1 rfl dX8_rowIn_27 ?_
      obtain ⟨v11, w10, e9, hf⟩ := ob2_of hf
      have g12 := sX5_kidFor d (by omega) e9
      refine rt_callV (pc := 28) (As := [.long a1]) (st := [va_rf v7]) me_X5_kidFor mi_X5_kidFor wl_X8_116 dX8_rowIn_28 rfl (by simp [rt_cat, cat_i, cat_l]) rfl g12.1 g12.2 ?_
      obtain ⟨v15, w14, e13, hf⟩ := ob2_of hf
      have g16 := sJx4a65c_get_915e3 d (by omega) e13
      refine rt_callV (pc := 31) (As := [.int v11]) (st := []) me_Jx4a65c_get_915e3 mi_Jx4a65c_get_915e3 wl_X8_56 dX8_rowIn_31 rfl (by decide) rfl g16.1 g16.2 ?_
      by_cases c17 : hp_cls w14 v15 6 = false
      · rw [if_pos c17] at hf; cases hf
      rw [if_neg c17] at hf
      refine rt_cast (pc := 34) (x := v15) (show vwCl[6]? = some (RX5, TX5, 5) from rfl) wc_X8_16 dX8_rowIn_34 ((Bool.not_eq_false _).mp c17) ?_
      refine rt_lload_n (pc := 37) (k0 := 1) (x := a1) 1 rfl dX8_rowIn_37 ?_
      refine rt_iload_n (pc := 38) (k0 := 3) (x := a3) 2 rfl dX8_rowIn_38 ?_
      refine rt_iconst (pc := 39) (n := 1) (v := (1 : Int32)) (by decide) dX8_rowIn_39 ?_
      refine rt_iadd (pc := 40) (x := a3) (z := (1 : Int32)) dX8_rowIn_40 ?_
      obtain ⟨v20, w19, e18, hf⟩ := ob2_of hf
      have g21 := hkr d (by omega) _ _ _ _ _ _ e18
      refine rt_callS (pc := 41) (As := [va_rf v15, .long a1, .int (a3 + (1 : Int32))]) (st := []) me_X8_rowIn ms_X8_rowIn wl_X8_142 dX8_rowIn_41 rfl (by decide) rfl g21 ?_
      refine rt_astore (pc := 44) (i := 4) (x := v20) (l2 := [(4, va_rf v20), (0, va_rf a0), (1, .long a1), (3, .int a3)]) (by decide) (by first | rfl | (simp [rt_cat, cat_i, cat_l]; done) | (simp [rt_cat, cat_i, cat_l]; decide)) dX8_rowIn_44 ?_
      refine rt_iconst (pc := 46) (n := 0) (v := (0 : Int32)) (by decide) dX8_rowIn_46 ?_
      refine rt_istore (pc := 47) (i := 5) (x := (0 : Int32)) (l2 := [(5, .int (0 : Int32)), (4, va_rf v20), (0, va_rf a0), (1, .long a1), (3, .int a3)]) (by decide) (by first | rfl | (simp [rt_cat, cat_i, cat_l]; done) | (simp [rt_cat, cat_i, cat_l]; decide)) dX8_rowIn_47 ?_
      exact rt_locals (rt_sub [2, 3, 1, 0] rfl) (rX8_rowIn_49 hkr hd hdk zf _ _ _ _ _ _ _ hf)
    rw [if_neg c6] at hf
    refine rt_icmp_lt_n (pc := 10) (x := a3) (z := (40 : Int32)) (tgt := 22) (by decide) dX8_rowIn_10 c6 ?_
    exact rt_locals (rt_sub [0, 1] rfl) (rX8_rowIn_13 hkr hd hdk hf)
  rw [if_neg c5] at hf
  refine rt_if_ne_n (pc := 4) (x := v3) (tgt := 13) (by decide) dX8_rowIn_4 c5 ?_
  exact rt_locals (rt_sub [0, 1] rfl) (rX8_rowIn_13 hkr hd hdk hf)
noncomputable def gX8_rowIn (E : ah_E) (kr : Option Nat → Int64 → Int32 → ah_H → Option (Option Nat × ah_H)) (a0 : Option Nat) (a1 : Int64) (a3 : Int32) (h : ah_H) : Option (Option Nat × ah_H) := bX8_rowIn_0 E kr a0 a1 a3 h
set_option maxRecDepth 20000 in
set_option maxHeartbeats 4000000 in
theorem tX8_rowIn {X : ah_X} {dk : Nat} {kr : Option Nat → Int64 → Int32 → ah_H → Option (Option Nat × ah_H)} (hkr : ∀ (d : Nat), dk ≤ d → ∀ (x0 : Option Nat) (x1 : Int64) (x2 : Int32) (h : ah_H) (r : Option Nat) (h2 : ah_H), kr x0 x1 x2 h = some (r, h2) → Rn X yX8_rowIn cX8_rowIn 7 (some (.array .byte)) d [va_rf x0, .long x1, .int x2] h (some (va_rf r)) h2) (d : Nat) (hdk : dk + 1 ≤ d) (hd : 5 ≤ d) {a0 : Option Nat} {a1 : Int64} {a3 : Int32} {h : ah_H} {r : Option Nat} {h2 : ah_H} (hf : gX8_rowIn X.2.2.2 kr a0 a1 a3 h = some (r, h2)) : Rn X yX8_rowIn cX8_rowIn 7 (some (.array .byte)) d [va_rf a0, .long a1, .int a3] h (some (va_rf r)) h2 := by
  unfold gX8_rowIn at hf
  obtain ⟨d, rfl⟩ : ∃ k, d = k + 1 := ⟨d - 1, by omega⟩
  exact Rn.of2 me_X8_rowIn (by simp [lg_sl, rt_cat, cat_i, cat_l]) (ok_a _ _) (l := [(0, va_rf a0), (1, .long a1), (3, .int a3)]) (by simp [lv_args, rt_cat, cat_i, cat_l]) (rX8_rowIn_0 hkr (by omega) (by omega) hf)
noncomputable def fX8_rowIn (E : ah_E) : Nat → Option Nat → Int64 → Int32 → ah_H → Option (Option Nat × ah_H)
  | 0 => fun _ _ _ _ => none
  | n + 1 => fun a0 a1 a3 h => gX8_rowIn E (fX8_rowIn E n) a0 a1 a3 h
set_option maxRecDepth 20000 in
set_option maxHeartbeats 4000000 in
theorem sX8_rowIn {X : ah_X} (n : Nat) : ∀ (d : Nat), 5 + 1 * n ≤ d → ∀ (a0 : Option Nat) (a1 : Int64) (a3 : Int32) (h : ah_H) (r : Option Nat) (h2 : ah_H), fX8_rowIn X.2.2.2 n a0 a1 a3 h = some (r, h2) → Rn X yX8_rowIn cX8_rowIn 7 (some (.array .byte)) d [va_rf a0, .long a1, .int a3] h (some (va_rf r)) h2 := by
  induction n with
  | zero => intro d hd a0 a1 a3 h r h2 hf; cases hf
  | succ n ih =>
    intro d hd a0 a1 a3 h r h2 hf
    exact tX8_rowIn (dk := 5 + 1 * n) ih d (by omega) (by omega) hf
noncomputable def bX8_lettersOnWay_96 (E : ah_E) (a3 : Int32) (h : ah_H) : Option (Int32 × ah_H) :=
  some (a3, h)
set_option maxRecDepth 20000 in
set_option maxHeartbeats 4000000 in
theorem rX8_lettersOnWay_96 {X : ah_X} {d : Nat} (hd : 3 ≤ d) {a3 : Int32} {h : ah_H} {r : Int32} {h2 : ah_H} (hf : bX8_lettersOnWay_96 X.2.2.2 a3 h = some (r, h2)) : Rt X yX8_lettersOnWay cX8_lettersOnWay 7 (d + 1) 96 [(3, .int a3)] [] h (some (.int r)) h2 := by
  unfold bX8_lettersOnWay_96 at hf
  refine rt_iload_n (pc := 96) (k0 := 3) (x := a3) 0 rfl dX8_lettersOnWay_96 ?_
  cases hf
  exact rt_ret (pc := 97) dX8_lettersOnWay_97 rfl
noncomputable def bX8_lettersOnWay_65 (E : ah_E) (k11 : Int64 → Int32 → Option Nat → Int32 → ah_H → Option (Int32 × ah_H)) (k29 : Int64 → Int32 → Option Nat → Int32 → Int32 → ah_H → Option (Int32 × ah_H)) (a1 : Int64) (a3 : Int32) (a4 : Option Nat) (a5 : Int32) (a6 : Int32) (h : ah_H) : Option (Int32 × ah_H) :=
  k29 a1 a3 a4 a5 (a6 + 1) h
set_option maxRecDepth 20000 in
set_option maxHeartbeats 4000000 in
theorem rX8_lettersOnWay_65 {X : ah_X} {d : Nat} (hd : 3 ≤ d) {k11 : Int64 → Int32 → Option Nat → Int32 → ah_H → Option (Int32 × ah_H)} (hk11 : ∀ (x0 : Int64) (x1 : Int32) (x2 : Option Nat) (x3 : Int32) (h : ah_H) (r : Int32) (h2 : ah_H), k11 x0 x1 x2 x3 h = some (r, h2) → Rt X yX8_lettersOnWay cX8_lettersOnWay 7 (d + 1) 11 [(1, .long x0), (3, .int x1), (4, va_rf x2), (5, .int x3)] [] h (some (.int r)) h2) {k29 : Int64 → Int32 → Option Nat → Int32 → Int32 → ah_H → Option (Int32 × ah_H)} (hk29 : ∀ (x0 : Int64) (x1 : Int32) (x2 : Option Nat) (x3 : Int32) (x4 : Int32) (h : ah_H) (r : Int32) (h2 : ah_H), k29 x0 x1 x2 x3 x4 h = some (r, h2) → Rt X yX8_lettersOnWay cX8_lettersOnWay 7 (d + 1) 29 [(1, .long x0), (3, .int x1), (4, va_rf x2), (5, .int x3), (6, .int x4)] [] h (some (.int r)) h2) {a1 : Int64} {a3 : Int32} {a4 : Option Nat} {a5 : Int32} {a6 : Int32} {h : ah_H} {r : Int32} {h2 : ah_H} (hf : bX8_lettersOnWay_65 X.2.2.2 k11 k29 a1 a3 a4 a5 a6 h = some (r, h2)) : Rt X yX8_lettersOnWay cX8_lettersOnWay 7 (d + 1) 65 [(1, .long a1), (3, .int a3), (4, va_rf a4), (5, .int a5), (6, .int a6)] [] h (some (.int r)) h2 := by
  unfold bX8_lettersOnWay_65 at hf
  refine rt_iinc (pc := 65) (i := 6) (n := 1) (x := a6) (v := (a6 + 1)) (l2 := [(6, .int (a6 + 1)), (1, .long a1), (3, .int a3), (4, va_rf a4), (5, .int a5)]) 4 rfl rfl (by decide) (by first | rfl | (simp [rt_cat, cat_i, cat_l]; done) | (simp [rt_cat, cat_i, cat_l]; decide)) dX8_lettersOnWay_65 ?_
  refine rt_goto (pc := 68) (tgt := 29) (by decide) dX8_lettersOnWay_68 ?_
  exact rt_locals (rt_sub [1, 2, 3, 4, 0] rfl) (hk29 _ _ _ _ _ _ _ _ hf)
noncomputable def bX8_lettersOnWay_29 (E : ah_E) (k11 : Int64 → Int32 → Option Nat → Int32 → ah_H → Option (Int32 × ah_H)) : Nat → Int64 → Int32 → Option Nat → Int32 → Int32 → ah_H → Option (Int32 × ah_H)
  | 0 => fun _ _ _ _ _ _ => none
  | n + 1 => fun a1 a3 a4 a5 a6 h =>
  (hp_gr h a4 6 3).bind fun v1 =>
  ob2 (fJx4a65c_size_8abf5 E v1 h) fun v5 w4 =>
  if v5 ≤ a6 then
    (hp_gr w4 a4 6 2).bind fun v8 =>
    ob2 (fX5_kidFor E a4 a1 w4) fun v12 w11 =>
    ob2 (fJx4a65c_get_915e3 E v8 v12 w11) fun v16 w15 =>
    if hp_cls w15 v16 6 = false then none else
    k11 a1 a3 v16 (a5 + 1) w15
  else
  (hp_gr w4 a4 6 3).bind fun v19 =>
  ob2 (fJx4a65c_get_915e3 E v19 a6 w4) fun v23 w22 =>
  if hp_cls w22 v23 5 = false then none else
  ob2 (fX4_meets E v23 a1 w22) fun v28 w27 =>
  if v28 = 0 then
    bX8_lettersOnWay_65 E k11 (bX8_lettersOnWay_29 E k11 n) a1 a3 a4 a5 a6 w27
  else
  bX8_lettersOnWay_65 E k11 (bX8_lettersOnWay_29 E k11 n) a1 (a3 + 1) a4 a5 a6 w27
set_option maxRecDepth 20000 in
set_option maxHeartbeats 4000000 in
theorem rX8_lettersOnWay_29 {X : ah_X} {d : Nat} (hd : 3 ≤ d) {k11 : Int64 → Int32 → Option Nat → Int32 → ah_H → Option (Int32 × ah_H)} (hk11 : ∀ (x0 : Int64) (x1 : Int32) (x2 : Option Nat) (x3 : Int32) (h : ah_H) (r : Int32) (h2 : ah_H), k11 x0 x1 x2 x3 h = some (r, h2) → Rt X yX8_lettersOnWay cX8_lettersOnWay 7 (d + 1) 11 [(1, .long x0), (3, .int x1), (4, va_rf x2), (5, .int x3)] [] h (some (.int r)) h2) (n : Nat) : ∀ (a1 : Int64) (a3 : Int32) (a4 : Option Nat) (a5 : Int32) (a6 : Int32) (h : ah_H) (r : Int32) (h2 : ah_H), bX8_lettersOnWay_29 X.2.2.2 k11 n a1 a3 a4 a5 a6 h = some (r, h2) → Rt X yX8_lettersOnWay cX8_lettersOnWay 7 (d + 1) 29 [(1, .long a1), (3, .int a3), (4, va_rf a4), (5, .int a5), (6, .int a6)] [] h (some (.int r)) h2 := by
  induction n with
  | zero => intro a1 a3 a4 a5 a6 h r h2 hf; cases hf
  | succ n ih =>
  intro a1 a3 a4 a5 a6 h r h2 hf
  unfold bX8_lettersOnWay_29 at hf
  refine rt_iload (pc := 29) (i := 6) (x := a6) 4 rfl dX8_lettersOnWay_29 ?_
  refine rt_aload (pc := 31) (i := 4) (x := a4) 2 rfl dX8_lettersOnWay_31 ?_
  obtain ⟨v1, e2, hf⟩ := ob1 hf
  refine rt_gr (pc := 33) fd_X8_15 dX8_lettersOnWay_33 e2 ?_
  obtain ⟨v5, w4, e3, hf⟩ := ob2_of hf
  have g6 := sJx4a65c_size_8abf5 d (by omega) e3
  refine rt_callV (pc := 36) (As := []) (st := [.int a6]) me_Jx4a65c_size_8abf5 mi_Jx4a65c_size_8abf5 wl_X8_46 dX8_lettersOnWay_36 rfl (by simp [rt_cat, cat_i, cat_l]) rfl g6.1 g6.2 ?_
  by_cases c7 : v5 ≤ a6
  · rw [if_pos c7] at hf
    refine rt_icmp_ge_p (pc := 39) (x := a6) (z := v5) (tgt := 71) (by decide) dX8_lettersOnWay_39 c7 ?_
    refine rt_aload (pc := 71) (i := 4) (x := a4) 2 rfl dX8_lettersOnWay_71 ?_
    obtain ⟨v8, e9, hf⟩ := ob1 hf
    refine rt_gr (pc := 73) fd_X8_53 dX8_lettersOnWay_73 e9 ?_
    refine rt_aload (pc := 76) (i := 4) (x := a4) 2 rfl dX8_lettersOnWay_76 ?_
    refine rt_lload_n (pc := 78) (k0 := 1) (x := a1) 0 rfl dX8_lettersOnWay_78 ?_
    obtain ⟨v12, w11, e10, hf⟩ := ob2_of hf
    have g13 := sX5_kidFor d (by omega) e10
    refine rt_callV (pc := 79) (As := [.long a1]) (st := [va_rf v8]) me_X5_kidFor mi_X5_kidFor wl_X8_116 dX8_lettersOnWay_79 rfl (by simp [rt_cat, cat_i, cat_l]) rfl g13.1 g13.2 ?_
    obtain ⟨v16, w15, e14, hf⟩ := ob2_of hf
    have g17 := sJx4a65c_get_915e3 d (by omega) e14
    refine rt_callV (pc := 82) (As := [.int v12]) (st := []) me_Jx4a65c_get_915e3 mi_Jx4a65c_get_915e3 wl_X8_56 dX8_lettersOnWay_82 rfl (by decide) rfl g17.1 g17.2 ?_
    by_cases c18 : hp_cls w15 v16 6 = false
    · rw [if_pos c18] at hf; cases hf
    rw [if_neg c18] at hf
    refine rt_cast (pc := 85) (x := v16) (show vwCl[6]? = some (RX5, TX5, 5) from rfl) wc_X8_16 dX8_lettersOnWay_85 ((Bool.not_eq_false _).mp c18) ?_
    refine rt_astore (pc := 88) (i := 4) (x := v16) (l2 := [(4, va_rf v16), (1, .long a1), (3, .int a3), (5, .int a5), (6, .int a6)]) (by decide) (by first | rfl | (simp [rt_cat, cat_i, cat_l]; done) | (simp [rt_cat, cat_i, cat_l]; decide)) dX8_lettersOnWay_88 ?_
    refine rt_iinc (pc := 90) (i := 5) (n := 1) (x := a5) (v := (a5 + 1)) (l2 := [(5, .int (a5 + 1)), (4, va_rf v16), (1, .long a1), (3, .int a3), (6, .int a6)]) 3 rfl rfl (by decide) (by first | rfl | (simp [rt_cat, cat_i, cat_l]; done) | (simp [rt_cat, cat_i, cat_l]; decide)) dX8_lettersOnWay_90 ?_
    refine rt_goto (pc := 93) (tgt := 11) (by decide) dX8_lettersOnWay_93 ?_
    exact rt_locals (rt_sub [2, 3, 1, 0] rfl) (hk11 _ _ _ _ _ _ _ hf)
  rw [if_neg c7] at hf
  refine rt_icmp_ge_n (pc := 39) (x := a6) (z := v5) (tgt := 71) (by decide) dX8_lettersOnWay_39 c7 ?_
  refine rt_aload (pc := 42) (i := 4) (x := a4) 2 rfl dX8_lettersOnWay_42 ?_
  obtain ⟨v19, e20, hf⟩ := ob1 hf
  refine rt_gr (pc := 44) fd_X8_15 dX8_lettersOnWay_44 e20 ?_
  refine rt_iload (pc := 47) (i := 6) (x := a6) 4 rfl dX8_lettersOnWay_47 ?_
  obtain ⟨v23, w22, e21, hf⟩ := ob2_of hf
  have g24 := sJx4a65c_get_915e3 d (by omega) e21
  refine rt_callV (pc := 49) (As := [.int a6]) (st := []) me_Jx4a65c_get_915e3 mi_Jx4a65c_get_915e3 wl_X8_56 dX8_lettersOnWay_49 rfl (by decide) rfl g24.1 g24.2 ?_
  by_cases c25 : hp_cls w22 v23 5 = false
  · rw [if_pos c25] at hf; cases hf
  rw [if_neg c25] at hf
  refine rt_cast (pc := 52) (x := v23) (show vwCl[5]? = some (RX4, TX4, 6) from rfl) wc_X8_110 dX8_lettersOnWay_52 ((Bool.not_eq_false _).mp c25) ?_
  refine rt_lload_n (pc := 55) (k0 := 1) (x := a1) 0 rfl dX8_lettersOnWay_55 ?_
  obtain ⟨v28, w27, e26, hf⟩ := ob2_of hf
  have g29 := sX4_meets d (by omega) e26
  refine rt_callV (pc := 56) (As := [.long a1]) (st := []) me_X4_meets mi_X4_meets wl_X8_112 dX8_lettersOnWay_56 rfl (by decide) rfl g29.1 g29.2 ?_
  by_cases c30 : v28 = 0
  · rw [if_pos c30] at hf
    refine rt_if_eq_p (pc := 59) (x := v28) (tgt := 65) (by decide) dX8_lettersOnWay_59 c30 ?_
    exact rX8_lettersOnWay_65 hd hk11 ih hf
  rw [if_neg c30] at hf
  refine rt_if_eq_n (pc := 59) (x := v28) (tgt := 65) (by decide) dX8_lettersOnWay_59 c30 ?_
  refine rt_iinc (pc := 62) (i := 3) (n := 1) (x := a3) (v := (a3 + 1)) (l2 := [(3, .int (a3 + 1)), (1, .long a1), (4, va_rf a4), (5, .int a5), (6, .int a6)]) 1 rfl rfl (by decide) (by first | rfl | (simp [rt_cat, cat_i, cat_l]; done) | (simp [rt_cat, cat_i, cat_l]; decide)) dX8_lettersOnWay_62 ?_
  exact rt_locals (rt_sub [1, 0, 2, 3, 4] rfl) (rX8_lettersOnWay_65 hd hk11 ih hf)
noncomputable def bX8_lettersOnWay_11 (E : ah_E) : Nat → Int64 → Int32 → Option Nat → Int32 → ah_H → Option (Int32 × ah_H)
  | 0 => fun _ _ _ _ _ => none
  | n + 1 => fun a1 a3 a4 a5 h =>
  if (40 : Int32) ≤ a5 then
    bX8_lettersOnWay_96 E a3 h
  else
  ob2 (fX5_isLeaf E a4 h) fun v4 w3 =>
  if v4 = 0 then
    bX8_lettersOnWay_29 E (bX8_lettersOnWay_11 E n) zf a1 a3 a4 a5 (0 : Int32) w3
  else
  bX8_lettersOnWay_96 E a3 w3
set_option maxRecDepth 20000 in
set_option maxHeartbeats 4000000 in
theorem rX8_lettersOnWay_11 {X : ah_X} {d : Nat} (hd : 3 ≤ d) (n : Nat) : ∀ (a1 : Int64) (a3 : Int32) (a4 : Option Nat) (a5 : Int32) (h : ah_H) (r : Int32) (h2 : ah_H), bX8_lettersOnWay_11 X.2.2.2 n a1 a3 a4 a5 h = some (r, h2) → Rt X yX8_lettersOnWay cX8_lettersOnWay 7 (d + 1) 11 [(1, .long a1), (3, .int a3), (4, va_rf a4), (5, .int a5)] [] h (some (.int r)) h2 := by
  induction n with
  | zero => intro a1 a3 a4 a5 h r h2 hf; cases hf
  | succ n ih =>
  intro a1 a3 a4 a5 h r h2 hf
  unfold bX8_lettersOnWay_11 at hf
  refine rt_iload (pc := 11) (i := 5) (x := a5) 3 rfl dX8_lettersOnWay_11 ?_
  refine rt_bipush (pc := 13) (n := 40) (v := (40 : Int32)) (by decide) dX8_lettersOnWay_13 ?_
  by_cases c1 : (40 : Int32) ≤ a5
  · rw [if_pos c1] at hf
    refine rt_icmp_ge_p (pc := 15) (x := a5) (z := (40 : Int32)) (tgt := 96) (by decide) dX8_lettersOnWay_15 c1 ?_
    exact rt_locals (rt_sub [1] rfl) (rX8_lettersOnWay_96 hd hf)
  rw [if_neg c1] at hf
  refine rt_icmp_ge_n (pc := 15) (x := a5) (z := (40 : Int32)) (tgt := 96) (by decide) dX8_lettersOnWay_15 c1 ?_
  refine rt_aload (pc := 18) (i := 4) (x := a4) 2 rfl dX8_lettersOnWay_18 ?_
  obtain ⟨v4, w3, e2, hf⟩ := ob2_of hf
  have g5 := sX5_isLeaf d (by omega) e2
  refine rt_callV (pc := 20) (As := []) (st := []) me_X5_isLeaf mi_X5_isLeaf wl_X8_107 dX8_lettersOnWay_20 rfl (by decide) rfl g5.1 g5.2 ?_
  by_cases c6 : v4 = 0
  · rw [if_pos c6] at hf
    refine rt_if_ne_p (pc := 23) (x := v4) (tgt := 96) (by decide) dX8_lettersOnWay_23 c6 ?_
    refine rt_iconst (pc := 26) (n := 0) (v := (0 : Int32)) (by decide) dX8_lettersOnWay_26 ?_
    refine rt_istore (pc := 27) (i := 6) (x := (0 : Int32)) (l2 := [(6, .int (0 : Int32)), (1, .long a1), (3, .int a3), (4, va_rf a4), (5, .int a5)]) (by decide) (by first | rfl | (simp [rt_cat, cat_i, cat_l]; done) | (simp [rt_cat, cat_i, cat_l]; decide)) dX8_lettersOnWay_27 ?_
    exact rt_locals (rt_sub [1, 2, 3, 4, 0] rfl) (rX8_lettersOnWay_29 hd ih zf _ _ _ _ _ _ _ _ hf)
  rw [if_neg c6] at hf
  refine rt_if_ne_n (pc := 23) (x := v4) (tgt := 96) (by decide) dX8_lettersOnWay_23 c6 ?_
  exact rt_locals (rt_sub [1] rfl) (rX8_lettersOnWay_96 hd hf)
noncomputable def bX8_lettersOnWay_0 (E : ah_E) (a0 : Option Nat) (a1 : Int64) (h : ah_H) : Option (Int32 × ah_H) :=
  (hp_gr h a0 9 0).bind fun v1 =>
  bX8_lettersOnWay_11 E zf a1 (0 : Int32) v1 (0 : Int32) h
set_option maxRecDepth 20000 in
set_option maxHeartbeats 4000000 in
theorem rX8_lettersOnWay_0 {X : ah_X} {d : Nat} (hd : 3 ≤ d) {a0 : Option Nat} {a1 : Int64} {h : ah_H} {r : Int32} {h2 : ah_H} (hf : bX8_lettersOnWay_0 X.2.2.2 a0 a1 h = some (r, h2)) : Rt X yX8_lettersOnWay cX8_lettersOnWay 7 (d + 1) 0 [(0, va_rf a0), (1, .long a1)] [] h (some (.int r)) h2 := by
  unfold bX8_lettersOnWay_0 at hf
  refine rt_iconst (pc := 0) (n := 0) (v := (0 : Int32)) (by decide) dX8_lettersOnWay_0 ?_
  refine rt_istore_n (pc := 1) (k0 := 3) (x := (0 : Int32)) (l2 := [(3, .int (0 : Int32)), (0, va_rf a0), (1, .long a1)]) (by decide) (by first | rfl | (simp [rt_cat, cat_i, cat_l]; done) | (simp [rt_cat, cat_i, cat_l]; decide)) dX8_lettersOnWay_1 ?_
  refine rt_aload_n (pc := 2) (k0 := 0) (x := a0) 1 rfl dX8_lettersOnWay_2 ?_
  obtain ⟨v1, e2, hf⟩ := ob1 hf
  refine rt_gr (pc := 3) fd_X8_9 dX8_lettersOnWay_3 e2 ?_
  refine rt_astore (pc := 6) (i := 4) (x := v1) (l2 := [(4, va_rf v1), (3, .int (0 : Int32)), (0, va_rf a0), (1, .long a1)]) (by decide) (by first | rfl | (simp [rt_cat, cat_i, cat_l]; done) | (simp [rt_cat, cat_i, cat_l]; decide)) dX8_lettersOnWay_6 ?_
  refine rt_iconst (pc := 8) (n := 0) (v := (0 : Int32)) (by decide) dX8_lettersOnWay_8 ?_
  refine rt_istore (pc := 9) (i := 5) (x := (0 : Int32)) (l2 := [(5, .int (0 : Int32)), (4, va_rf v1), (3, .int (0 : Int32)), (0, va_rf a0), (1, .long a1)]) (by decide) (by first | rfl | (simp [rt_cat, cat_i, cat_l]; done) | (simp [rt_cat, cat_i, cat_l]; decide)) dX8_lettersOnWay_9 ?_
  exact rt_locals (rt_sub [4, 2, 1, 0] rfl) (rX8_lettersOnWay_11 hd zf _ _ _ _ _ _ _ hf)
noncomputable def fX8_lettersOnWay (E : ah_E) (a0 : Option Nat) (a1 : Int64) (h : ah_H) : Option (Int32 × ah_H) := if hp_rcv h a0 9 = false then none else bX8_lettersOnWay_0 E a0 a1 h
set_option maxRecDepth 20000 in
set_option maxHeartbeats 4000000 in
theorem sX8_lettersOnWay {X : ah_X} (d : Nat) (hd : 4 ≤ d) {a0 : Option Nat} {a1 : Int64} {h : ah_H} {r : Int32} {h2 : ah_H} (hf : fX8_lettersOnWay X.2.2.2 a0 a1 h = some (r, h2)) : hp_rcv h a0 9 = true ∧ Rn X yX8_lettersOnWay cX8_lettersOnWay 7 (some .int) d [va_rf a0, .long a1] h (some (.int r)) h2 := by
  unfold fX8_lettersOnWay at hf
  by_cases c0 : hp_rcv h a0 9 = false
  · rw [if_pos c0] at hf; cases hf
  rw [if_neg c0] at hf
  refine ⟨(Bool.not_eq_false _).mp c0, ?_⟩
  obtain ⟨d, rfl⟩ : ∃ k, d = k + 1 := ⟨d - 1, by omega⟩
  exact Rn.of2 me_X8_lettersOnWay (by simp [lg_sl, rt_cat, cat_i, cat_l]) (ok_i _) (l := [(0, va_rf a0), (1, .long a1)]) (by simp [lv_args, rt_cat, cat_i, cat_l]) (rX8_lettersOnWay_0 (by omega) hf)
noncomputable def bX6_init_0 (E : ah_E) (a0 : Option Nat) (a1 : Int32) (a2 : Option Nat) (h : ah_H) : Option ah_H :=
  if hp_rcv h a0 7 = false then none else
  (hp_pv h a0 7 0 (.int a1)).bind fun w3 =>
  (hp_pv w3 a0 7 1 (va_rf a2)).bind fun w5 =>
  some w5
set_option maxRecDepth 20000 in
set_option maxHeartbeats 4000000 in
theorem rX6_init_0 {X : ah_X} {d : Nat} (hd : 0 ≤ d) {a0 : Option Nat} {a1 : Int32} {a2 : Option Nat} {h : ah_H} {h2 : ah_H} (hf : bX6_init_0 X.2.2.2 a0 a1 a2 h = some h2) : Rt X yX6_init cX6_init 3 (d + 1) 0 [(0, va_rf a0), (1, .int a1), (2, va_rf a2)] [] h none h2 := by
  unfold bX6_init_0 at hf
  refine rt_aload_n (pc := 0) (k0 := 0) (x := a0) 0 rfl dX6_init_0 ?_
  by_cases c1 : hp_rcv h a0 7 = false
  · rw [if_pos c1] at hf; cases hf
  rw [if_neg c1] at hf
  refine rt_objInit (pc := 1) wl_X6_1 (by decide) dX6_init_1 (by obtain ⟨q, _, q2, _⟩ := hp_rcv_spec ((Bool.not_eq_false _).mp c1); exact ⟨q, q2⟩) ?_
  refine rt_aload_n (pc := 4) (k0 := 0) (x := a0) 0 rfl dX6_init_4 ?_
  refine rt_iload_n (pc := 5) (k0 := 1) (x := a1) 1 rfl dX6_init_5 ?_
  obtain ⟨w3, e4, hf⟩ := ob1 hf
  refine rt_putf (pc := 6) (x := a0) fw_X6_7 (Or.inr rfl) (pf_i _).1 (pf_i _).2 dX6_init_6 e4 ?_
  refine rt_aload_n (pc := 9) (k0 := 0) (x := a0) 0 rfl dX6_init_9 ?_
  refine rt_aload_n (pc := 10) (k0 := 2) (x := a2) 2 rfl dX6_init_10 ?_
  obtain ⟨w5, e6, hf⟩ := ob1 hf
  refine rt_putf (pc := 11) (x := a0) fw_X6_13 (Or.inr rfl) (pf_o _ _).1 (pf_o _ _).2 dX6_init_11 e6 ?_
  cases hf
  exact rt_ret (pc := 14) dX6_init_14 rfl
noncomputable def fX6_init (E : ah_E) (a0 : Option Nat) (a1 : Int32) (a2 : Option Nat) (h : ah_H) : Option ah_H := if hp_rcv h a0 7 = false then none else bX6_init_0 E a0 a1 a2 h
set_option maxRecDepth 20000 in
set_option maxHeartbeats 4000000 in
theorem sX6_init {X : ah_X} (d : Nat) (hd : 1 ≤ d) {a0 : Option Nat} {a1 : Int32} {a2 : Option Nat} {h : ah_H} {h2 : ah_H} (hf : fX6_init X.2.2.2 a0 a1 a2 h = some h2) : hp_rcv h a0 7 = true ∧ Rn X yX6_init cX6_init 3 none d [va_rf a0, .int a1, va_rf a2] h none h2 := by
  unfold fX6_init at hf
  by_cases c0 : hp_rcv h a0 7 = false
  · rw [if_pos c0] at hf; cases hf
  rw [if_neg c0] at hf
  refine ⟨(Bool.not_eq_false _).mp c0, ?_⟩
  obtain ⟨d, rfl⟩ : ∃ k, d = k + 1 := ⟨d - 1, by omega⟩
  exact Rn.of2 me_X6_init (by simp [lg_sl, rt_cat, cat_i, cat_l]) rfl (l := [(0, va_rf a0), (1, .int a1), (2, va_rf a2)]) (by simp [lv_args, rt_cat, cat_i, cat_l]) (rX6_init_0 (by omega) hf)
noncomputable def bX8_changedIn_57 (E : ah_E) (kr : Option Nat → Int32 → ah_H → Option (Int32 × ah_H)) (a2 : Int32) (h : ah_H) : Option (Int32 × ah_H) :=
  some (a2, h)
set_option maxRecDepth 20000 in
set_option maxHeartbeats 4000000 in
theorem rX8_changedIn_57 {X : ah_X} {d : Nat} {dk : Nat} {kr : Option Nat → Int32 → ah_H → Option (Int32 × ah_H)} (hkr : ∀ (d : Nat), dk ≤ d → ∀ (x0 : Option Nat) (x1 : Int32) (h : ah_H) (r : Int32) (h2 : ah_H), kr x0 x1 h = some (r, h2) → Rn X yX8_changedIn cX8_changedIn 4 (some .int) d [va_rf x0, .int x1] h (some (.int r)) h2) (hd : 2 ≤ d) (hdk : dk + 0 ≤ d) {a2 : Int32} {h : ah_H} {r : Int32} {h2 : ah_H} (hf : bX8_changedIn_57 X.2.2.2 kr a2 h = some (r, h2)) : Rt X yX8_changedIn cX8_changedIn 4 (d + 1) 57 [(2, .int a2)] [] h (some (.int r)) h2 := by
  unfold bX8_changedIn_57 at hf
  refine rt_iload_n (pc := 57) (k0 := 2) (x := a2) 0 rfl dX8_changedIn_57 ?_
  cases hf
  exact rt_ret (pc := 58) dX8_changedIn_58 rfl
noncomputable def bX8_changedIn_14 (E : ah_E) (kr : Option Nat → Int32 → ah_H → Option (Int32 × ah_H)) : Nat → Option Nat → Int32 → Int32 → Int32 → ah_H → Option (Int32 × ah_H)
  | 0 => fun _ _ _ _ _ => none
  | n + 1 => fun a0 a1 a2 a3 h =>
  (hp_gr h a0 6 2).bind fun v1 =>
  ob2 (fJx4a65c_size_8abf5 E v1 h) fun v5 w4 =>
  if v5 ≤ a3 then
    bX8_changedIn_57 E kr a2 w4
  else
  if (40 : Int32) ≤ a1 then
    bX8_changedIn_57 E kr a2 w4
  else
  (hp_gr w4 a0 6 2).bind fun v9 =>
  ob2 (fJx4a65c_get_915e3 E v9 a3 w4) fun v13 w12 =>
  if hp_cls w12 v13 6 = false then none else
  ob2 (kr v13 (a1 + (1 : Int32)) w12) fun v18 w17 =>
  bX8_changedIn_14 E kr n a0 a1 (a2 + v18) (a3 + 1) w17
set_option maxRecDepth 20000 in
set_option maxHeartbeats 4000000 in
theorem rX8_changedIn_14 {X : ah_X} {d : Nat} {dk : Nat} {kr : Option Nat → Int32 → ah_H → Option (Int32 × ah_H)} (hkr : ∀ (d : Nat), dk ≤ d → ∀ (x0 : Option Nat) (x1 : Int32) (h : ah_H) (r : Int32) (h2 : ah_H), kr x0 x1 h = some (r, h2) → Rn X yX8_changedIn cX8_changedIn 4 (some .int) d [va_rf x0, .int x1] h (some (.int r)) h2) (hd : 2 ≤ d) (hdk : dk + 0 ≤ d) (n : Nat) : ∀ (a0 : Option Nat) (a1 : Int32) (a2 : Int32) (a3 : Int32) (h : ah_H) (r : Int32) (h2 : ah_H), bX8_changedIn_14 X.2.2.2 kr n a0 a1 a2 a3 h = some (r, h2) → Rt X yX8_changedIn cX8_changedIn 4 (d + 1) 14 [(0, va_rf a0), (1, .int a1), (2, .int a2), (3, .int a3)] [] h (some (.int r)) h2 := by
  induction n with
  | zero => intro a0 a1 a2 a3 h r h2 hf; cases hf
  | succ n ih =>
  intro a0 a1 a2 a3 h r h2 hf
  unfold bX8_changedIn_14 at hf
  refine rt_iload_n (pc := 14) (k0 := 3) (x := a3) 3 rfl dX8_changedIn_14 ?_
  refine rt_aload_n (pc := 15) (k0 := 0) (x := a0) 0 rfl dX8_changedIn_15 ?_
  obtain ⟨v1, e2, hf⟩ := ob1 hf
  refine rt_gr (pc := 16) fd_X8_53 dX8_changedIn_16 e2 ?_
  obtain ⟨v5, w4, e3, hf⟩ := ob2_of hf
  have g6 := sJx4a65c_size_8abf5 d (by omega) e3
  refine rt_callV (pc := 19) (As := []) (st := [.int a3]) me_Jx4a65c_size_8abf5 mi_Jx4a65c_size_8abf5 wl_X8_46 dX8_changedIn_19 rfl (by simp [rt_cat, cat_i, cat_l]) rfl g6.1 g6.2 ?_
  by_cases c7 : v5 ≤ a3
  · rw [if_pos c7] at hf
    refine rt_icmp_ge_p (pc := 22) (x := a3) (z := v5) (tgt := 57) (by decide) dX8_changedIn_22 c7 ?_
    exact rt_locals (rt_sub [2] rfl) (rX8_changedIn_57 hkr hd hdk hf)
  rw [if_neg c7] at hf
  refine rt_icmp_ge_n (pc := 22) (x := a3) (z := v5) (tgt := 57) (by decide) dX8_changedIn_22 c7 ?_
  refine rt_iload_n (pc := 25) (k0 := 1) (x := a1) 1 rfl dX8_changedIn_25 ?_
  refine rt_bipush (pc := 26) (n := 40) (v := (40 : Int32)) (by decide) dX8_changedIn_26 ?_
  by_cases c8 : (40 : Int32) ≤ a1
  · rw [if_pos c8] at hf
    refine rt_icmp_ge_p (pc := 28) (x := a1) (z := (40 : Int32)) (tgt := 57) (by decide) dX8_changedIn_28 c8 ?_
    exact rt_locals (rt_sub [2] rfl) (rX8_changedIn_57 hkr hd hdk hf)
  rw [if_neg c8] at hf
  refine rt_icmp_ge_n (pc := 28) (x := a1) (z := (40 : Int32)) (tgt := 57) (by decide) dX8_changedIn_28 c8 ?_
  refine rt_iload_n (pc := 31) (k0 := 2) (x := a2) 2 rfl dX8_changedIn_31 ?_
  refine rt_aload_n (pc := 32) (k0 := 0) (x := a0) 0 rfl dX8_changedIn_32 ?_
  obtain ⟨v9, e10, hf⟩ := ob1 hf
  refine rt_gr (pc := 33) fd_X8_53 dX8_changedIn_33 e10 ?_
  refine rt_iload_n (pc := 36) (k0 := 3) (x := a3) 3 rfl dX8_changedIn_36 ?_
  obtain ⟨v13, w12, e11, hf⟩ := ob2_of hf
  have g14 := sJx4a65c_get_915e3 d (by omega) e11
  refine rt_callV (pc := 37) (As := [.int a3]) (st := [.int a2]) me_Jx4a65c_get_915e3 mi_Jx4a65c_get_915e3 wl_X8_56 dX8_changedIn_37 rfl (by simp [rt_cat, cat_i, cat_l]) rfl g14.1 g14.2 ?_
  by_cases c15 : hp_cls w12 v13 6 = false
  · rw [if_pos c15] at hf; cases hf
  rw [if_neg c15] at hf
  refine rt_cast (pc := 40) (x := v13) (show vwCl[6]? = some (RX5, TX5, 5) from rfl) wc_X8_16 dX8_changedIn_40 ((Bool.not_eq_false _).mp c15) ?_
  refine rt_iload_n (pc := 43) (k0 := 1) (x := a1) 1 rfl dX8_changedIn_43 ?_
  refine rt_iconst (pc := 44) (n := 1) (v := (1 : Int32)) (by decide) dX8_changedIn_44 ?_
  refine rt_iadd (pc := 45) (x := a1) (z := (1 : Int32)) dX8_changedIn_45 ?_
  obtain ⟨v18, w17, e16, hf⟩ := ob2_of hf
  have g19 := hkr d (by omega) _ _ _ _ _ e16
  refine rt_callS (pc := 46) (As := [va_rf v13, .int (a1 + (1 : Int32))]) (st := [.int a2]) me_X8_changedIn ms_X8_changedIn wl_X8_127 dX8_changedIn_46 rfl (by simp [rt_cat, cat_i, cat_l]) rfl g19 ?_
  refine rt_iadd (pc := 49) (x := a2) (z := v18) dX8_changedIn_49 ?_
  refine rt_istore_n (pc := 50) (k0 := 2) (x := (a2 + v18)) (l2 := [(2, .int (a2 + v18)), (0, va_rf a0), (1, .int a1), (3, .int a3)]) (by decide) (by first | rfl | (simp [rt_cat, cat_i, cat_l]; done) | (simp [rt_cat, cat_i, cat_l]; decide)) dX8_changedIn_50 ?_
  refine rt_iinc (pc := 51) (i := 3) (n := 1) (x := a3) (v := (a3 + 1)) (l2 := [(3, .int (a3 + 1)), (2, .int (a2 + v18)), (0, va_rf a0), (1, .int a1)]) 3 rfl rfl (by decide) (by first | rfl | (simp [rt_cat, cat_i, cat_l]; done) | (simp [rt_cat, cat_i, cat_l]; decide)) dX8_changedIn_51 ?_
  refine rt_goto (pc := 54) (tgt := 14) (by decide) dX8_changedIn_54 ?_
  exact rt_locals (rt_sub [2, 3, 1, 0] rfl) (ih _ _ _ _ _ _ _ hf)
noncomputable def bX8_changedIn_0 (E : ah_E) (kr : Option Nat → Int32 → ah_H → Option (Int32 × ah_H)) (a0 : Option Nat) (a1 : Int32) (h : ah_H) : Option (Int32 × ah_H) :=
  (hp_gi h a0 6 4).bind fun v1 =>
  if v1 = (-1 : Int32) then
    bX8_changedIn_14 E kr zf a0 a1 (1 : Int32) (0 : Int32) h
  else
  some ((0 : Int32), h)
set_option maxRecDepth 20000 in
set_option maxHeartbeats 4000000 in
theorem rX8_changedIn_0 {X : ah_X} {d : Nat} {dk : Nat} {kr : Option Nat → Int32 → ah_H → Option (Int32 × ah_H)} (hkr : ∀ (d : Nat), dk ≤ d → ∀ (x0 : Option Nat) (x1 : Int32) (h : ah_H) (r : Int32) (h2 : ah_H), kr x0 x1 h = some (r, h2) → Rn X yX8_changedIn cX8_changedIn 4 (some .int) d [va_rf x0, .int x1] h (some (.int r)) h2) (hd : 2 ≤ d) (hdk : dk + 0 ≤ d) {a0 : Option Nat} {a1 : Int32} {h : ah_H} {r : Int32} {h2 : ah_H} (hf : bX8_changedIn_0 X.2.2.2 kr a0 a1 h = some (r, h2)) : Rt X yX8_changedIn cX8_changedIn 4 (d + 1) 0 [(0, va_rf a0), (1, .int a1)] [] h (some (.int r)) h2 := by
  unfold bX8_changedIn_0 at hf
  refine rt_aload_n (pc := 0) (k0 := 0) (x := a0) 0 rfl dX8_changedIn_0 ?_
  obtain ⟨v1, e2, hf⟩ := ob1 hf
  refine rt_gi (pc := 1) fd_X8_123 dX8_changedIn_1 e2 ?_
  refine rt_iconst (pc := 4) (n := -1) (v := (-1 : Int32)) (by decide) dX8_changedIn_4 ?_
  by_cases c3 : v1 = (-1 : Int32)
  · rw [if_pos c3] at hf
    refine rt_icmp_eq_p (pc := 5) (x := v1) (z := (-1 : Int32)) (tgt := 10) (by decide) dX8_changedIn_5 c3 ?_
    refine rt_iconst (pc := 10) (n := 1) (v := (1 : Int32)) (by decide) dX8_changedIn_10 ?_
    refine rt_istore_n (pc := 11) (k0 := 2) (x := (1 : Int32)) (l2 := [(2, .int (1 : Int32)), (0, va_rf a0), (1, .int a1)]) (by decide) (by first | rfl | (simp [rt_cat, cat_i, cat_l]; done) | (simp [rt_cat, cat_i, cat_l]; decide)) dX8_changedIn_11 ?_
    refine rt_iconst (pc := 12) (n := 0) (v := (0 : Int32)) (by decide) dX8_changedIn_12 ?_
    refine rt_istore_n (pc := 13) (k0 := 3) (x := (0 : Int32)) (l2 := [(3, .int (0 : Int32)), (2, .int (1 : Int32)), (0, va_rf a0), (1, .int a1)]) (by decide) (by first | rfl | (simp [rt_cat, cat_i, cat_l]; done) | (simp [rt_cat, cat_i, cat_l]; decide)) dX8_changedIn_13 ?_
    exact rt_locals (rt_sub [2, 3, 1, 0] rfl) (rX8_changedIn_14 hkr hd hdk zf _ _ _ _ _ _ _ hf)
  rw [if_neg c3] at hf
  refine rt_icmp_eq_n (pc := 5) (x := v1) (z := (-1 : Int32)) (tgt := 10) (by decide) dX8_changedIn_5 c3 ?_
  refine rt_iconst (pc := 8) (n := 0) (v := (0 : Int32)) (by decide) dX8_changedIn_8 ?_
  cases hf
  exact rt_ret (pc := 9) dX8_changedIn_9 rfl
noncomputable def gX8_changedIn (E : ah_E) (kr : Option Nat → Int32 → ah_H → Option (Int32 × ah_H)) (a0 : Option Nat) (a1 : Int32) (h : ah_H) : Option (Int32 × ah_H) := bX8_changedIn_0 E kr a0 a1 h
set_option maxRecDepth 20000 in
set_option maxHeartbeats 4000000 in
theorem tX8_changedIn {X : ah_X} {dk : Nat} {kr : Option Nat → Int32 → ah_H → Option (Int32 × ah_H)} (hkr : ∀ (d : Nat), dk ≤ d → ∀ (x0 : Option Nat) (x1 : Int32) (h : ah_H) (r : Int32) (h2 : ah_H), kr x0 x1 h = some (r, h2) → Rn X yX8_changedIn cX8_changedIn 4 (some .int) d [va_rf x0, .int x1] h (some (.int r)) h2) (d : Nat) (hdk : dk + 1 ≤ d) (hd : 3 ≤ d) {a0 : Option Nat} {a1 : Int32} {h : ah_H} {r : Int32} {h2 : ah_H} (hf : gX8_changedIn X.2.2.2 kr a0 a1 h = some (r, h2)) : Rn X yX8_changedIn cX8_changedIn 4 (some .int) d [va_rf a0, .int a1] h (some (.int r)) h2 := by
  unfold gX8_changedIn at hf
  obtain ⟨d, rfl⟩ : ∃ k, d = k + 1 := ⟨d - 1, by omega⟩
  exact Rn.of2 me_X8_changedIn (by simp [lg_sl, rt_cat, cat_i, cat_l]) (ok_i _) (l := [(0, va_rf a0), (1, .int a1)]) (by simp [lv_args, rt_cat, cat_i, cat_l]) (rX8_changedIn_0 hkr (by omega) (by omega) hf)
noncomputable def fX8_changedIn (E : ah_E) : Nat → Option Nat → Int32 → ah_H → Option (Int32 × ah_H)
  | 0 => fun _ _ _ => none
  | n + 1 => fun a0 a1 h => gX8_changedIn E (fX8_changedIn E n) a0 a1 h
set_option maxRecDepth 20000 in
set_option maxHeartbeats 4000000 in
theorem sX8_changedIn {X : ah_X} (n : Nat) : ∀ (d : Nat), 3 + 1 * n ≤ d → ∀ (a0 : Option Nat) (a1 : Int32) (h : ah_H) (r : Int32) (h2 : ah_H), fX8_changedIn X.2.2.2 n a0 a1 h = some (r, h2) → Rn X yX8_changedIn cX8_changedIn 4 (some .int) d [va_rf a0, .int a1] h (some (.int r)) h2 := by
  induction n with
  | zero => intro d hd a0 a1 h r h2 hf; cases hf
  | succ n ih =>
    intro d hd a0 a1 h r h2 hf
    exact tX8_changedIn (dk := 3 + 1 * n) ih d (by omega) (by omega) hf
noncomputable def bX0_fallComes_0 (E : ah_E) (a0 : Option Nat) (h : ah_H) : Option (Int32 × ah_H) :=
  (hp_gi h a0 1 5).bind fun v1 =>
  if v1 = 0 then
    some ((0 : Int32), h)
  else
  (hp_gi h a0 1 5).bind fun v4 =>
  (hp_pv h a0 1 5 (.int (v4 - (1 : Int32)))).bind fun w6 =>
  (hp_gi w6 a0 1 5).bind fun v8 =>
  if v8 ≤ 0 then
    (hp_gr w6 a0 1 1).bind fun v11 =>
    (hp_ldi w6 v11 (3 : Int32)).bind fun v13 =>
    (hp_sti w6 v11 (3 : Int32) (v13 + (1 : Int32))).bind fun w15 =>
    some ((1 : Int32), w15)
  else
  some ((0 : Int32), w6)
set_option maxRecDepth 20000 in
set_option maxHeartbeats 4000000 in
theorem rX0_fallComes_0 {X : ah_X} {d : Nat} {a0 : Option Nat} {h : ah_H} {r : Int32} {h2 : ah_H} (hf : bX0_fallComes_0 X.2.2.2 a0 h = some (r, h2)) : Rt X yX0_fallComes cX0_fallComes 1 d 0 [(0, va_rf a0)] [] h (some (.int r)) h2 := by
  unfold bX0_fallComes_0 at hf
  refine rt_aload_n (pc := 0) (k0 := 0) (x := a0) 0 rfl dX0_fallComes_0 ?_
  obtain ⟨v1, e2, hf⟩ := ob1 hf
  refine rt_gi (pc := 1) fd_X0_93 dX0_fallComes_1 e2 ?_
  by_cases c3 : v1 = 0
  · rw [if_pos c3] at hf
    refine rt_if_ne_p (pc := 4) (x := v1) (tgt := 9) (by decide) dX0_fallComes_4 c3 ?_
    refine rt_iconst (pc := 7) (n := 0) (v := (0 : Int32)) (by decide) dX0_fallComes_7 ?_
    cases hf
    exact rt_ret (pc := 8) dX0_fallComes_8 rfl
  rw [if_neg c3] at hf
  refine rt_if_ne_n (pc := 4) (x := v1) (tgt := 9) (by decide) dX0_fallComes_4 c3 ?_
  refine rt_aload_n (pc := 9) (k0 := 0) (x := a0) 0 rfl dX0_fallComes_9 ?_
  refine rt_dup (pc := 10) (rt_cat _) dX0_fallComes_10 ?_
  obtain ⟨v4, e5, hf⟩ := ob1 hf
  refine rt_gi (pc := 11) fd_X0_93 dX0_fallComes_11 e5 ?_
  refine rt_iconst (pc := 14) (n := 1) (v := (1 : Int32)) (by decide) dX0_fallComes_14 ?_
  refine rt_isub (pc := 15) (x := v4) (z := (1 : Int32)) dX0_fallComes_15 ?_
  obtain ⟨w6, e7, hf⟩ := ob1 hf
  refine rt_putf (pc := 16) (x := a0) fw_X0_93 (Or.inl rfl) (pf_i _).1 (pf_i _).2 dX0_fallComes_16 e7 ?_
  refine rt_aload_n (pc := 19) (k0 := 0) (x := a0) 0 rfl dX0_fallComes_19 ?_
  obtain ⟨v8, e9, hf⟩ := ob1 hf
  refine rt_gi (pc := 20) fd_X0_93 dX0_fallComes_20 e9 ?_
  by_cases c10 : v8 ≤ 0
  · rw [if_pos c10] at hf
    refine rt_if_le_p (pc := 23) (x := v8) (tgt := 28) (by decide) dX0_fallComes_23 c10 ?_
    refine rt_aload_n (pc := 28) (k0 := 0) (x := a0) 0 rfl dX0_fallComes_28 ?_
    obtain ⟨v11, e12, hf⟩ := ob1 hf
    refine rt_gr (pc := 29) fd_X0_17 dX0_fallComes_29 e12 ?_
    refine rt_iconst (pc := 32) (n := 3) (v := (3 : Int32)) (by decide) dX0_fallComes_32 ?_
    refine rt_dup2 (pc := 33) rfl (rt_cat _) dX0_fallComes_33 ?_
    obtain ⟨v13, e14, hf⟩ := ob1 hf
    refine rt_iald (pc := 34) dX0_fallComes_34 e14 ?_
    refine rt_iconst (pc := 35) (n := 1) (v := (1 : Int32)) (by decide) dX0_fallComes_35 ?_
    refine rt_iadd (pc := 36) (x := v13) (z := (1 : Int32)) dX0_fallComes_36 ?_
    obtain ⟨w15, e16, hf⟩ := ob1 hf
    refine rt_iast (pc := 37) dX0_fallComes_37 e16 ?_
    refine rt_iconst (pc := 38) (n := 1) (v := (1 : Int32)) (by decide) dX0_fallComes_38 ?_
    cases hf
    exact rt_ret (pc := 39) dX0_fallComes_39 rfl
  rw [if_neg c10] at hf
  refine rt_if_le_n (pc := 23) (x := v8) (tgt := 28) (by decide) dX0_fallComes_23 c10 ?_
  refine rt_iconst (pc := 26) (n := 0) (v := (0 : Int32)) (by decide) dX0_fallComes_26 ?_
  cases hf
  exact rt_ret (pc := 27) dX0_fallComes_27 rfl
noncomputable def fX0_fallComes (E : ah_E) (a0 : Option Nat) (h : ah_H) : Option (Int32 × ah_H) := if hp_rcv h a0 1 = false then none else zb (bX0_fallComes_0 E a0 h)
set_option maxRecDepth 20000 in
set_option maxHeartbeats 4000000 in
theorem sX0_fallComes {X : ah_X} (d : Nat) (hd : 0 ≤ d) {a0 : Option Nat} {h : ah_H} {r : Int32} {h2 : ah_H} (hf : fX0_fallComes X.2.2.2 a0 h = some (r, h2)) : hp_rcv h a0 1 = true ∧ Rn X yX0_fallComes cX0_fallComes 1 (some .boolean) d [va_rf a0] h (some (.int r)) h2 := by
  unfold fX0_fallComes at hf
  by_cases c0 : hp_rcv h a0 1 = false
  · rw [if_pos c0] at hf; cases hf
  rw [if_neg c0] at hf
  refine ⟨(Bool.not_eq_false _).mp c0, ?_⟩
  obtain ⟨hf, hz⟩ := zb_of hf
  exact Rn.of2 me_X0_fallComes (by simp [lg_sl, rt_cat, cat_i, cat_l]) (ok_z hz) (l := [(0, va_rf a0)]) (by simp [lv_args, rt_cat, cat_i, cat_l]) (rX0_fallComes_0 hf)
noncomputable def bX0_writeHead_46 (E : ah_E) (s0 : Int32) (h : ah_H) : Option (Int32 × ah_H) :=
  some (s0, h)
set_option maxRecDepth 20000 in
set_option maxHeartbeats 4000000 in
theorem rX0_writeHead_46 {X : ah_X} {d : Nat} (hd : 0 ≤ d) {s0 : Int32} {h : ah_H} {r : Int32} {h2 : ah_H} (hf : bX0_writeHead_46 X.2.2.2 s0 h = some (r, h2)) : Rt X yX0_writeHead cX0_writeHead 4 (d + 1) 46 [] [.int s0] h (some (.int r)) h2 := by
  unfold bX0_writeHead_46 at hf
  cases hf
  exact rt_ret (pc := 46) dX0_writeHead_46 rfl
noncomputable def bX0_writeHead_36 (E : ah_E) (a3 : Int32) (s0 : Option Nat) (s1 : Int32) (s2 : Option Nat) (h : ah_H) : Option (Int32 × ah_H) :=
  (hp_stq h s0 s1 s2).bind fun w1 =>
  if a3 = 0 then
    bX0_writeHead_46 E (1 : Int32) w1
  else
  bX0_writeHead_46 E (0 : Int32) w1
set_option maxRecDepth 20000 in
set_option maxHeartbeats 4000000 in
theorem rX0_writeHead_36 {X : ah_X} {d : Nat} (hd : 0 ≤ d) {a3 : Int32} {s0 : Option Nat} {s1 : Int32} {s2 : Option Nat} {h : ah_H} {r : Int32} {h2 : ah_H} (hf : bX0_writeHead_36 X.2.2.2 a3 s0 s1 s2 h = some (r, h2)) : Rt X yX0_writeHead cX0_writeHead 4 (d + 1) 36 [(3, .int a3)] [va_rf s2, .int s1, va_rf s0] h (some (.int r)) h2 := by
  unfold bX0_writeHead_36 at hf
  obtain ⟨w1, e2, hf⟩ := ob1 hf
  refine rt_aast (pc := 36) dX0_writeHead_36 e2 ?_
  refine rt_iload_n (pc := 37) (k0 := 3) (x := a3) 0 rfl dX0_writeHead_37 ?_
  by_cases c3 : a3 = 0
  · rw [if_pos c3] at hf
    refine rt_if_ne_p (pc := 38) (x := a3) (tgt := 45) (by decide) dX0_writeHead_38 c3 ?_
    refine rt_iconst (pc := 41) (n := 1) (v := (1 : Int32)) (by decide) dX0_writeHead_41 ?_
    refine rt_goto (pc := 42) (tgt := 46) (by decide) dX0_writeHead_42 ?_
    exact rt_locals (rt_sub [] rfl) (rX0_writeHead_46 hd hf)
  rw [if_neg c3] at hf
  refine rt_if_ne_n (pc := 38) (x := a3) (tgt := 45) (by decide) dX0_writeHead_38 c3 ?_
  refine rt_iconst (pc := 45) (n := 0) (v := (0 : Int32)) (by decide) dX0_writeHead_45 ?_
  exact rt_locals (rt_sub [] rfl) (rX0_writeHead_46 hd hf)
noncomputable def bX0_writeHead_0 (E : ah_E) (a0 : Option Nat) (a1 : Option Nat) (h : ah_H) : Option (Int32 × ah_H) :=
  (hp_gi h a1 4 0).bind fun v1 =>
  (hp_gr h a0 1 1).bind fun v3 =>
  (hp_ldi h v3 (2 : Int32)).bind fun v5 =>
  (hp_sti h v3 (2 : Int32) (v5 + (1 : Int32))).bind fun w7 =>
  ob2 (fX0_fallComes E a0 w7) fun v11 w10 =>
  (hp_gr w10 a0 1 0).bind fun v13 =>
  if v11 = 0 then
    bX0_writeHead_36 E v11 v13 (v1 &&& (1 : Int32)) a1 w10
  else
  bX0_writeHead_36 E v11 v13 (v1 &&& (1 : Int32)) none w10
set_option maxRecDepth 20000 in
set_option maxHeartbeats 4000000 in
theorem rX0_writeHead_0 {X : ah_X} {d : Nat} (hd : 0 ≤ d) {a0 : Option Nat} {a1 : Option Nat} {h : ah_H} {r : Int32} {h2 : ah_H} (hf : bX0_writeHead_0 X.2.2.2 a0 a1 h = some (r, h2)) : Rt X yX0_writeHead cX0_writeHead 4 (d + 1) 0 [(0, va_rf a0), (1, va_rf a1)] [] h (some (.int r)) h2 := by
  unfold bX0_writeHead_0 at hf
  refine rt_aload_n (pc := 0) (k0 := 1) (x := a1) 1 rfl dX0_writeHead_0 ?_
  obtain ⟨v1, e2, hf⟩ := ob1 hf
  refine rt_gi (pc := 1) fd_X0_90 dX0_writeHead_1 e2 ?_
  refine rt_iconst (pc := 4) (n := 1) (v := (1 : Int32)) (by decide) dX0_writeHead_4 ?_
  refine rt_iand (pc := 5) (x := v1) (z := (1 : Int32)) dX0_writeHead_5 ?_
  refine rt_istore_n (pc := 6) (k0 := 2) (x := (v1 &&& (1 : Int32))) (l2 := [(2, .int (v1 &&& (1 : Int32))), (0, va_rf a0), (1, va_rf a1)]) (by decide) (by first | rfl | (simp [rt_cat, cat_i, cat_l]; done) | (simp [rt_cat, cat_i, cat_l]; decide)) dX0_writeHead_6 ?_
  refine rt_aload_n (pc := 7) (k0 := 0) (x := a0) 1 rfl dX0_writeHead_7 ?_
  obtain ⟨v3, e4, hf⟩ := ob1 hf
  refine rt_gr (pc := 8) fd_X0_17 dX0_writeHead_8 e4 ?_
  refine rt_iconst (pc := 11) (n := 2) (v := (2 : Int32)) (by decide) dX0_writeHead_11 ?_
  refine rt_dup2 (pc := 12) rfl (rt_cat _) dX0_writeHead_12 ?_
  obtain ⟨v5, e6, hf⟩ := ob1 hf
  refine rt_iald (pc := 13) dX0_writeHead_13 e6 ?_
  refine rt_iconst (pc := 14) (n := 1) (v := (1 : Int32)) (by decide) dX0_writeHead_14 ?_
  refine rt_iadd (pc := 15) (x := v5) (z := (1 : Int32)) dX0_writeHead_15 ?_
  obtain ⟨w7, e8, hf⟩ := ob1 hf
  refine rt_iast (pc := 16) dX0_writeHead_16 e8 ?_
  refine rt_aload_n (pc := 17) (k0 := 0) (x := a0) 1 rfl dX0_writeHead_17 ?_
  obtain ⟨v11, w10, e9, hf⟩ := ob2_of hf
  have g12 := sX0_fallComes d (by omega) e9
  refine rt_callV (pc := 18) (As := []) (st := []) me_X0_fallComes mi_X0_fallComes wl_X0_87 dX0_writeHead_18 rfl (by decide) rfl g12.1 g12.2 ?_
  refine rt_istore_n (pc := 21) (k0 := 3) (x := v11) (l2 := [(3, .int v11), (2, .int (v1 &&& (1 : Int32))), (0, va_rf a0), (1, va_rf a1)]) (by decide) (by first | rfl | (simp [rt_cat, cat_i, cat_l]; done) | (simp [rt_cat, cat_i, cat_l]; decide)) dX0_writeHead_21 ?_
  refine rt_aload_n (pc := 22) (k0 := 0) (x := a0) 2 rfl dX0_writeHead_22 ?_
  obtain ⟨v13, e14, hf⟩ := ob1 hf
  refine rt_gr (pc := 23) fd_X0_11 dX0_writeHead_23 e14 ?_
  refine rt_iload_n (pc := 26) (k0 := 2) (x := (v1 &&& (1 : Int32))) 1 rfl dX0_writeHead_26 ?_
  refine rt_iload_n (pc := 27) (k0 := 3) (x := v11) 0 rfl dX0_writeHead_27 ?_
  by_cases c15 : v11 = 0
  · rw [if_pos c15] at hf
    refine rt_if_eq_p (pc := 28) (x := v11) (tgt := 35) (by decide) dX0_writeHead_28 c15 ?_
    refine rt_aload_n (pc := 35) (k0 := 1) (x := a1) 3 rfl dX0_writeHead_35 ?_
    exact rt_locals (rt_sub [0] rfl) (rX0_writeHead_36 hd hf)
  rw [if_neg c15] at hf
  refine rt_if_eq_n (pc := 28) (x := v11) (tgt := 35) (by decide) dX0_writeHead_28 c15 ?_
  refine rt_null (pc := 31) dX0_writeHead_31 ?_
  refine rt_goto (pc := 32) (tgt := 36) (by decide) dX0_writeHead_32 ?_
  exact rt_locals (rt_sub [0] rfl) (rX0_writeHead_36 hd hf)
noncomputable def fX0_writeHead (E : ah_E) (a0 : Option Nat) (a1 : Option Nat) (h : ah_H) : Option (Int32 × ah_H) := if hp_rcv h a0 1 = false then none else zb (bX0_writeHead_0 E a0 a1 h)
set_option maxRecDepth 20000 in
set_option maxHeartbeats 4000000 in
theorem sX0_writeHead {X : ah_X} (d : Nat) (hd : 1 ≤ d) {a0 : Option Nat} {a1 : Option Nat} {h : ah_H} {r : Int32} {h2 : ah_H} (hf : fX0_writeHead X.2.2.2 a0 a1 h = some (r, h2)) : hp_rcv h a0 1 = true ∧ Rn X yX0_writeHead cX0_writeHead 4 (some .boolean) d [va_rf a0, va_rf a1] h (some (.int r)) h2 := by
  unfold fX0_writeHead at hf
  by_cases c0 : hp_rcv h a0 1 = false
  · rw [if_pos c0] at hf; cases hf
  rw [if_neg c0] at hf
  refine ⟨(Bool.not_eq_false _).mp c0, ?_⟩
  obtain ⟨hf, hz⟩ := zb_of hf
  obtain ⟨d, rfl⟩ : ∃ k, d = k + 1 := ⟨d - 1, by omega⟩
  exact Rn.of2 me_X0_writeHead (by simp [lg_sl, rt_cat, cat_i, cat_l]) (ok_z hz) (l := [(0, va_rf a0), (1, va_rf a1)]) (by simp [lv_args, rt_cat, cat_i, cat_l]) (rX0_writeHead_0 (by omega) hf)
noncomputable def bX0_writePage_93 (E : ah_E) (h : ah_H) : Option (Int32 × ah_H) :=
  some ((1 : Int32), h)
set_option maxRecDepth 20000 in
set_option maxHeartbeats 4000000 in
theorem rX0_writePage_93 {X : ah_X} {d : Nat} (hd : 1 ≤ d)  {h : ah_H} {r : Int32} {h2 : ah_H} (hf : bX0_writePage_93 X.2.2.2  h = some (r, h2)) : Rt X yX0_writePage cX0_writePage 2 (d + 1) 93 [] [] h (some (.int r)) h2 := by
  unfold bX0_writePage_93 at hf
  refine rt_iconst (pc := 93) (n := 1) (v := (1 : Int32)) (by decide) dX0_writePage_93 ?_
  cases hf
  exact rt_ret (pc := 94) dX0_writePage_94 rfl
noncomputable def bX0_writePage_65 (E : ah_E) (a0 : Option Nat) (a1 : Option Nat) (h : ah_H) : Option (Int32 × ah_H) :=
  (hp_gi h a0 1 4).bind fun v1 =>
  if (1000 : Int32) ≤ v1 then
    bX0_writePage_93 E  h
  else
  (hp_gi h a0 1 4).bind fun v4 =>
  (hp_pv h a1 6 4 (.int v4)).bind fun w6 =>
  (hp_gr w6 a0 1 2).bind fun v8 =>
  (hp_gi w6 a0 1 4).bind fun v10 =>
  (hp_stb w6 v8 v10 (1 : Int32)).bind fun w12 =>
  bX0_writePage_93 E  w12
set_option maxRecDepth 20000 in
set_option maxHeartbeats 4000000 in
theorem rX0_writePage_65 {X : ah_X} {d : Nat} (hd : 1 ≤ d) {a0 : Option Nat} {a1 : Option Nat} {h : ah_H} {r : Int32} {h2 : ah_H} (hf : bX0_writePage_65 X.2.2.2 a0 a1 h = some (r, h2)) : Rt X yX0_writePage cX0_writePage 2 (d + 1) 65 [(0, va_rf a0), (1, va_rf a1)] [] h (some (.int r)) h2 := by
  unfold bX0_writePage_65 at hf
  refine rt_aload_n (pc := 65) (k0 := 0) (x := a0) 0 rfl dX0_writePage_65 ?_
  obtain ⟨v1, e2, hf⟩ := ob1 hf
  refine rt_gi (pc := 66) fd_X0_35 dX0_writePage_66 e2 ?_
  refine rt_sipush (pc := 69) (n := 1000) (v := (1000 : Int32)) (by decide) dX0_writePage_69 ?_
  by_cases c3 : (1000 : Int32) ≤ v1
  · rw [if_pos c3] at hf
    refine rt_icmp_ge_p (pc := 72) (x := v1) (z := (1000 : Int32)) (tgt := 93) (by decide) dX0_writePage_72 c3 ?_
    exact rt_locals (rt_sub [] rfl) (rX0_writePage_93 hd hf)
  rw [if_neg c3] at hf
  refine rt_icmp_ge_n (pc := 72) (x := v1) (z := (1000 : Int32)) (tgt := 93) (by decide) dX0_writePage_72 c3 ?_
  refine rt_aload_n (pc := 75) (k0 := 1) (x := a1) 1 rfl dX0_writePage_75 ?_
  refine rt_aload_n (pc := 76) (k0 := 0) (x := a0) 0 rfl dX0_writePage_76 ?_
  obtain ⟨v4, e5, hf⟩ := ob1 hf
  refine rt_gi (pc := 77) fd_X0_35 dX0_writePage_77 e5 ?_
  obtain ⟨w6, e7, hf⟩ := ob1 hf
  refine rt_putf (pc := 80) (x := a1) fw_X0_67 (Or.inl rfl) (pf_i _).1 (pf_i _).2 dX0_writePage_80 e7 ?_
  refine rt_aload_n (pc := 83) (k0 := 0) (x := a0) 0 rfl dX0_writePage_83 ?_
  obtain ⟨v8, e9, hf⟩ := ob1 hf
  refine rt_gr (pc := 84) fd_X0_21 dX0_writePage_84 e9 ?_
  refine rt_aload_n (pc := 87) (k0 := 0) (x := a0) 0 rfl dX0_writePage_87 ?_
  obtain ⟨v10, e11, hf⟩ := ob1 hf
  refine rt_gi (pc := 88) fd_X0_35 dX0_writePage_88 e11 ?_
  refine rt_iconst (pc := 91) (n := 1) (v := (1 : Int32)) (by decide) dX0_writePage_91 ?_
  obtain ⟨w12, e13, hf⟩ := ob1 hf
  refine rt_bast (pc := 92) dX0_writePage_92 e13 ?_
  exact rt_locals (rt_sub [] rfl) (rX0_writePage_93 hd hf)
noncomputable def bX0_writePage_30 (E : ah_E) : Nat → Option Nat → Option Nat → ah_H → Option (Int32 × ah_H)
  | 0 => fun _ _ _ => none
  | n + 1 => fun a0 a1 h =>
  (hp_gi h a0 1 4).bind fun v1 =>
  if (1000 : Int32) ≤ v1 then
    bX0_writePage_65 E a0 a1 h
  else
  (hp_gr h a0 1 2).bind fun v4 =>
  (hp_gi h a0 1 4).bind fun v6 =>
  (hp_ldb h v4 v6).bind fun v8 =>
  if v8 = 0 then
    bX0_writePage_65 E a0 a1 h
  else
  (hp_gi h a0 1 4).bind fun v11 =>
  (hp_pv h a0 1 4 (.int (v11 + (1 : Int32)))).bind fun w13 =>
  bX0_writePage_30 E n a0 a1 w13
set_option maxRecDepth 20000 in
set_option maxHeartbeats 4000000 in
theorem rX0_writePage_30 {X : ah_X} {d : Nat} (hd : 1 ≤ d) (n : Nat) : ∀ (a0 : Option Nat) (a1 : Option Nat) (h : ah_H) (r : Int32) (h2 : ah_H), bX0_writePage_30 X.2.2.2 n a0 a1 h = some (r, h2) → Rt X yX0_writePage cX0_writePage 2 (d + 1) 30 [(0, va_rf a0), (1, va_rf a1)] [] h (some (.int r)) h2 := by
  induction n with
  | zero => intro a0 a1 h r h2 hf; cases hf
  | succ n ih =>
  intro a0 a1 h r h2 hf
  unfold bX0_writePage_30 at hf
  refine rt_aload_n (pc := 30) (k0 := 0) (x := a0) 0 rfl dX0_writePage_30 ?_
  obtain ⟨v1, e2, hf⟩ := ob1 hf
  refine rt_gi (pc := 31) fd_X0_35 dX0_writePage_31 e2 ?_
  refine rt_sipush (pc := 34) (n := 1000) (v := (1000 : Int32)) (by decide) dX0_writePage_34 ?_
  by_cases c3 : (1000 : Int32) ≤ v1
  · rw [if_pos c3] at hf
    refine rt_icmp_ge_p (pc := 37) (x := v1) (z := (1000 : Int32)) (tgt := 65) (by decide) dX0_writePage_37 c3 ?_
    exact rX0_writePage_65 hd hf
  rw [if_neg c3] at hf
  refine rt_icmp_ge_n (pc := 37) (x := v1) (z := (1000 : Int32)) (tgt := 65) (by decide) dX0_writePage_37 c3 ?_
  refine rt_aload_n (pc := 40) (k0 := 0) (x := a0) 0 rfl dX0_writePage_40 ?_
  obtain ⟨v4, e5, hf⟩ := ob1 hf
  refine rt_gr (pc := 41) fd_X0_21 dX0_writePage_41 e5 ?_
  refine rt_aload_n (pc := 44) (k0 := 0) (x := a0) 0 rfl dX0_writePage_44 ?_
  obtain ⟨v6, e7, hf⟩ := ob1 hf
  refine rt_gi (pc := 45) fd_X0_35 dX0_writePage_45 e7 ?_
  obtain ⟨v8, e9, hf⟩ := ob1 hf
  refine rt_bald (pc := 48) dX0_writePage_48 e9 ?_
  by_cases c10 : v8 = 0
  · rw [if_pos c10] at hf
    refine rt_if_eq_p (pc := 49) (x := v8) (tgt := 65) (by decide) dX0_writePage_49 c10 ?_
    exact rX0_writePage_65 hd hf
  rw [if_neg c10] at hf
  refine rt_if_eq_n (pc := 49) (x := v8) (tgt := 65) (by decide) dX0_writePage_49 c10 ?_
  refine rt_aload_n (pc := 52) (k0 := 0) (x := a0) 0 rfl dX0_writePage_52 ?_
  refine rt_dup (pc := 53) (rt_cat _) dX0_writePage_53 ?_
  obtain ⟨v11, e12, hf⟩ := ob1 hf
  refine rt_gi (pc := 54) fd_X0_35 dX0_writePage_54 e12 ?_
  refine rt_iconst (pc := 57) (n := 1) (v := (1 : Int32)) (by decide) dX0_writePage_57 ?_
  refine rt_iadd (pc := 58) (x := v11) (z := (1 : Int32)) dX0_writePage_58 ?_
  obtain ⟨w13, e14, hf⟩ := ob1 hf
  refine rt_putf (pc := 59) (x := a0) fw_X0_35 (Or.inl rfl) (pf_i _).1 (pf_i _).2 dX0_writePage_59 e14 ?_
  refine rt_goto (pc := 62) (tgt := 30) (by decide) dX0_writePage_62 ?_
  exact ih _ _ _ _ _ hf
noncomputable def bX0_writePage_16 (E : ah_E) (a0 : Option Nat) (a1 : Option Nat) (s0 : Option Nat) (s1 : Int32) (h : ah_H) : Option (Int32 × ah_H) :=
  (hp_ldi h s0 s1).bind fun v1 =>
  (hp_sti h s0 s1 (v1 + (1 : Int32))).bind fun w3 =>
  ob2 (fX0_fallComes E a0 w3) fun v7 w6 =>
  if v7 = 0 then
    bX0_writePage_30 E zf a0 a1 w6
  else
  some ((0 : Int32), w6)
set_option maxRecDepth 20000 in
set_option maxHeartbeats 4000000 in
theorem rX0_writePage_16 {X : ah_X} {d : Nat} (hd : 1 ≤ d) {a0 : Option Nat} {a1 : Option Nat} {s0 : Option Nat} {s1 : Int32} {h : ah_H} {r : Int32} {h2 : ah_H} (hf : bX0_writePage_16 X.2.2.2 a0 a1 s0 s1 h = some (r, h2)) : Rt X yX0_writePage cX0_writePage 2 (d + 1) 16 [(0, va_rf a0), (1, va_rf a1)] [.int s1, va_rf s0] h (some (.int r)) h2 := by
  unfold bX0_writePage_16 at hf
  refine rt_dup2 (pc := 16) rfl (rt_cat _) dX0_writePage_16 ?_
  obtain ⟨v1, e2, hf⟩ := ob1 hf
  refine rt_iald (pc := 17) dX0_writePage_17 e2 ?_
  refine rt_iconst (pc := 18) (n := 1) (v := (1 : Int32)) (by decide) dX0_writePage_18 ?_
  refine rt_iadd (pc := 19) (x := v1) (z := (1 : Int32)) dX0_writePage_19 ?_
  obtain ⟨w3, e4, hf⟩ := ob1 hf
  refine rt_iast (pc := 20) dX0_writePage_20 e4 ?_
  refine rt_aload_n (pc := 21) (k0 := 0) (x := a0) 0 rfl dX0_writePage_21 ?_
  obtain ⟨v7, w6, e5, hf⟩ := ob2_of hf
  have g8 := sX0_fallComes d (by omega) e5
  refine rt_callV (pc := 22) (As := []) (st := []) me_X0_fallComes mi_X0_fallComes wl_X0_87 dX0_writePage_22 rfl (by decide) rfl g8.1 g8.2 ?_
  by_cases c9 : v7 = 0
  · rw [if_pos c9] at hf
    refine rt_if_eq_p (pc := 25) (x := v7) (tgt := 30) (by decide) dX0_writePage_25 c9 ?_
    exact rX0_writePage_30 hd zf _ _ _ _ _ hf
  rw [if_neg c9] at hf
  refine rt_if_eq_n (pc := 25) (x := v7) (tgt := 30) (by decide) dX0_writePage_25 c9 ?_
  refine rt_iconst (pc := 28) (n := 0) (v := (0 : Int32)) (by decide) dX0_writePage_28 ?_
  cases hf
  exact rt_ret (pc := 29) dX0_writePage_29 rfl
noncomputable def bX0_writePage_0 (E : ah_E) (a0 : Option Nat) (a1 : Option Nat) (h : ah_H) : Option (Int32 × ah_H) :=
  (hp_gr h a0 1 1).bind fun v1 =>
  ob2 (fX5_isLeaf E a1 h) fun v5 w4 =>
  if v5 = 0 then
    bX0_writePage_16 E a0 a1 v1 (1 : Int32) w4
  else
  bX0_writePage_16 E a0 a1 v1 (0 : Int32) w4
set_option maxRecDepth 20000 in
set_option maxHeartbeats 4000000 in
theorem rX0_writePage_0 {X : ah_X} {d : Nat} (hd : 1 ≤ d) {a0 : Option Nat} {a1 : Option Nat} {h : ah_H} {r : Int32} {h2 : ah_H} (hf : bX0_writePage_0 X.2.2.2 a0 a1 h = some (r, h2)) : Rt X yX0_writePage cX0_writePage 2 (d + 1) 0 [(0, va_rf a0), (1, va_rf a1)] [] h (some (.int r)) h2 := by
  unfold bX0_writePage_0 at hf
  refine rt_aload_n (pc := 0) (k0 := 0) (x := a0) 0 rfl dX0_writePage_0 ?_
  obtain ⟨v1, e2, hf⟩ := ob1 hf
  refine rt_gr (pc := 1) fd_X0_17 dX0_writePage_1 e2 ?_
  refine rt_aload_n (pc := 4) (k0 := 1) (x := a1) 1 rfl dX0_writePage_4 ?_
  obtain ⟨v5, w4, e3, hf⟩ := ob2_of hf
  have g6 := sX5_isLeaf d (by omega) e3
  refine rt_callV (pc := 5) (As := []) (st := [va_rf v1]) me_X5_isLeaf mi_X5_isLeaf wl_X0_83 dX0_writePage_5 rfl (by simp [rt_cat, cat_i, cat_l]) rfl g6.1 g6.2 ?_
  by_cases c7 : v5 = 0
  · rw [if_pos c7] at hf
    refine rt_if_eq_p (pc := 8) (x := v5) (tgt := 15) (by decide) dX0_writePage_8 c7 ?_
    refine rt_iconst (pc := 15) (n := 1) (v := (1 : Int32)) (by decide) dX0_writePage_15 ?_
    exact rX0_writePage_16 hd hf
  rw [if_neg c7] at hf
  refine rt_if_eq_n (pc := 8) (x := v5) (tgt := 15) (by decide) dX0_writePage_8 c7 ?_
  refine rt_iconst (pc := 11) (n := 0) (v := (0 : Int32)) (by decide) dX0_writePage_11 ?_
  refine rt_goto (pc := 12) (tgt := 16) (by decide) dX0_writePage_12 ?_
  exact rX0_writePage_16 hd hf
noncomputable def fX0_writePage (E : ah_E) (a0 : Option Nat) (a1 : Option Nat) (h : ah_H) : Option (Int32 × ah_H) := if hp_rcv h a0 1 = false then none else zb (bX0_writePage_0 E a0 a1 h)
set_option maxRecDepth 20000 in
set_option maxHeartbeats 4000000 in
theorem sX0_writePage {X : ah_X} (d : Nat) (hd : 2 ≤ d) {a0 : Option Nat} {a1 : Option Nat} {h : ah_H} {r : Int32} {h2 : ah_H} (hf : fX0_writePage X.2.2.2 a0 a1 h = some (r, h2)) : hp_rcv h a0 1 = true ∧ Rn X yX0_writePage cX0_writePage 2 (some .boolean) d [va_rf a0, va_rf a1] h (some (.int r)) h2 := by
  unfold fX0_writePage at hf
  by_cases c0 : hp_rcv h a0 1 = false
  · rw [if_pos c0] at hf; cases hf
  rw [if_neg c0] at hf
  refine ⟨(Bool.not_eq_false _).mp c0, ?_⟩
  obtain ⟨hf, hz⟩ := zb_of hf
  obtain ⟨d, rfl⟩ : ∃ k, d = k + 1 := ⟨d - 1, by omega⟩
  exact Rn.of2 me_X0_writePage (by simp [lg_sl, rt_cat, cat_i, cat_l]) (ok_z hz) (l := [(0, va_rf a0), (1, va_rf a1)]) (by simp [lv_args, rt_cat, cat_i, cat_l]) (rX0_writePage_0 (by omega) hf)
noncomputable def bX0_writePages_58 (E : ah_E) (kr : Option Nat → Option Nat → Int32 → ah_H → Option (Int32 × ah_H)) (a0 : Option Nat) (a1 : Option Nat) (h : ah_H) : Option (Int32 × ah_H) :=
  ob2 (fX0_writePage E a0 a1 h) fun v3 w2 =>
  some (v3, w2)
set_option maxRecDepth 20000 in
set_option maxHeartbeats 4000000 in
theorem rX0_writePages_58 {X : ah_X} {d : Nat} {dk : Nat} {kr : Option Nat → Option Nat → Int32 → ah_H → Option (Int32 × ah_H)} (hkr : ∀ (d : Nat), dk ≤ d → ∀ (x0 : Option Nat) (x1 : Option Nat) (x2 : Int32) (h : ah_H) (r : Int32) (h2 : ah_H), kr x0 x1 x2 h = some (r, h2) → Rn X yX0_writePages cX0_writePages 4 (some .boolean) d [va_rf x0, va_rf x1, .int x2] h (some (.int r)) h2) (hd : 2 ≤ d) (hdk : dk + 0 ≤ d) {a0 : Option Nat} {a1 : Option Nat} {h : ah_H} {r : Int32} {h2 : ah_H} (hf : bX0_writePages_58 X.2.2.2 kr a0 a1 h = some (r, h2)) : Rt X yX0_writePages cX0_writePages 4 (d + 1) 58 [(0, va_rf a0), (1, va_rf a1)] [] h (some (.int r)) h2 := by
  unfold bX0_writePages_58 at hf
  refine rt_aload_n (pc := 58) (k0 := 0) (x := a0) 0 rfl dX0_writePages_58 ?_
  refine rt_aload_n (pc := 59) (k0 := 1) (x := a1) 1 rfl dX0_writePages_59 ?_
  obtain ⟨v3, w2, e1, hf⟩ := ob2_of hf
  have g4 := sX0_writePage d (by omega) e1
  refine rt_callV (pc := 60) (As := [va_rf a1]) (st := []) me_X0_writePage mi_X0_writePage wl_X0_79 dX0_writePages_60 rfl (by decide) rfl g4.1 g4.2 ?_
  cases hf
  exact rt_ret (pc := 63) dX0_writePages_63 rfl
noncomputable def bX0_writePages_12 (E : ah_E) (kr : Option Nat → Option Nat → Int32 → ah_H → Option (Int32 × ah_H)) : Nat → Option Nat → Option Nat → Int32 → Int32 → ah_H → Option (Int32 × ah_H)
  | 0 => fun _ _ _ _ _ => none
  | n + 1 => fun a0 a1 a2 a3 h =>
  (hp_gr h a1 6 2).bind fun v1 =>
  ob2 (fJx4a65c_size_8abf5 E v1 h) fun v5 w4 =>
  if v5 ≤ a3 then
    bX0_writePages_58 E kr a0 a1 w4
  else
  if (40 : Int32) ≤ a2 then
    bX0_writePages_58 E kr a0 a1 w4
  else
  (hp_gr w4 a1 6 2).bind fun v9 =>
  ob2 (fJx4a65c_get_915e3 E v9 a3 w4) fun v13 w12 =>
  if hp_cls w12 v13 6 = false then none else
  ob2 (kr a0 v13 (a2 + (1 : Int32)) w12) fun v18 w17 =>
  if v18 = 0 then
    some ((0 : Int32), w17)
  else
  bX0_writePages_12 E kr n a0 a1 a2 (a3 + 1) w17
set_option maxRecDepth 20000 in
set_option maxHeartbeats 4000000 in
theorem rX0_writePages_12 {X : ah_X} {d : Nat} {dk : Nat} {kr : Option Nat → Option Nat → Int32 → ah_H → Option (Int32 × ah_H)} (hkr : ∀ (d : Nat), dk ≤ d → ∀ (x0 : Option Nat) (x1 : Option Nat) (x2 : Int32) (h : ah_H) (r : Int32) (h2 : ah_H), kr x0 x1 x2 h = some (r, h2) → Rn X yX0_writePages cX0_writePages 4 (some .boolean) d [va_rf x0, va_rf x1, .int x2] h (some (.int r)) h2) (hd : 2 ≤ d) (hdk : dk + 0 ≤ d) (n : Nat) : ∀ (a0 : Option Nat) (a1 : Option Nat) (a2 : Int32) (a3 : Int32) (h : ah_H) (r : Int32) (h2 : ah_H), bX0_writePages_12 X.2.2.2 kr n a0 a1 a2 a3 h = some (r, h2) → Rt X yX0_writePages cX0_writePages 4 (d + 1) 12 [(0, va_rf a0), (1, va_rf a1), (2, .int a2), (3, .int a3)] [] h (some (.int r)) h2 := by
  induction n with
  | zero => intro a0 a1 a2 a3 h r h2 hf; cases hf
  | succ n ih =>
  intro a0 a1 a2 a3 h r h2 hf
  unfold bX0_writePages_12 at hf
  refine rt_iload_n (pc := 12) (k0 := 3) (x := a3) 3 rfl dX0_writePages_12 ?_
  refine rt_aload_n (pc := 13) (k0 := 1) (x := a1) 1 rfl dX0_writePages_13 ?_
  obtain ⟨v1, e2, hf⟩ := ob1 hf
  refine rt_gr (pc := 14) fd_X0_72 dX0_writePages_14 e2 ?_
  obtain ⟨v5, w4, e3, hf⟩ := ob2_of hf
  have g6 := sJx4a65c_size_8abf5 d (by omega) e3
  refine rt_callV (pc := 17) (As := []) (st := [.int a3]) me_Jx4a65c_size_8abf5 mi_Jx4a65c_size_8abf5 wl_X0_54 dX0_writePages_17 rfl (by simp [rt_cat, cat_i, cat_l]) rfl g6.1 g6.2 ?_
  by_cases c7 : v5 ≤ a3
  · rw [if_pos c7] at hf
    refine rt_icmp_ge_p (pc := 20) (x := a3) (z := v5) (tgt := 58) (by decide) dX0_writePages_20 c7 ?_
    exact rt_locals (rt_sub [0, 1] rfl) (rX0_writePages_58 hkr hd hdk hf)
  rw [if_neg c7] at hf
  refine rt_icmp_ge_n (pc := 20) (x := a3) (z := v5) (tgt := 58) (by decide) dX0_writePages_20 c7 ?_
  refine rt_iload_n (pc := 23) (k0 := 2) (x := a2) 2 rfl dX0_writePages_23 ?_
  refine rt_bipush (pc := 24) (n := 40) (v := (40 : Int32)) (by decide) dX0_writePages_24 ?_
  by_cases c8 : (40 : Int32) ≤ a2
  · rw [if_pos c8] at hf
    refine rt_icmp_ge_p (pc := 26) (x := a2) (z := (40 : Int32)) (tgt := 58) (by decide) dX0_writePages_26 c8 ?_
    exact rt_locals (rt_sub [0, 1] rfl) (rX0_writePages_58 hkr hd hdk hf)
  rw [if_neg c8] at hf
  refine rt_icmp_ge_n (pc := 26) (x := a2) (z := (40 : Int32)) (tgt := 58) (by decide) dX0_writePages_26 c8 ?_
  refine rt_aload_n (pc := 29) (k0 := 0) (x := a0) 0 rfl dX0_writePages_29 ?_
  refine rt_aload_n (pc := 30) (k0 := 1) (x := a1) 1 rfl dX0_writePages_30 ?_
  obtain ⟨v9, e10, hf⟩ := ob1 hf
  refine rt_gr (pc := 31) fd_X0_72 dX0_writePages_31 e10 ?_
  refine rt_iload_n (pc := 34) (k0 := 3) (x := a3) 3 rfl dX0_writePages_34 ?_
  obtain ⟨v13, w12, e11, hf⟩ := ob2_of hf
  have g14 := sJx4a65c_get_915e3 d (by omega) e11
  refine rt_callV (pc := 35) (As := [.int a3]) (st := [va_rf a0]) me_Jx4a65c_get_915e3 mi_Jx4a65c_get_915e3 wl_X0_60 dX0_writePages_35 rfl (by simp [rt_cat, cat_i, cat_l]) rfl g14.1 g14.2 ?_
  by_cases c15 : hp_cls w12 v13 6 = false
  · rw [if_pos c15] at hf; cases hf
  rw [if_neg c15] at hf
  refine rt_cast (pc := 38) (x := v13) (show vwCl[6]? = some (RX5, TX5, 5) from rfl) wc_X0_68 dX0_writePages_38 ((Bool.not_eq_false _).mp c15) ?_
  refine rt_iload_n (pc := 41) (k0 := 2) (x := a2) 2 rfl dX0_writePages_41 ?_
  refine rt_iconst (pc := 42) (n := 1) (v := (1 : Int32)) (by decide) dX0_writePages_42 ?_
  refine rt_iadd (pc := 43) (x := a2) (z := (1 : Int32)) dX0_writePages_43 ?_
  obtain ⟨v18, w17, e16, hf⟩ := ob2_of hf
  have g19 := hkr d (by omega) _ _ _ _ _ _ e16
  refine rt_callS (pc := 44) (As := [va_rf a0, va_rf v13, .int (a2 + (1 : Int32))]) (st := []) me_X0_writePages ms_X0_writePages wl_X0_75 dX0_writePages_44 rfl (by decide) rfl g19 ?_
  by_cases c20 : v18 = 0
  · rw [if_pos c20] at hf
    refine rt_if_ne_p (pc := 47) (x := v18) (tgt := 52) (by decide) dX0_writePages_47 c20 ?_
    refine rt_iconst (pc := 50) (n := 0) (v := (0 : Int32)) (by decide) dX0_writePages_50 ?_
    cases hf
    exact rt_ret (pc := 51) dX0_writePages_51 rfl
  rw [if_neg c20] at hf
  refine rt_if_ne_n (pc := 47) (x := v18) (tgt := 52) (by decide) dX0_writePages_47 c20 ?_
  refine rt_iinc (pc := 52) (i := 3) (n := 1) (x := a3) (v := (a3 + 1)) (l2 := [(3, .int (a3 + 1)), (0, va_rf a0), (1, va_rf a1), (2, .int a2)]) 3 rfl rfl (by decide) (by first | rfl | (simp [rt_cat, cat_i, cat_l]; done) | (simp [rt_cat, cat_i, cat_l]; decide)) dX0_writePages_52 ?_
  refine rt_goto (pc := 55) (tgt := 12) (by decide) dX0_writePages_55 ?_
  exact rt_locals (rt_sub [1, 2, 3, 0] rfl) (ih _ _ _ _ _ _ _ hf)
noncomputable def bX0_writePages_0 (E : ah_E) (kr : Option Nat → Option Nat → Int32 → ah_H → Option (Int32 × ah_H)) (a0 : Option Nat) (a1 : Option Nat) (a2 : Int32) (h : ah_H) : Option (Int32 × ah_H) :=
  (hp_gi h a1 6 4).bind fun v1 =>
  if v1 = (-1 : Int32) then
    bX0_writePages_12 E kr zf a0 a1 a2 (0 : Int32) h
  else
  some ((1 : Int32), h)
set_option maxRecDepth 20000 in
set_option maxHeartbeats 4000000 in
theorem rX0_writePages_0 {X : ah_X} {d : Nat} {dk : Nat} {kr : Option Nat → Option Nat → Int32 → ah_H → Option (Int32 × ah_H)} (hkr : ∀ (d : Nat), dk ≤ d → ∀ (x0 : Option Nat) (x1 : Option Nat) (x2 : Int32) (h : ah_H) (r : Int32) (h2 : ah_H), kr x0 x1 x2 h = some (r, h2) → Rn X yX0_writePages cX0_writePages 4 (some .boolean) d [va_rf x0, va_rf x1, .int x2] h (some (.int r)) h2) (hd : 2 ≤ d) (hdk : dk + 0 ≤ d) {a0 : Option Nat} {a1 : Option Nat} {a2 : Int32} {h : ah_H} {r : Int32} {h2 : ah_H} (hf : bX0_writePages_0 X.2.2.2 kr a0 a1 a2 h = some (r, h2)) : Rt X yX0_writePages cX0_writePages 4 (d + 1) 0 [(0, va_rf a0), (1, va_rf a1), (2, .int a2)] [] h (some (.int r)) h2 := by
  unfold bX0_writePages_0 at hf
  refine rt_aload_n (pc := 0) (k0 := 1) (x := a1) 1 rfl dX0_writePages_0 ?_
  obtain ⟨v1, e2, hf⟩ := ob1 hf
  refine rt_gi (pc := 1) fd_X0_67 dX0_writePages_1 e2 ?_
  refine rt_iconst (pc := 4) (n := -1) (v := (-1 : Int32)) (by decide) dX0_writePages_4 ?_
  by_cases c3 : v1 = (-1 : Int32)
  · rw [if_pos c3] at hf
    refine rt_icmp_eq_p (pc := 5) (x := v1) (z := (-1 : Int32)) (tgt := 10) (by decide) dX0_writePages_5 c3 ?_
    refine rt_iconst (pc := 10) (n := 0) (v := (0 : Int32)) (by decide) dX0_writePages_10 ?_
    refine rt_istore_n (pc := 11) (k0 := 3) (x := (0 : Int32)) (l2 := [(3, .int (0 : Int32)), (0, va_rf a0), (1, va_rf a1), (2, .int a2)]) (by decide) (by first | rfl | (simp [rt_cat, cat_i, cat_l]; done) | (simp [rt_cat, cat_i, cat_l]; decide)) dX0_writePages_11 ?_
    exact rt_locals (rt_sub [1, 2, 3, 0] rfl) (rX0_writePages_12 hkr hd hdk zf _ _ _ _ _ _ _ hf)
  rw [if_neg c3] at hf
  refine rt_icmp_eq_n (pc := 5) (x := v1) (z := (-1 : Int32)) (tgt := 10) (by decide) dX0_writePages_5 c3 ?_
  refine rt_iconst (pc := 8) (n := 1) (v := (1 : Int32)) (by decide) dX0_writePages_8 ?_
  cases hf
  exact rt_ret (pc := 9) dX0_writePages_9 rfl
noncomputable def gX0_writePages (E : ah_E) (kr : Option Nat → Option Nat → Int32 → ah_H → Option (Int32 × ah_H)) (a0 : Option Nat) (a1 : Option Nat) (a2 : Int32) (h : ah_H) : Option (Int32 × ah_H) := zb (bX0_writePages_0 E kr a0 a1 a2 h)
set_option maxRecDepth 20000 in
set_option maxHeartbeats 4000000 in
theorem tX0_writePages {X : ah_X} {dk : Nat} {kr : Option Nat → Option Nat → Int32 → ah_H → Option (Int32 × ah_H)} (hkr : ∀ (d : Nat), dk ≤ d → ∀ (x0 : Option Nat) (x1 : Option Nat) (x2 : Int32) (h : ah_H) (r : Int32) (h2 : ah_H), kr x0 x1 x2 h = some (r, h2) → Rn X yX0_writePages cX0_writePages 4 (some .boolean) d [va_rf x0, va_rf x1, .int x2] h (some (.int r)) h2) (d : Nat) (hdk : dk + 1 ≤ d) (hd : 3 ≤ d) {a0 : Option Nat} {a1 : Option Nat} {a2 : Int32} {h : ah_H} {r : Int32} {h2 : ah_H} (hf : gX0_writePages X.2.2.2 kr a0 a1 a2 h = some (r, h2)) : Rn X yX0_writePages cX0_writePages 4 (some .boolean) d [va_rf a0, va_rf a1, .int a2] h (some (.int r)) h2 := by
  unfold gX0_writePages at hf
  obtain ⟨hf, hz⟩ := zb_of hf
  obtain ⟨d, rfl⟩ : ∃ k, d = k + 1 := ⟨d - 1, by omega⟩
  exact Rn.of2 me_X0_writePages (by simp [lg_sl, rt_cat, cat_i, cat_l]) (ok_z hz) (l := [(0, va_rf a0), (1, va_rf a1), (2, .int a2)]) (by simp [lv_args, rt_cat, cat_i, cat_l]) (rX0_writePages_0 hkr (by omega) (by omega) hf)
noncomputable def fX0_writePages (E : ah_E) : Nat → Option Nat → Option Nat → Int32 → ah_H → Option (Int32 × ah_H)
  | 0 => fun _ _ _ _ => none
  | n + 1 => fun a0 a1 a2 h => gX0_writePages E (fX0_writePages E n) a0 a1 a2 h
set_option maxRecDepth 20000 in
set_option maxHeartbeats 4000000 in
theorem sX0_writePages {X : ah_X} (n : Nat) : ∀ (d : Nat), 3 + 1 * n ≤ d → ∀ (a0 : Option Nat) (a1 : Option Nat) (a2 : Int32) (h : ah_H) (r : Int32) (h2 : ah_H), fX0_writePages X.2.2.2 n a0 a1 a2 h = some (r, h2) → Rn X yX0_writePages cX0_writePages 4 (some .boolean) d [va_rf a0, va_rf a1, .int a2] h (some (.int r)) h2 := by
  induction n with
  | zero => intro d hd a0 a1 a2 h r h2 hf; cases hf
  | succ n ih =>
    intro d hd a0 a1 a2 h r h2 hf
    exact tX0_writePages (dk := 3 + 1 * n) ih d (by omega) (by omega) hf
noncomputable def bX3_init_0 (E : ah_E) (a0 : Option Nat) (a1 : Int32) (a2 : Int32) (a3 : Option Nat) (a4 : Int32) (h : ah_H) : Option ah_H :=
  if hp_rcv h a0 4 = false then none else
  (hp_new h 0 nf_0 3).bind fun w3 =>
  (fJx4a65c_init_da8c8 E (some h.1) w3).bind fun w6 =>
  (hp_pv w6 a0 4 4 (va_rf (some h.1))).bind fun w8 =>
  (hp_pv w8 a0 4 0 (.int a1)).bind fun w10 =>
  (hp_pv w10 a0 4 1 (.int a2)).bind fun w12 =>
  (hp_pv w12 a0 4 2 (va_rf a3)).bind fun w14 =>
  (hp_pv w14 a0 4 3 (.int a4)).bind fun w16 =>
  some w16
set_option maxRecDepth 20000 in
set_option maxHeartbeats 4000000 in
theorem rX3_init_0 {X : ah_X} {d : Nat} (hd : 3 ≤ d) {a0 : Option Nat} {a1 : Int32} {a2 : Int32} {a3 : Option Nat} {a4 : Int32} {h : ah_H} {h2 : ah_H} (hf : bX3_init_0 X.2.2.2 a0 a1 a2 a3 a4 h = some h2) : Rt X yX3_init cX3_init 5 (d + 1) 0 [(0, va_rf a0), (1, .int a1), (2, .int a2), (3, va_rf a3), (4, .int a4)] [] h none h2 := by
  unfold bX3_init_0 at hf
  refine rt_aload_n (pc := 0) (k0 := 0) (x := a0) 0 rfl dX3_init_0 ?_
  by_cases c1 : hp_rcv h a0 4 = false
  · rw [if_pos c1] at hf; cases hf
  rw [if_neg c1] at hf
  refine rt_objInit (pc := 1) wl_X3_1 (by decide) dX3_init_1 (by obtain ⟨q, _, q2, _⟩ := hp_rcv_spec ((Bool.not_eq_false _).mp c1); exact ⟨q, q2⟩) ?_
  refine rt_aload_n (pc := 4) (k0 := 0) (x := a0) 0 rfl dX3_init_4 ?_
  obtain ⟨w3, e4, hf⟩ := ob1 hf
  refine rt_newB (pc := 5) nw_X3_7 dX3_init_5 e4 ?_
  refine rt_dup (pc := 8) (rt_cat _) dX3_init_8 ?_
  obtain ⟨w6, e5, hf⟩ := ob1 hf
  have g7 := sJx4a65c_init_da8c8 d (by omega) e5
  refine rt_callI (pc := 9) (As := []) (st := [va_rf (some h.1), va_rf a0]) (ci := 0) me_Jx4a65c_init_da8c8 mI_Jx4a65c_init_da8c8 wl_X3_9 dX3_init_9 rfl (by simp [rt_cat, cat_i, cat_l]) rfl g7.1 g7.2 ?_
  obtain ⟨w8, e9, hf⟩ := ob1 hf
  refine rt_putf (pc := 12) (x := a0) fw_X3_10 (Or.inr rfl) (pf_o _ _).1 (pf_o _ _).2 dX3_init_12 e9 ?_
  refine rt_aload_n (pc := 15) (k0 := 0) (x := a0) 0 rfl dX3_init_15 ?_
  refine rt_iload_n (pc := 16) (k0 := 1) (x := a1) 1 rfl dX3_init_16 ?_
  obtain ⟨w10, e11, hf⟩ := ob1 hf
  refine rt_putf (pc := 17) (x := a0) fw_X3_16 (Or.inr rfl) (pf_i _).1 (pf_i _).2 dX3_init_17 e11 ?_
  refine rt_aload_n (pc := 20) (k0 := 0) (x := a0) 0 rfl dX3_init_20 ?_
  refine rt_iload_n (pc := 21) (k0 := 2) (x := a2) 2 rfl dX3_init_21 ?_
  obtain ⟨w12, e13, hf⟩ := ob1 hf
  refine rt_putf (pc := 22) (x := a0) fw_X3_20 (Or.inr rfl) (pf_i _).1 (pf_i _).2 dX3_init_22 e13 ?_
  refine rt_aload_n (pc := 25) (k0 := 0) (x := a0) 0 rfl dX3_init_25 ?_
  refine rt_aload_n (pc := 26) (k0 := 3) (x := a3) 3 rfl dX3_init_26 ?_
  obtain ⟨w14, e15, hf⟩ := ob1 hf
  refine rt_putf (pc := 27) (x := a0) fw_X3_23 (Or.inr rfl) (pf_o _ _).1 (pf_o _ _).2 dX3_init_27 e15 ?_
  refine rt_aload_n (pc := 30) (k0 := 0) (x := a0) 0 rfl dX3_init_30 ?_
  refine rt_iload (pc := 31) (i := 4) (x := a4) 4 rfl dX3_init_31 ?_
  obtain ⟨w16, e17, hf⟩ := ob1 hf
  refine rt_putf (pc := 33) (x := a0) fw_X3_27 (Or.inr rfl) (pf_i _).1 (pf_i _).2 dX3_init_33 e17 ?_
  cases hf
  exact rt_ret (pc := 36) dX3_init_36 rfl
noncomputable def fX3_init (E : ah_E) (a0 : Option Nat) (a1 : Int32) (a2 : Int32) (a3 : Option Nat) (a4 : Int32) (h : ah_H) : Option ah_H := if hp_rcv h a0 4 = false then none else bX3_init_0 E a0 a1 a2 a3 a4 h
set_option maxRecDepth 20000 in
set_option maxHeartbeats 4000000 in
theorem sX3_init {X : ah_X} (d : Nat) (hd : 4 ≤ d) {a0 : Option Nat} {a1 : Int32} {a2 : Int32} {a3 : Option Nat} {a4 : Int32} {h : ah_H} {h2 : ah_H} (hf : fX3_init X.2.2.2 a0 a1 a2 a3 a4 h = some h2) : hp_rcv h a0 4 = true ∧ Rn X yX3_init cX3_init 5 none d [va_rf a0, .int a1, .int a2, va_rf a3, .int a4] h none h2 := by
  unfold fX3_init at hf
  by_cases c0 : hp_rcv h a0 4 = false
  · rw [if_pos c0] at hf; cases hf
  rw [if_neg c0] at hf
  refine ⟨(Bool.not_eq_false _).mp c0, ?_⟩
  obtain ⟨d, rfl⟩ : ∃ k, d = k + 1 := ⟨d - 1, by omega⟩
  exact Rn.of2 me_X3_init (by simp [lg_sl, rt_cat, cat_i, cat_l]) rfl (l := [(0, va_rf a0), (1, .int a1), (2, .int a2), (3, va_rf a3), (4, .int a4)]) (by simp [lv_args, rt_cat, cat_i, cat_l]) (rX3_init_0 (by omega) hf)
noncomputable def bX0_greatestPicture_36 (E : ah_E) (k4 : Option Nat → Int32 → Int32 → ah_H → Option (Int32 × ah_H)) (a0 : Option Nat) (a1 : Int32) (a2 : Int32) (h : ah_H) : Option (Int32 × ah_H) :=
  k4 a0 a1 (a2 + 1) h
set_option maxRecDepth 20000 in
set_option maxHeartbeats 4000000 in
theorem rX0_greatestPicture_36 {X : ah_X} {d : Nat} (hd : 0 ≤ d) {k4 : Option Nat → Int32 → Int32 → ah_H → Option (Int32 × ah_H)} (hk4 : ∀ (x0 : Option Nat) (x1 : Int32) (x2 : Int32) (h : ah_H) (r : Int32) (h2 : ah_H), k4 x0 x1 x2 h = some (r, h2) → Rt X yX0_greatestPicture cX0_greatestPicture 3 (d + 1) 4 [(0, va_rf x0), (1, .int x1), (2, .int x2)] [] h (some (.int r)) h2) {a0 : Option Nat} {a1 : Int32} {a2 : Int32} {h : ah_H} {r : Int32} {h2 : ah_H} (hf : bX0_greatestPicture_36 X.2.2.2 k4 a0 a1 a2 h = some (r, h2)) : Rt X yX0_greatestPicture cX0_greatestPicture 3 (d + 1) 36 [(0, va_rf a0), (1, .int a1), (2, .int a2)] [] h (some (.int r)) h2 := by
  unfold bX0_greatestPicture_36 at hf
  refine rt_iinc (pc := 36) (i := 2) (n := 1) (x := a2) (v := (a2 + 1)) (l2 := [(2, .int (a2 + 1)), (0, va_rf a0), (1, .int a1)]) 2 rfl rfl (by decide) (by first | rfl | (simp [rt_cat, cat_i, cat_l]; done) | (simp [rt_cat, cat_i, cat_l]; decide)) dX0_greatestPicture_36 ?_
  refine rt_goto (pc := 39) (tgt := 4) (by decide) dX0_greatestPicture_39 ?_
  exact rt_locals (rt_sub [1, 2, 0] rfl) (hk4 _ _ _ _ _ _ hf)
noncomputable def bX0_greatestPicture_4 (E : ah_E) : Nat → Option Nat → Int32 → Int32 → ah_H → Option (Int32 × ah_H)
  | 0 => fun _ _ _ _ => none
  | n + 1 => fun a0 a1 a2 h =>
  (hp_gr h a0 1 0).bind fun v1 =>
  (hp_len h v1).bind fun v3 =>
  if v3 ≤ a2 then
    some (a1, h)
  else
  (hp_gr h a0 1 0).bind fun v6 =>
  (hp_ldq h v6 a2).bind fun v8 =>
  if v8 = none then
    bX0_greatestPicture_36 E (bX0_greatestPicture_4 E n) a0 a1 a2 h
  else
  (hp_gr h a0 1 0).bind fun v11 =>
  (hp_ldq h v11 a2).bind fun v13 =>
  (hp_gi h v13 4 3).bind fun v15 =>
  ob2 (fJ9_max_7cf53 E a1 v15 h) fun v19 w18 =>
  bX0_greatestPicture_36 E (bX0_greatestPicture_4 E n) a0 v19 a2 w18
set_option maxRecDepth 20000 in
set_option maxHeartbeats 4000000 in
theorem rX0_greatestPicture_4 {X : ah_X} {d : Nat} (hd : 0 ≤ d) (n : Nat) : ∀ (a0 : Option Nat) (a1 : Int32) (a2 : Int32) (h : ah_H) (r : Int32) (h2 : ah_H), bX0_greatestPicture_4 X.2.2.2 n a0 a1 a2 h = some (r, h2) → Rt X yX0_greatestPicture cX0_greatestPicture 3 (d + 1) 4 [(0, va_rf a0), (1, .int a1), (2, .int a2)] [] h (some (.int r)) h2 := by
  induction n with
  | zero => intro a0 a1 a2 h r h2 hf; cases hf
  | succ n ih =>
  intro a0 a1 a2 h r h2 hf
  unfold bX0_greatestPicture_4 at hf
  refine rt_iload_n (pc := 4) (k0 := 2) (x := a2) 2 rfl dX0_greatestPicture_4 ?_
  refine rt_aload_n (pc := 5) (k0 := 0) (x := a0) 0 rfl dX0_greatestPicture_5 ?_
  obtain ⟨v1, e2, hf⟩ := ob1 hf
  refine rt_gr (pc := 6) fd_X0_11 dX0_greatestPicture_6 e2 ?_
  obtain ⟨v3, e4, hf⟩ := ob1 hf
  refine rt_alen (pc := 9) dX0_greatestPicture_9 e4 ?_
  by_cases c5 : v3 ≤ a2
  · rw [if_pos c5] at hf
    refine rt_icmp_ge_p (pc := 10) (x := a2) (z := v3) (tgt := 42) (by decide) dX0_greatestPicture_10 c5 ?_
    refine rt_iload_n (pc := 42) (k0 := 1) (x := a1) 1 rfl dX0_greatestPicture_42 ?_
    cases hf
    exact rt_ret (pc := 43) dX0_greatestPicture_43 rfl
  rw [if_neg c5] at hf
  refine rt_icmp_ge_n (pc := 10) (x := a2) (z := v3) (tgt := 42) (by decide) dX0_greatestPicture_10 c5 ?_
  refine rt_aload_n (pc := 13) (k0 := 0) (x := a0) 0 rfl dX0_greatestPicture_13 ?_
  obtain ⟨v6, e7, hf⟩ := ob1 hf
  refine rt_gr (pc := 14) fd_X0_11 dX0_greatestPicture_14 e7 ?_
  refine rt_iload_n (pc := 17) (k0 := 2) (x := a2) 2 rfl dX0_greatestPicture_17 ?_
  obtain ⟨v8, e9, hf⟩ := ob1 hf
  refine rt_aald (pc := 18) dX0_greatestPicture_18 e9 ?_
  by_cases c10 : v8 = none
  · rw [if_pos c10] at hf
    refine rt_ifnull_p (pc := 19) (x := v8) (tgt := 36) (by decide) dX0_greatestPicture_19 c10 ?_
    exact rX0_greatestPicture_36 hd ih hf
  rw [if_neg c10] at hf
  refine rt_ifnull_n (pc := 19) (x := v8) (tgt := 36) (by decide) dX0_greatestPicture_19 c10 ?_
  refine rt_iload_n (pc := 22) (k0 := 1) (x := a1) 1 rfl dX0_greatestPicture_22 ?_
  refine rt_aload_n (pc := 23) (k0 := 0) (x := a0) 0 rfl dX0_greatestPicture_23 ?_
  obtain ⟨v11, e12, hf⟩ := ob1 hf
  refine rt_gr (pc := 24) fd_X0_11 dX0_greatestPicture_24 e12 ?_
  refine rt_iload_n (pc := 27) (k0 := 2) (x := a2) 2 rfl dX0_greatestPicture_27 ?_
  obtain ⟨v13, e14, hf⟩ := ob1 hf
  refine rt_aald (pc := 28) dX0_greatestPicture_28 e14 ?_
  obtain ⟨v15, e16, hf⟩ := ob1 hf
  refine rt_gi (pc := 29) fd_X0_96 dX0_greatestPicture_29 e16 ?_
  obtain ⟨v19, w18, e17, hf⟩ := ob2_of hf
  have g20 := sJ9_max_7cf53 d (by omega) e17
  refine rt_callS (pc := 32) (As := [.int a1, .int v15]) (st := []) me_J9_max_7cf53 ms_J9_max_7cf53 wl_X0_99 dX0_greatestPicture_32 rfl (by decide) rfl g20 ?_
  refine rt_istore_n (pc := 35) (k0 := 1) (x := v19) (l2 := [(1, .int v19), (0, va_rf a0), (2, .int a2)]) (by decide) (by first | rfl | (simp [rt_cat, cat_i, cat_l]; done) | (simp [rt_cat, cat_i, cat_l]; decide)) dX0_greatestPicture_35 ?_
  exact rt_locals (rt_sub [1, 0, 2] rfl) (rX0_greatestPicture_36 hd ih hf)
noncomputable def bX0_greatestPicture_0 (E : ah_E) (a0 : Option Nat) (h : ah_H) : Option (Int32 × ah_H) :=
  bX0_greatestPicture_4 E zf a0 (0 : Int32) (0 : Int32) h
set_option maxRecDepth 20000 in
set_option maxHeartbeats 4000000 in
theorem rX0_greatestPicture_0 {X : ah_X} {d : Nat} (hd : 0 ≤ d) {a0 : Option Nat} {h : ah_H} {r : Int32} {h2 : ah_H} (hf : bX0_greatestPicture_0 X.2.2.2 a0 h = some (r, h2)) : Rt X yX0_greatestPicture cX0_greatestPicture 3 (d + 1) 0 [(0, va_rf a0)] [] h (some (.int r)) h2 := by
  unfold bX0_greatestPicture_0 at hf
  refine rt_iconst (pc := 0) (n := 0) (v := (0 : Int32)) (by decide) dX0_greatestPicture_0 ?_
  refine rt_istore_n (pc := 1) (k0 := 1) (x := (0 : Int32)) (l2 := [(1, .int (0 : Int32)), (0, va_rf a0)]) (by decide) (by first | rfl | (simp [rt_cat, cat_i, cat_l]; done) | (simp [rt_cat, cat_i, cat_l]; decide)) dX0_greatestPicture_1 ?_
  refine rt_iconst (pc := 2) (n := 0) (v := (0 : Int32)) (by decide) dX0_greatestPicture_2 ?_
  refine rt_istore_n (pc := 3) (k0 := 2) (x := (0 : Int32)) (l2 := [(2, .int (0 : Int32)), (1, .int (0 : Int32)), (0, va_rf a0)]) (by decide) (by first | rfl | (simp [rt_cat, cat_i, cat_l]; done) | (simp [rt_cat, cat_i, cat_l]; decide)) dX0_greatestPicture_3 ?_
  exact rt_locals (rt_sub [2, 1, 0] rfl) (rX0_greatestPicture_4 hd zf _ _ _ _ _ _ hf)
noncomputable def fX0_greatestPicture (E : ah_E) (a0 : Option Nat) (h : ah_H) : Option (Int32 × ah_H) := if hp_rcv h a0 1 = false then none else bX0_greatestPicture_0 E a0 h
set_option maxRecDepth 20000 in
set_option maxHeartbeats 4000000 in
theorem sX0_greatestPicture {X : ah_X} (d : Nat) (hd : 1 ≤ d) {a0 : Option Nat} {h : ah_H} {r : Int32} {h2 : ah_H} (hf : fX0_greatestPicture X.2.2.2 a0 h = some (r, h2)) : hp_rcv h a0 1 = true ∧ Rn X yX0_greatestPicture cX0_greatestPicture 3 (some .int) d [va_rf a0] h (some (.int r)) h2 := by
  unfold fX0_greatestPicture at hf
  by_cases c0 : hp_rcv h a0 1 = false
  · rw [if_pos c0] at hf; cases hf
  rw [if_neg c0] at hf
  refine ⟨(Bool.not_eq_false _).mp c0, ?_⟩
  obtain ⟨d, rfl⟩ : ∃ k, d = k + 1 := ⟨d - 1, by omega⟩
  exact Rn.of2 me_X0_greatestPicture (by simp [lg_sl, rt_cat, cat_i, cat_l]) (ok_i _) (l := [(0, va_rf a0)]) (by simp [lv_args, rt_cat, cat_i, cat_l]) (rX0_greatestPicture_0 (by omega) hf)
noncomputable def bX0_latestHead_31 (E : ah_E) (s0 : Option Nat) (h : ah_H) : Option (Option Nat × ah_H) :=
  some (s0, h)
set_option maxRecDepth 20000 in
set_option maxHeartbeats 4000000 in
theorem rX0_latestHead_31 {X : ah_X} {d : Nat} {s0 : Option Nat} {h : ah_H} {r : Option Nat} {h2 : ah_H} (hf : bX0_latestHead_31 X.2.2.2 s0 h = some (r, h2)) : Rt X yX0_latestHead cX0_latestHead 3 d 31 [] [va_rf s0] h (some (va_rf r)) h2 := by
  unfold bX0_latestHead_31 at hf
  cases hf
  exact rt_ret (pc := 31) (rt_atR _ dX0_latestHead_31) rfl
noncomputable def bX0_latestHead_22 (E : ah_E) (a1 : Option Nat) (a2 : Option Nat) (h : ah_H) : Option (Option Nat × ah_H) :=
  if a1 = none then
    bX0_latestHead_31 E a2 h
  else
  bX0_latestHead_31 E a1 h
set_option maxRecDepth 20000 in
set_option maxHeartbeats 4000000 in
theorem rX0_latestHead_22 {X : ah_X} {d : Nat} {a1 : Option Nat} {a2 : Option Nat} {h : ah_H} {r : Option Nat} {h2 : ah_H} (hf : bX0_latestHead_22 X.2.2.2 a1 a2 h = some (r, h2)) : Rt X yX0_latestHead cX0_latestHead 3 d 22 [(1, va_rf a1), (2, va_rf a2)] [] h (some (va_rf r)) h2 := by
  unfold bX0_latestHead_22 at hf
  refine rt_aload_n (pc := 22) (k0 := 1) (x := a1) 0 rfl dX0_latestHead_22 ?_
  by_cases c1 : a1 = none
  · rw [if_pos c1] at hf
    refine rt_ifnonnull_p (pc := 23) (x := a1) (tgt := 30) (by decide) dX0_latestHead_23 c1 ?_
    refine rt_aload_n (pc := 26) (k0 := 2) (x := a2) 1 rfl dX0_latestHead_26 ?_
    refine rt_goto (pc := 27) (tgt := 31) (by decide) dX0_latestHead_27 ?_
    exact rt_locals (rt_sub [] rfl) (rX0_latestHead_31 hf)
  rw [if_neg c1] at hf
  refine rt_ifnonnull_n (pc := 23) (x := a1) (tgt := 30) (by decide) dX0_latestHead_23 c1 ?_
  refine rt_aload_n (pc := 30) (k0 := 1) (x := a1) 0 rfl dX0_latestHead_30 ?_
  exact rt_locals (rt_sub [] rfl) (rX0_latestHead_31 hf)
noncomputable def bX0_latestHead_48 (E : ah_E) (s0 : Option Nat) (h : ah_H) : Option (Option Nat × ah_H) :=
  some (s0, h)
set_option maxRecDepth 20000 in
set_option maxHeartbeats 4000000 in
theorem rX0_latestHead_48 {X : ah_X} {d : Nat} {s0 : Option Nat} {h : ah_H} {r : Option Nat} {h2 : ah_H} (hf : bX0_latestHead_48 X.2.2.2 s0 h = some (r, h2)) : Rt X yX0_latestHead cX0_latestHead 3 d 48 [] [va_rf s0] h (some (va_rf r)) h2 := by
  unfold bX0_latestHead_48 at hf
  cases hf
  exact rt_ret (pc := 48) (rt_atR _ dX0_latestHead_48) rfl
noncomputable def bX0_latestHead_0 (E : ah_E) (a0 : Option Nat) (h : ah_H) : Option (Option Nat × ah_H) :=
  (hp_gr h a0 1 0).bind fun v1 =>
  (hp_ldq h v1 (0 : Int32)).bind fun v3 =>
  (hp_gr h a0 1 0).bind fun v5 =>
  (hp_ldq h v5 (1 : Int32)).bind fun v7 =>
  if v3 = none then
    bX0_latestHead_22 E v3 v7 h
  else
  if v7 = none then
    bX0_latestHead_22 E v3 v7 h
  else
  (hp_gi h v3 4 0).bind fun v11 =>
  (hp_gi h v7 4 0).bind fun v13 =>
  if v11 ≤ v13 then
    bX0_latestHead_48 E v7 h
  else
  bX0_latestHead_48 E v3 h
set_option maxRecDepth 20000 in
set_option maxHeartbeats 4000000 in
theorem rX0_latestHead_0 {X : ah_X} {d : Nat} {a0 : Option Nat} {h : ah_H} {r : Option Nat} {h2 : ah_H} (hf : bX0_latestHead_0 X.2.2.2 a0 h = some (r, h2)) : Rt X yX0_latestHead cX0_latestHead 3 d 0 [(0, va_rf a0)] [] h (some (va_rf r)) h2 := by
  unfold bX0_latestHead_0 at hf
  refine rt_aload_n (pc := 0) (k0 := 0) (x := a0) 0 rfl dX0_latestHead_0 ?_
  obtain ⟨v1, e2, hf⟩ := ob1 hf
  refine rt_gr (pc := 1) fd_X0_11 dX0_latestHead_1 e2 ?_
  refine rt_iconst (pc := 4) (n := 0) (v := (0 : Int32)) (by decide) dX0_latestHead_4 ?_
  obtain ⟨v3, e4, hf⟩ := ob1 hf
  refine rt_aald (pc := 5) dX0_latestHead_5 e4 ?_
  refine rt_astore_n (pc := 6) (k0 := 1) (x := v3) (l2 := [(1, va_rf v3), (0, va_rf a0)]) (by decide) (by first | rfl | (simp [rt_cat, cat_i, cat_l]; done) | (simp [rt_cat, cat_i, cat_l]; decide)) dX0_latestHead_6 ?_
  refine rt_aload_n (pc := 7) (k0 := 0) (x := a0) 1 rfl dX0_latestHead_7 ?_
  obtain ⟨v5, e6, hf⟩ := ob1 hf
  refine rt_gr (pc := 8) fd_X0_11 dX0_latestHead_8 e6 ?_
  refine rt_iconst (pc := 11) (n := 1) (v := (1 : Int32)) (by decide) dX0_latestHead_11 ?_
  obtain ⟨v7, e8, hf⟩ := ob1 hf
  refine rt_aald (pc := 12) dX0_latestHead_12 e8 ?_
  refine rt_astore_n (pc := 13) (k0 := 2) (x := v7) (l2 := [(2, va_rf v7), (1, va_rf v3), (0, va_rf a0)]) (by decide) (by first | rfl | (simp [rt_cat, cat_i, cat_l]; done) | (simp [rt_cat, cat_i, cat_l]; decide)) dX0_latestHead_13 ?_
  refine rt_aload_n (pc := 14) (k0 := 1) (x := v3) 1 rfl dX0_latestHead_14 ?_
  by_cases c9 : v3 = none
  · rw [if_pos c9] at hf
    refine rt_ifnull_p (pc := 15) (x := v3) (tgt := 22) (by decide) dX0_latestHead_15 c9 ?_
    exact rt_locals (rt_sub [1, 0] rfl) (rX0_latestHead_22 hf)
  rw [if_neg c9] at hf
  refine rt_ifnull_n (pc := 15) (x := v3) (tgt := 22) (by decide) dX0_latestHead_15 c9 ?_
  refine rt_aload_n (pc := 18) (k0 := 2) (x := v7) 0 rfl dX0_latestHead_18 ?_
  by_cases c10 : v7 = none
  · rw [if_pos c10] at hf
    refine rt_ifnonnull_p (pc := 19) (x := v7) (tgt := 32) (by decide) dX0_latestHead_19 c10 ?_
    exact rt_locals (rt_sub [1, 0] rfl) (rX0_latestHead_22 hf)
  rw [if_neg c10] at hf
  refine rt_ifnonnull_n (pc := 19) (x := v7) (tgt := 32) (by decide) dX0_latestHead_19 c10 ?_
  refine rt_aload_n (pc := 32) (k0 := 1) (x := v3) 1 rfl dX0_latestHead_32 ?_
  obtain ⟨v11, e12, hf⟩ := ob1 hf
  refine rt_gi (pc := 33) fd_X0_90 dX0_latestHead_33 e12 ?_
  refine rt_aload_n (pc := 36) (k0 := 2) (x := v7) 0 rfl dX0_latestHead_36 ?_
  obtain ⟨v13, e14, hf⟩ := ob1 hf
  refine rt_gi (pc := 37) fd_X0_90 dX0_latestHead_37 e14 ?_
  by_cases c15 : v11 ≤ v13
  · rw [if_pos c15] at hf
    refine rt_icmp_le_p (pc := 40) (x := v11) (z := v13) (tgt := 47) (by decide) dX0_latestHead_40 c15 ?_
    refine rt_aload_n (pc := 47) (k0 := 2) (x := v7) 0 rfl dX0_latestHead_47 ?_
    exact rt_locals (rt_sub [] rfl) (rX0_latestHead_48 hf)
  rw [if_neg c15] at hf
  refine rt_icmp_le_n (pc := 40) (x := v11) (z := v13) (tgt := 47) (by decide) dX0_latestHead_40 c15 ?_
  refine rt_aload_n (pc := 43) (k0 := 1) (x := v3) 1 rfl dX0_latestHead_43 ?_
  refine rt_goto (pc := 44) (tgt := 48) (by decide) dX0_latestHead_44 ?_
  exact rt_locals (rt_sub [] rfl) (rX0_latestHead_48 hf)
noncomputable def fX0_latestHead (E : ah_E) (a0 : Option Nat) (h : ah_H) : Option (Option Nat × ah_H) := if hp_rcv h a0 1 = false then none else bX0_latestHead_0 E a0 h
set_option maxRecDepth 20000 in
set_option maxHeartbeats 4000000 in
theorem sX0_latestHead {X : ah_X} (d : Nat) (hd : 0 ≤ d) {a0 : Option Nat} {h : ah_H} {r : Option Nat} {h2 : ah_H} (hf : fX0_latestHead X.2.2.2 a0 h = some (r, h2)) : hp_rcv h a0 1 = true ∧ Rn X yX0_latestHead cX0_latestHead 3 (some (.object "LetterTree$Head")) d [va_rf a0] h (some (va_rf r)) h2 := by
  unfold fX0_latestHead at hf
  by_cases c0 : hp_rcv h a0 1 = false
  · rw [if_pos c0] at hf; cases hf
  rw [if_neg c0] at hf
  refine ⟨(Bool.not_eq_false _).mp c0, ?_⟩
  exact Rn.of2 me_X0_latestHead (by simp [lg_sl, rt_cat, cat_i, cat_l]) (ok_o _ _) (l := [(0, va_rf a0)]) (by simp [lv_args, rt_cat, cat_i, cat_l]) (rX0_latestHead_0 hf)
noncomputable def bX8_gather_89 (E : ah_E) (kr : Option Nat → Option Nat → Int32 → ah_H → Option ah_H) : Nat → Option Nat → Option Nat → Int32 → ah_H → Option ah_H
  | 0 => fun _ _ _ _ => none
  | n + 1 => fun a0 a1 a3 h =>
  (hp_gr h a0 6 3).bind fun v1 =>
  ob2 (fJx4a65c_size_8abf5 E v1 h) fun v5 w4 =>
  if v5 ≤ a3 then
    some w4
  else
  (hp_gr w4 a0 6 3).bind fun v8 =>
  ob2 (fJx4a65c_get_915e3 E v8 a3 w4) fun v12 w11 =>
  if hp_cls w11 v12 5 = false then none else
  ob2 (fX1_act E a1 v12 w11) fun v17 w16 =>
  bX8_gather_89 E kr n a0 a1 (a3 + 1) w16
set_option maxRecDepth 20000 in
set_option maxHeartbeats 4000000 in
theorem rX8_gather_89 {X : ah_X} {d : Nat} {dk : Nat} {kr : Option Nat → Option Nat → Int32 → ah_H → Option ah_H} (hkr : ∀ (d : Nat), dk ≤ d → ∀ (x0 : Option Nat) (x1 : Option Nat) (x2 : Int32) (h : ah_H) (h2 : ah_H), kr x0 x1 x2 h = some h2 → Rn X yX8_gather cX8_gather 4 none d [va_rf x0, va_rf x1, .int x2] h none h2) (hd : 6 ≤ d) (hdk : dk + 0 ≤ d) (n : Nat) : ∀ (a0 : Option Nat) (a1 : Option Nat) (a3 : Int32) (h : ah_H) (h2 : ah_H), bX8_gather_89 X.2.2.2 kr n a0 a1 a3 h = some h2 → Rt X yX8_gather cX8_gather 4 (d + 1) 89 [(0, va_rf a0), (1, va_rf a1), (3, .int a3)] [] h none h2 := by
  induction n with
  | zero => intro a0 a1 a3 h h2 hf; cases hf
  | succ n ih =>
  intro a0 a1 a3 h h2 hf
  unfold bX8_gather_89 at hf
  refine rt_iload_n (pc := 89) (k0 := 3) (x := a3) 2 rfl dX8_gather_89 ?_
  refine rt_aload_n (pc := 90) (k0 := 0) (x := a0) 0 rfl dX8_gather_90 ?_
  obtain ⟨v1, e2, hf⟩ := ob1 hf
  refine rt_gr (pc := 91) fd_X8_15 dX8_gather_91 e2 ?_
  obtain ⟨v5, w4, e3, hf⟩ := ob2_of hf
  have g6 := sJx4a65c_size_8abf5 d (by omega) e3
  refine rt_callV (pc := 94) (As := []) (st := [.int a3]) me_Jx4a65c_size_8abf5 mi_Jx4a65c_size_8abf5 wl_X8_46 dX8_gather_94 rfl (by simp [rt_cat, cat_i, cat_l]) rfl g6.1 g6.2 ?_
  by_cases c7 : v5 ≤ a3
  · rw [if_pos c7] at hf
    refine rt_icmp_ge_p (pc := 97) (x := a3) (z := v5) (tgt := 122) (by decide) dX8_gather_97 c7 ?_
    cases hf
    exact rt_ret (pc := 122) dX8_gather_122 rfl
  rw [if_neg c7] at hf
  refine rt_icmp_ge_n (pc := 97) (x := a3) (z := v5) (tgt := 122) (by decide) dX8_gather_97 c7 ?_
  refine rt_aload_n (pc := 100) (k0 := 1) (x := a1) 1 rfl dX8_gather_100 ?_
  refine rt_aload_n (pc := 101) (k0 := 0) (x := a0) 0 rfl dX8_gather_101 ?_
  obtain ⟨v8, e9, hf⟩ := ob1 hf
  refine rt_gr (pc := 102) fd_X8_15 dX8_gather_102 e9 ?_
  refine rt_iload_n (pc := 105) (k0 := 3) (x := a3) 2 rfl dX8_gather_105 ?_
  obtain ⟨v12, w11, e10, hf⟩ := ob2_of hf
  have g13 := sJx4a65c_get_915e3 d (by omega) e10
  refine rt_callV (pc := 106) (As := [.int a3]) (st := [va_rf a1]) me_Jx4a65c_get_915e3 mi_Jx4a65c_get_915e3 wl_X8_56 dX8_gather_106 rfl (by simp [rt_cat, cat_i, cat_l]) rfl g13.1 g13.2 ?_
  by_cases c14 : hp_cls w11 v12 5 = false
  · rw [if_pos c14] at hf; cases hf
  rw [if_neg c14] at hf
  refine rt_cast (pc := 109) (x := v12) (show vwCl[5]? = some (RX4, TX4, 6) from rfl) wc_X8_110 dX8_gather_109 ((Bool.not_eq_false _).mp c14) ?_
  obtain ⟨v17, w16, e15, hf⟩ := ob2_of hf
  have g18 := sX1_act d (by omega) e15
  refine rt_callV (pc := 112) (As := [va_rf v12]) (st := []) me_X1_act mi_X1_act wl_X8_163 dX8_gather_112 rfl (by decide) rfl g18.1 g18.2 ?_
  refine rt_pop (pc := 115) rfl dX8_gather_115 ?_
  refine rt_iinc (pc := 116) (i := 3) (n := 1) (x := a3) (v := (a3 + 1)) (l2 := [(3, .int (a3 + 1)), (0, va_rf a0), (1, va_rf a1)]) 2 rfl rfl (by decide) (by first | rfl | (simp [rt_cat, cat_i, cat_l]; done) | (simp [rt_cat, cat_i, cat_l]; decide)) dX8_gather_116 ?_
  refine rt_goto (pc := 119) (tgt := 89) (by decide) dX8_gather_119 ?_
  exact rt_locals (rt_sub [1, 2, 0] rfl) (ih _ _ _ _ _ hf)
noncomputable def bX8_gather_87 (E : ah_E) (kr : Option Nat → Option Nat → Int32 → ah_H → Option ah_H) (a0 : Option Nat) (a1 : Option Nat) (h : ah_H) : Option ah_H :=
  bX8_gather_89 E kr zf a0 a1 (0 : Int32) h
set_option maxRecDepth 20000 in
set_option maxHeartbeats 4000000 in
theorem rX8_gather_87 {X : ah_X} {d : Nat} {dk : Nat} {kr : Option Nat → Option Nat → Int32 → ah_H → Option ah_H} (hkr : ∀ (d : Nat), dk ≤ d → ∀ (x0 : Option Nat) (x1 : Option Nat) (x2 : Int32) (h : ah_H) (h2 : ah_H), kr x0 x1 x2 h = some h2 → Rn X yX8_gather cX8_gather 4 none d [va_rf x0, va_rf x1, .int x2] h none h2) (hd : 6 ≤ d) (hdk : dk + 0 ≤ d) {a0 : Option Nat} {a1 : Option Nat} {h : ah_H} {h2 : ah_H} (hf : bX8_gather_87 X.2.2.2 kr a0 a1 h = some h2) : Rt X yX8_gather cX8_gather 4 (d + 1) 87 [(0, va_rf a0), (1, va_rf a1)] [] h none h2 := by
  unfold bX8_gather_87 at hf
  refine rt_iconst (pc := 87) (n := 0) (v := (0 : Int32)) (by decide) dX8_gather_87 ?_
  refine rt_istore_n (pc := 88) (k0 := 3) (x := (0 : Int32)) (l2 := [(3, .int (0 : Int32)), (0, va_rf a0), (1, va_rf a1)]) (by decide) (by first | rfl | (simp [rt_cat, cat_i, cat_l]; done) | (simp [rt_cat, cat_i, cat_l]; decide)) dX8_gather_88 ?_
  exact rt_locals (rt_sub [1, 2, 0] rfl) (rX8_gather_89 hkr hd hdk zf _ _ _ _ _ hf)
noncomputable def bX8_gather_46 (E : ah_E) (kr : Option Nat → Option Nat → Int32 → ah_H → Option ah_H) : Nat → Option Nat → Option Nat → Int32 → Int32 → ah_H → Option ah_H
  | 0 => fun _ _ _ _ _ => none
  | n + 1 => fun a0 a1 a2 a3 h =>
  (hp_gr h a0 6 2).bind fun v1 =>
  ob2 (fJx4a65c_size_8abf5 E v1 h) fun v5 w4 =>
  if v5 ≤ a3 then
    bX8_gather_87 E kr a0 a1 w4
  else
  if (40 : Int32) ≤ a2 then
    bX8_gather_87 E kr a0 a1 w4
  else
  (hp_gr w4 a0 6 2).bind fun v9 =>
  ob2 (fJx4a65c_get_915e3 E v9 a3 w4) fun v13 w12 =>
  if hp_cls w12 v13 6 = false then none else
  (kr v13 a1 (a2 + (1 : Int32)) w12).bind fun w17 =>
  bX8_gather_46 E kr n a0 a1 a2 (a3 + 1) w17
set_option maxRecDepth 20000 in
set_option maxHeartbeats 4000000 in
theorem rX8_gather_46 {X : ah_X} {d : Nat} {dk : Nat} {kr : Option Nat → Option Nat → Int32 → ah_H → Option ah_H} (hkr : ∀ (d : Nat), dk ≤ d → ∀ (x0 : Option Nat) (x1 : Option Nat) (x2 : Int32) (h : ah_H) (h2 : ah_H), kr x0 x1 x2 h = some h2 → Rn X yX8_gather cX8_gather 4 none d [va_rf x0, va_rf x1, .int x2] h none h2) (hd : 6 ≤ d) (hdk : dk + 0 ≤ d) (n : Nat) : ∀ (a0 : Option Nat) (a1 : Option Nat) (a2 : Int32) (a3 : Int32) (h : ah_H) (h2 : ah_H), bX8_gather_46 X.2.2.2 kr n a0 a1 a2 a3 h = some h2 → Rt X yX8_gather cX8_gather 4 (d + 1) 46 [(0, va_rf a0), (1, va_rf a1), (2, .int a2), (3, .int a3)] [] h none h2 := by
  induction n with
  | zero => intro a0 a1 a2 a3 h h2 hf; cases hf
  | succ n ih =>
  intro a0 a1 a2 a3 h h2 hf
  unfold bX8_gather_46 at hf
  refine rt_iload_n (pc := 46) (k0 := 3) (x := a3) 3 rfl dX8_gather_46 ?_
  refine rt_aload_n (pc := 47) (k0 := 0) (x := a0) 0 rfl dX8_gather_47 ?_
  obtain ⟨v1, e2, hf⟩ := ob1 hf
  refine rt_gr (pc := 48) fd_X8_53 dX8_gather_48 e2 ?_
  obtain ⟨v5, w4, e3, hf⟩ := ob2_of hf
  have g6 := sJx4a65c_size_8abf5 d (by omega) e3
  refine rt_callV (pc := 51) (As := []) (st := [.int a3]) me_Jx4a65c_size_8abf5 mi_Jx4a65c_size_8abf5 wl_X8_46 dX8_gather_51 rfl (by simp [rt_cat, cat_i, cat_l]) rfl g6.1 g6.2 ?_
  by_cases c7 : v5 ≤ a3
  · rw [if_pos c7] at hf
    refine rt_icmp_ge_p (pc := 54) (x := a3) (z := v5) (tgt := 87) (by decide) dX8_gather_54 c7 ?_
    exact rt_locals (rt_sub [0, 1] rfl) (rX8_gather_87 hkr hd hdk hf)
  rw [if_neg c7] at hf
  refine rt_icmp_ge_n (pc := 54) (x := a3) (z := v5) (tgt := 87) (by decide) dX8_gather_54 c7 ?_
  refine rt_iload_n (pc := 57) (k0 := 2) (x := a2) 2 rfl dX8_gather_57 ?_
  refine rt_bipush (pc := 58) (n := 40) (v := (40 : Int32)) (by decide) dX8_gather_58 ?_
  by_cases c8 : (40 : Int32) ≤ a2
  · rw [if_pos c8] at hf
    refine rt_icmp_ge_p (pc := 60) (x := a2) (z := (40 : Int32)) (tgt := 87) (by decide) dX8_gather_60 c8 ?_
    exact rt_locals (rt_sub [0, 1] rfl) (rX8_gather_87 hkr hd hdk hf)
  rw [if_neg c8] at hf
  refine rt_icmp_ge_n (pc := 60) (x := a2) (z := (40 : Int32)) (tgt := 87) (by decide) dX8_gather_60 c8 ?_
  refine rt_aload_n (pc := 63) (k0 := 0) (x := a0) 0 rfl dX8_gather_63 ?_
  obtain ⟨v9, e10, hf⟩ := ob1 hf
  refine rt_gr (pc := 64) fd_X8_53 dX8_gather_64 e10 ?_
  refine rt_iload_n (pc := 67) (k0 := 3) (x := a3) 3 rfl dX8_gather_67 ?_
  obtain ⟨v13, w12, e11, hf⟩ := ob2_of hf
  have g14 := sJx4a65c_get_915e3 d (by omega) e11
  refine rt_callV (pc := 68) (As := [.int a3]) (st := []) me_Jx4a65c_get_915e3 mi_Jx4a65c_get_915e3 wl_X8_56 dX8_gather_68 rfl (by decide) rfl g14.1 g14.2 ?_
  by_cases c15 : hp_cls w12 v13 6 = false
  · rw [if_pos c15] at hf; cases hf
  rw [if_neg c15] at hf
  refine rt_cast (pc := 71) (x := v13) (show vwCl[6]? = some (RX5, TX5, 5) from rfl) wc_X8_16 dX8_gather_71 ((Bool.not_eq_false _).mp c15) ?_
  refine rt_aload_n (pc := 74) (k0 := 1) (x := a1) 1 rfl dX8_gather_74 ?_
  refine rt_iload_n (pc := 75) (k0 := 2) (x := a2) 2 rfl dX8_gather_75 ?_
  refine rt_iconst (pc := 76) (n := 1) (v := (1 : Int32)) (by decide) dX8_gather_76 ?_
  refine rt_iadd (pc := 77) (x := a2) (z := (1 : Int32)) dX8_gather_77 ?_
  obtain ⟨w17, e16, hf⟩ := ob1 hf
  have g18 := hkr d (by omega) _ _ _ _ _ e16
  refine rt_callS (pc := 78) (As := [va_rf v13, va_rf a1, .int (a2 + (1 : Int32))]) (st := []) me_X8_gather ms_X8_gather wl_X8_159 dX8_gather_78 rfl (by decide) rfl g18 ?_
  refine rt_iinc (pc := 81) (i := 3) (n := 1) (x := a3) (v := (a3 + 1)) (l2 := [(3, .int (a3 + 1)), (0, va_rf a0), (1, va_rf a1), (2, .int a2)]) 3 rfl rfl (by decide) (by first | rfl | (simp [rt_cat, cat_i, cat_l]; done) | (simp [rt_cat, cat_i, cat_l]; decide)) dX8_gather_81 ?_
  refine rt_goto (pc := 84) (tgt := 46) (by decide) dX8_gather_84 ?_
  exact rt_locals (rt_sub [1, 2, 3, 0] rfl) (ih _ _ _ _ _ _ hf)
noncomputable def bX8_gather_2 (E : ah_E) (kr : Option Nat → Option Nat → Int32 → ah_H → Option ah_H) : Nat → Option Nat → Option Nat → Int32 → Int32 → ah_H → Option ah_H
  | 0 => fun _ _ _ _ _ => none
  | n + 1 => fun a0 a1 a2 a3 h =>
  (hp_gr h a0 6 1).bind fun v1 =>
  (hp_gr h v1 2 0).bind fun v3 =>
  ob2 (fJx4a65c_size_8abf5 E v3 h) fun v7 w6 =>
  if v7 ≤ a3 then
    bX8_gather_46 E kr zf a0 a1 a2 (0 : Int32) w6
  else
  (hp_gr w6 a1 2 0).bind fun v10 =>
  (hp_gr w6 a0 6 1).bind fun v12 =>
  (hp_gr w6 v12 2 0).bind fun v14 =>
  ob2 (fJx4a65c_get_915e3 E v14 a3 w6) fun v18 w17 =>
  if hp_cls w17 v18 3 = false then none else
  ob2 (fJx4a65c_add_9ea2d E v10 v18 w17) fun v23 w22 =>
  bX8_gather_2 E kr n a0 a1 a2 (a3 + 1) w22
set_option maxRecDepth 20000 in
set_option maxHeartbeats 4000000 in
theorem rX8_gather_2 {X : ah_X} {d : Nat} {dk : Nat} {kr : Option Nat → Option Nat → Int32 → ah_H → Option ah_H} (hkr : ∀ (d : Nat), dk ≤ d → ∀ (x0 : Option Nat) (x1 : Option Nat) (x2 : Int32) (h : ah_H) (h2 : ah_H), kr x0 x1 x2 h = some h2 → Rn X yX8_gather cX8_gather 4 none d [va_rf x0, va_rf x1, .int x2] h none h2) (hd : 6 ≤ d) (hdk : dk + 0 ≤ d) (n : Nat) : ∀ (a0 : Option Nat) (a1 : Option Nat) (a2 : Int32) (a3 : Int32) (h : ah_H) (h2 : ah_H), bX8_gather_2 X.2.2.2 kr n a0 a1 a2 a3 h = some h2 → Rt X yX8_gather cX8_gather 4 (d + 1) 2 [(0, va_rf a0), (1, va_rf a1), (2, .int a2), (3, .int a3)] [] h none h2 := by
  induction n with
  | zero => intro a0 a1 a2 a3 h h2 hf; cases hf
  | succ n ih =>
  intro a0 a1 a2 a3 h h2 hf
  unfold bX8_gather_2 at hf
  refine rt_iload_n (pc := 2) (k0 := 3) (x := a3) 3 rfl dX8_gather_2 ?_
  refine rt_aload_n (pc := 3) (k0 := 0) (x := a0) 0 rfl dX8_gather_3 ?_
  obtain ⟨v1, e2, hf⟩ := ob1 hf
  refine rt_gr (pc := 4) fd_X8_134 dX8_gather_4 e2 ?_
  obtain ⟨v3, e4, hf⟩ := ob1 hf
  refine rt_gr (pc := 7) fd_X8_154 dX8_gather_7 e4 ?_
  obtain ⟨v7, w6, e5, hf⟩ := ob2_of hf
  have g8 := sJx4a65c_size_8abf5 d (by omega) e5
  refine rt_callV (pc := 10) (As := []) (st := [.int a3]) me_Jx4a65c_size_8abf5 mi_Jx4a65c_size_8abf5 wl_X8_46 dX8_gather_10 rfl (by simp [rt_cat, cat_i, cat_l]) rfl g8.1 g8.2 ?_
  by_cases c9 : v7 ≤ a3
  · rw [if_pos c9] at hf
    refine rt_icmp_ge_p (pc := 13) (x := a3) (z := v7) (tgt := 44) (by decide) dX8_gather_13 c9 ?_
    refine rt_iconst (pc := 44) (n := 0) (v := (0 : Int32)) (by decide) dX8_gather_44 ?_
    refine rt_istore_n (pc := 45) (k0 := 3) (x := (0 : Int32)) (l2 := [(3, .int (0 : Int32)), (0, va_rf a0), (1, va_rf a1), (2, .int a2)]) (by decide) (by first | rfl | (simp [rt_cat, cat_i, cat_l]; done) | (simp [rt_cat, cat_i, cat_l]; decide)) dX8_gather_45 ?_
    exact rt_locals (rt_sub [1, 2, 3, 0] rfl) (rX8_gather_46 hkr hd hdk zf _ _ _ _ _ _ hf)
  rw [if_neg c9] at hf
  refine rt_icmp_ge_n (pc := 13) (x := a3) (z := v7) (tgt := 44) (by decide) dX8_gather_13 c9 ?_
  refine rt_aload_n (pc := 16) (k0 := 1) (x := a1) 1 rfl dX8_gather_16 ?_
  obtain ⟨v10, e11, hf⟩ := ob1 hf
  refine rt_gr (pc := 17) fd_X8_154 dX8_gather_17 e11 ?_
  refine rt_aload_n (pc := 20) (k0 := 0) (x := a0) 0 rfl dX8_gather_20 ?_
  obtain ⟨v12, e13, hf⟩ := ob1 hf
  refine rt_gr (pc := 21) fd_X8_134 dX8_gather_21 e13 ?_
  obtain ⟨v14, e15, hf⟩ := ob1 hf
  refine rt_gr (pc := 24) fd_X8_154 dX8_gather_24 e15 ?_
  refine rt_iload_n (pc := 27) (k0 := 3) (x := a3) 3 rfl dX8_gather_27 ?_
  obtain ⟨v18, w17, e16, hf⟩ := ob2_of hf
  have g19 := sJx4a65c_get_915e3 d (by omega) e16
  refine rt_callV (pc := 28) (As := [.int a3]) (st := [va_rf v10]) me_Jx4a65c_get_915e3 mi_Jx4a65c_get_915e3 wl_X8_56 dX8_gather_28 rfl (by simp [rt_cat, cat_i, cat_l]) rfl g19.1 g19.2 ?_
  by_cases c20 : hp_cls w17 v18 3 = false
  · rw [if_pos c20] at hf; cases hf
  rw [if_neg c20] at hf
  refine rt_cast (pc := 31) (x := v18) (show vwCl[3]? = some (RX2, TX2, 2) from rfl) wc_X8_157 dX8_gather_31 ((Bool.not_eq_false _).mp c20) ?_
  obtain ⟨v23, w22, e21, hf⟩ := ob2_of hf
  have g24 := sJx4a65c_add_9ea2d d (by omega) e21
  refine rt_callV (pc := 34) (As := [va_rf v18]) (st := []) me_Jx4a65c_add_9ea2d mi_Jx4a65c_add_9ea2d wl_X8_96 dX8_gather_34 rfl (by decide) rfl g24.1 g24.2 ?_
  refine rt_pop (pc := 37) rfl dX8_gather_37 ?_
  refine rt_iinc (pc := 38) (i := 3) (n := 1) (x := a3) (v := (a3 + 1)) (l2 := [(3, .int (a3 + 1)), (0, va_rf a0), (1, va_rf a1), (2, .int a2)]) 3 rfl rfl (by decide) (by first | rfl | (simp [rt_cat, cat_i, cat_l]; done) | (simp [rt_cat, cat_i, cat_l]; decide)) dX8_gather_38 ?_
  refine rt_goto (pc := 41) (tgt := 2) (by decide) dX8_gather_41 ?_
  exact rt_locals (rt_sub [1, 2, 3, 0] rfl) (ih _ _ _ _ _ _ hf)
noncomputable def bX8_gather_0 (E : ah_E) (kr : Option Nat → Option Nat → Int32 → ah_H → Option ah_H) (a0 : Option Nat) (a1 : Option Nat) (a2 : Int32) (h : ah_H) : Option ah_H :=
  bX8_gather_2 E kr zf a0 a1 a2 (0 : Int32) h
set_option maxRecDepth 20000 in
set_option maxHeartbeats 4000000 in
theorem rX8_gather_0 {X : ah_X} {d : Nat} {dk : Nat} {kr : Option Nat → Option Nat → Int32 → ah_H → Option ah_H} (hkr : ∀ (d : Nat), dk ≤ d → ∀ (x0 : Option Nat) (x1 : Option Nat) (x2 : Int32) (h : ah_H) (h2 : ah_H), kr x0 x1 x2 h = some h2 → Rn X yX8_gather cX8_gather 4 none d [va_rf x0, va_rf x1, .int x2] h none h2) (hd : 6 ≤ d) (hdk : dk + 0 ≤ d) {a0 : Option Nat} {a1 : Option Nat} {a2 : Int32} {h : ah_H} {h2 : ah_H} (hf : bX8_gather_0 X.2.2.2 kr a0 a1 a2 h = some h2) : Rt X yX8_gather cX8_gather 4 (d + 1) 0 [(0, va_rf a0), (1, va_rf a1), (2, .int a2)] [] h none h2 := by
  unfold bX8_gather_0 at hf
  refine rt_iconst (pc := 0) (n := 0) (v := (0 : Int32)) (by decide) dX8_gather_0 ?_
  refine rt_istore_n (pc := 1) (k0 := 3) (x := (0 : Int32)) (l2 := [(3, .int (0 : Int32)), (0, va_rf a0), (1, va_rf a1), (2, .int a2)]) (by decide) (by first | rfl | (simp [rt_cat, cat_i, cat_l]; done) | (simp [rt_cat, cat_i, cat_l]; decide)) dX8_gather_1 ?_
  exact rt_locals (rt_sub [1, 2, 3, 0] rfl) (rX8_gather_2 hkr hd hdk zf _ _ _ _ _ _ hf)
noncomputable def gX8_gather (E : ah_E) (kr : Option Nat → Option Nat → Int32 → ah_H → Option ah_H) (a0 : Option Nat) (a1 : Option Nat) (a2 : Int32) (h : ah_H) : Option ah_H := bX8_gather_0 E kr a0 a1 a2 h
set_option maxRecDepth 20000 in
set_option maxHeartbeats 4000000 in
theorem tX8_gather {X : ah_X} {dk : Nat} {kr : Option Nat → Option Nat → Int32 → ah_H → Option ah_H} (hkr : ∀ (d : Nat), dk ≤ d → ∀ (x0 : Option Nat) (x1 : Option Nat) (x2 : Int32) (h : ah_H) (h2 : ah_H), kr x0 x1 x2 h = some h2 → Rn X yX8_gather cX8_gather 4 none d [va_rf x0, va_rf x1, .int x2] h none h2) (d : Nat) (hdk : dk + 1 ≤ d) (hd : 7 ≤ d) {a0 : Option Nat} {a1 : Option Nat} {a2 : Int32} {h : ah_H} {h2 : ah_H} (hf : gX8_gather X.2.2.2 kr a0 a1 a2 h = some h2) : Rn X yX8_gather cX8_gather 4 none d [va_rf a0, va_rf a1, .int a2] h none h2 := by
  unfold gX8_gather at hf
  obtain ⟨d, rfl⟩ : ∃ k, d = k + 1 := ⟨d - 1, by omega⟩
  exact Rn.of2 me_X8_gather (by simp [lg_sl, rt_cat, cat_i, cat_l]) rfl (l := [(0, va_rf a0), (1, va_rf a1), (2, .int a2)]) (by simp [lv_args, rt_cat, cat_i, cat_l]) (rX8_gather_0 hkr (by omega) (by omega) hf)
noncomputable def fX8_gather (E : ah_E) : Nat → Option Nat → Option Nat → Int32 → ah_H → Option ah_H
  | 0 => fun _ _ _ _ => none
  | n + 1 => fun a0 a1 a2 h => gX8_gather E (fX8_gather E n) a0 a1 a2 h
set_option maxRecDepth 20000 in
set_option maxHeartbeats 4000000 in
theorem sX8_gather {X : ah_X} (n : Nat) : ∀ (d : Nat), 7 + 1 * n ≤ d → ∀ (a0 : Option Nat) (a1 : Option Nat) (a2 : Int32) (h : ah_H) (h2 : ah_H), fX8_gather X.2.2.2 n a0 a1 a2 h = some h2 → Rn X yX8_gather cX8_gather 4 none d [va_rf a0, va_rf a1, .int a2] h none h2 := by
  induction n with
  | zero => intro d hd a0 a1 a2 h h2 hf; cases hf
  | succ n ih =>
    intro d hd a0 a1 a2 h h2 hf
    exact tX8_gather (dk := 7 + 1 * n) ih d (by omega) (by omega) hf
noncomputable def bX8_settleBelow_171 (E : ah_E) (kr : Option Nat → Int32 → ah_H → Option (Int32 × ah_H)) (a2 : Int32) (h : ah_H) : Option (Int32 × ah_H) :=
  some (a2, h)
set_option maxRecDepth 20000 in
set_option maxHeartbeats 4000000 in
theorem rX8_settleBelow_171 {X : ah_X} {d : Nat} {dk : Nat} {kr : Option Nat → Int32 → ah_H → Option (Int32 × ah_H)} (hkr : ∀ (d : Nat), dk ≤ d → ∀ (x0 : Option Nat) (x1 : Int32) (h : ah_H) (r : Int32) (h2 : ah_H), kr x0 x1 h = some (r, h2) → Rn X yX8_settleBelow cX8_settleBelow 8 (some .int) d [va_rf x0, .int x1] h (some (.int r)) h2) (hd : 102 ≤ d) (hdk : dk + 0 ≤ d) {a2 : Int32} {h : ah_H} {r : Int32} {h2 : ah_H} (hf : bX8_settleBelow_171 X.2.2.2 kr a2 h = some (r, h2)) : Rt X yX8_settleBelow cX8_settleBelow 8 (d + 1) 171 [(2, .int a2)] [] h (some (.int r)) h2 := by
  unfold bX8_settleBelow_171 at hf
  refine rt_iload_n (pc := 171) (k0 := 2) (x := a2) 0 rfl dX8_settleBelow_171 ?_
  cases hf
  exact rt_ret (pc := 172) dX8_settleBelow_172 rfl
noncomputable def bX8_settleBelow_165 (E : ah_E) (kr : Option Nat → Int32 → ah_H → Option (Int32 × ah_H)) (k65 : Option Nat → Int32 → Int32 → Int32 → Int32 → ah_H → Option (Int32 × ah_H)) (a0 : Option Nat) (a1 : Int32) (a2 : Int32) (a4 : Int32) (a5 : Int32) (h : ah_H) : Option (Int32 × ah_H) :=
  k65 a0 a1 a2 a4 (a5 + 1) h
set_option maxRecDepth 20000 in
set_option maxHeartbeats 4000000 in
theorem rX8_settleBelow_165 {X : ah_X} {d : Nat} {dk : Nat} {kr : Option Nat → Int32 → ah_H → Option (Int32 × ah_H)} (hkr : ∀ (d : Nat), dk ≤ d → ∀ (x0 : Option Nat) (x1 : Int32) (h : ah_H) (r : Int32) (h2 : ah_H), kr x0 x1 h = some (r, h2) → Rn X yX8_settleBelow cX8_settleBelow 8 (some .int) d [va_rf x0, .int x1] h (some (.int r)) h2) (hd : 102 ≤ d) (hdk : dk + 0 ≤ d) {k65 : Option Nat → Int32 → Int32 → Int32 → Int32 → ah_H → Option (Int32 × ah_H)} (hk65 : ∀ (x0 : Option Nat) (x1 : Int32) (x2 : Int32) (x3 : Int32) (x4 : Int32) (h : ah_H) (r : Int32) (h2 : ah_H), k65 x0 x1 x2 x3 x4 h = some (r, h2) → Rt X yX8_settleBelow cX8_settleBelow 8 (d + 1) 65 [(0, va_rf x0), (1, .int x1), (2, .int x2), (4, .int x3), (5, .int x4)] [] h (some (.int r)) h2) {a0 : Option Nat} {a1 : Int32} {a2 : Int32} {a4 : Int32} {a5 : Int32} {h : ah_H} {r : Int32} {h2 : ah_H} (hf : bX8_settleBelow_165 X.2.2.2 kr k65 a0 a1 a2 a4 a5 h = some (r, h2)) : Rt X yX8_settleBelow cX8_settleBelow 8 (d + 1) 165 [(0, va_rf a0), (1, .int a1), (2, .int a2), (4, .int a4), (5, .int a5)] [] h (some (.int r)) h2 := by
  unfold bX8_settleBelow_165 at hf
  refine rt_iinc (pc := 165) (i := 5) (n := 1) (x := a5) (v := (a5 + 1)) (l2 := [(5, .int (a5 + 1)), (0, va_rf a0), (1, .int a1), (2, .int a2), (4, .int a4)]) 4 rfl rfl (by decide) (by first | rfl | (simp [rt_cat, cat_i, cat_l]; done) | (simp [rt_cat, cat_i, cat_l]; decide)) dX8_settleBelow_165 ?_
  refine rt_goto (pc := 168) (tgt := 65) (by decide) dX8_settleBelow_168 ?_
  exact rt_locals (rt_sub [1, 2, 3, 4, 0] rfl) (hk65 _ _ _ _ _ _ _ _ hf)
noncomputable def bX8_settleBelow_152 (E : ah_E) (kr : Option Nat → Int32 → ah_H → Option (Int32 × ah_H)) (k65 : Option Nat → Int32 → Int32 → Int32 → Int32 → ah_H → Option (Int32 × ah_H)) (a0 : Option Nat) (a1 : Int32) (a2 : Int32) (a4 : Int32) (a5 : Int32) (a7 : Int32) (h : ah_H) : Option (Int32 × ah_H) :=
  if a7 = 0 then
    bX8_settleBelow_165 E kr k65 a0 a1 (a2 + a7) (a4 + 1) a5 h
  else
  bX8_settleBelow_165 E kr k65 a0 a1 (a2 + a7) a4 a5 h
set_option maxRecDepth 20000 in
set_option maxHeartbeats 4000000 in
theorem rX8_settleBelow_152 {X : ah_X} {d : Nat} {dk : Nat} {kr : Option Nat → Int32 → ah_H → Option (Int32 × ah_H)} (hkr : ∀ (d : Nat), dk ≤ d → ∀ (x0 : Option Nat) (x1 : Int32) (h : ah_H) (r : Int32) (h2 : ah_H), kr x0 x1 h = some (r, h2) → Rn X yX8_settleBelow cX8_settleBelow 8 (some .int) d [va_rf x0, .int x1] h (some (.int r)) h2) (hd : 102 ≤ d) (hdk : dk + 0 ≤ d) {k65 : Option Nat → Int32 → Int32 → Int32 → Int32 → ah_H → Option (Int32 × ah_H)} (hk65 : ∀ (x0 : Option Nat) (x1 : Int32) (x2 : Int32) (x3 : Int32) (x4 : Int32) (h : ah_H) (r : Int32) (h2 : ah_H), k65 x0 x1 x2 x3 x4 h = some (r, h2) → Rt X yX8_settleBelow cX8_settleBelow 8 (d + 1) 65 [(0, va_rf x0), (1, .int x1), (2, .int x2), (4, .int x3), (5, .int x4)] [] h (some (.int r)) h2) {a0 : Option Nat} {a1 : Int32} {a2 : Int32} {a4 : Int32} {a5 : Int32} {a7 : Int32} {h : ah_H} {r : Int32} {h2 : ah_H} (hf : bX8_settleBelow_152 X.2.2.2 kr k65 a0 a1 a2 a4 a5 a7 h = some (r, h2)) : Rt X yX8_settleBelow cX8_settleBelow 8 (d + 1) 152 [(0, va_rf a0), (1, .int a1), (2, .int a2), (4, .int a4), (5, .int a5), (7, .int a7)] [] h (some (.int r)) h2 := by
  unfold bX8_settleBelow_152 at hf
  refine rt_iload_n (pc := 152) (k0 := 2) (x := a2) 2 rfl dX8_settleBelow_152 ?_
  refine rt_iload (pc := 153) (i := 7) (x := a7) 5 rfl dX8_settleBelow_153 ?_
  refine rt_iadd (pc := 155) (x := a2) (z := a7) dX8_settleBelow_155 ?_
  refine rt_istore_n (pc := 156) (k0 := 2) (x := (a2 + a7)) (l2 := [(2, .int (a2 + a7)), (0, va_rf a0), (1, .int a1), (4, .int a4), (5, .int a5), (7, .int a7)]) (by decide) (by first | rfl | (simp [rt_cat, cat_i, cat_l]; done) | (simp [rt_cat, cat_i, cat_l]; decide)) dX8_settleBelow_156 ?_
  refine rt_iload (pc := 157) (i := 7) (x := a7) 5 rfl dX8_settleBelow_157 ?_
  by_cases c1 : a7 = 0
  · rw [if_pos c1] at hf
    refine rt_if_ne_p (pc := 159) (x := a7) (tgt := 165) (by decide) dX8_settleBelow_159 c1 ?_
    refine rt_iinc (pc := 162) (i := 4) (n := 1) (x := a4) (v := (a4 + 1)) (l2 := [(4, .int (a4 + 1)), (2, .int (a2 + a7)), (0, va_rf a0), (1, .int a1), (5, .int a5), (7, .int a7)]) 3 rfl rfl (by decide) (by first | rfl | (simp [rt_cat, cat_i, cat_l]; done) | (simp [rt_cat, cat_i, cat_l]; decide)) dX8_settleBelow_162 ?_
    exact rt_locals (rt_sub [2, 3, 1, 0, 4] rfl) (rX8_settleBelow_165 hkr hd hdk hk65 hf)
  rw [if_neg c1] at hf
  refine rt_if_ne_n (pc := 159) (x := a7) (tgt := 165) (by decide) dX8_settleBelow_159 c1 ?_
  exact rt_locals (rt_sub [1, 2, 0, 3, 4] rfl) (rX8_settleBelow_165 hkr hd hdk hk65 hf)
noncomputable def bX8_settleBelow_65 (E : ah_E) (kr : Option Nat → Int32 → ah_H → Option (Int32 × ah_H)) : Nat → Option Nat → Int32 → Int32 → Int32 → Int32 → ah_H → Option (Int32 × ah_H)
  | 0 => fun _ _ _ _ _ _ => none
  | n + 1 => fun a0 a1 a2 a4 a5 h =>
  if (1000000 : Int32) ≤ a5 then
    bX8_settleBelow_171 E kr a2 h
  else
  (hp_gr h a0 6 2).bind fun v2 =>
  ob2 (fJx4a65c_size_8abf5 E v2 h) fun v6 w5 =>
  if v6 ≤ a4 then
    bX8_settleBelow_171 E kr a2 w5
  else
  ob2 (fX5_isTooBig E a0 w5) fun v11 w10 =>
  if v11 = 0 then
    (hp_gr w10 a0 6 2).bind fun v14 =>
    ob2 (fJx4a65c_get_915e3 E v14 a4 w10) fun v18 w17 =>
    if hp_cls w17 v18 6 = false then none else
    ob2 (fX8_lettersIn E zd v18 (0 : Int32) w17) fun v23 w22 =>
    if v23 ≤ 0 then
      bX8_settleBelow_152 E kr (bX8_settleBelow_65 E kr n) a0 a1 a2 a4 a5 (0 : Int32) w22
    else
    ob2 (fX5_opened E v18 w22) fun v28 w27 =>
    (hp_gr w27 a0 6 2).bind fun v30 =>
    ob2 (fJx4a65c_set_bcc79 E v30 a4 v28 w27) fun v34 w33 =>
    ob2 (kr v28 (a1 + (1 : Int32)) w33) fun v38 w37 =>
    (fX5_partKid E a0 a4 w37).bind fun w41 =>
    bX8_settleBelow_152 E kr (bX8_settleBelow_65 E kr n) a0 a1 a2 a4 a5 v38 w41
  else
  bX8_settleBelow_171 E kr a2 w10
set_option maxRecDepth 20000 in
set_option maxHeartbeats 4000000 in
theorem rX8_settleBelow_65 {X : ah_X} {d : Nat} {dk : Nat} {kr : Option Nat → Int32 → ah_H → Option (Int32 × ah_H)} (hkr : ∀ (d : Nat), dk ≤ d → ∀ (x0 : Option Nat) (x1 : Int32) (h : ah_H) (r : Int32) (h2 : ah_H), kr x0 x1 h = some (r, h2) → Rn X yX8_settleBelow cX8_settleBelow 8 (some .int) d [va_rf x0, .int x1] h (some (.int r)) h2) (hd : 102 ≤ d) (hdk : dk + 0 ≤ d) (n : Nat) : ∀ (a0 : Option Nat) (a1 : Int32) (a2 : Int32) (a4 : Int32) (a5 : Int32) (h : ah_H) (r : Int32) (h2 : ah_H), bX8_settleBelow_65 X.2.2.2 kr n a0 a1 a2 a4 a5 h = some (r, h2) → Rt X yX8_settleBelow cX8_settleBelow 8 (d + 1) 65 [(0, va_rf a0), (1, .int a1), (2, .int a2), (4, .int a4), (5, .int a5)] [] h (some (.int r)) h2 := by
  induction n with
  | zero => intro a0 a1 a2 a4 a5 h r h2 hf; cases hf
  | succ n ih =>
  intro a0 a1 a2 a4 a5 h r h2 hf
  unfold bX8_settleBelow_65 at hf
  refine rt_iload (pc := 65) (i := 5) (x := a5) 4 rfl dX8_settleBelow_65 ?_
  refine rt_ldc (pc := 67) wk_X8_100 dX8_settleBelow_67 ?_
  by_cases c1 : (1000000 : Int32) ≤ a5
  · rw [if_pos c1] at hf
    refine rt_icmp_ge_p (pc := 69) (x := a5) (z := (1000000 : Int32)) (tgt := 171) (by decide) dX8_settleBelow_69 c1 ?_
    exact rt_locals (rt_sub [2] rfl) (rX8_settleBelow_171 hkr hd hdk hf)
  rw [if_neg c1] at hf
  refine rt_icmp_ge_n (pc := 69) (x := a5) (z := (1000000 : Int32)) (tgt := 171) (by decide) dX8_settleBelow_69 c1 ?_
  refine rt_iload (pc := 72) (i := 4) (x := a4) 3 rfl dX8_settleBelow_72 ?_
  refine rt_aload_n (pc := 74) (k0 := 0) (x := a0) 0 rfl dX8_settleBelow_74 ?_
  obtain ⟨v2, e3, hf⟩ := ob1 hf
  refine rt_gr (pc := 75) fd_X8_53 dX8_settleBelow_75 e3 ?_
  obtain ⟨v6, w5, e4, hf⟩ := ob2_of hf
  have g7 := sJx4a65c_size_8abf5 d (by omega) e4
  refine rt_callV (pc := 78) (As := []) (st := [.int a4]) me_Jx4a65c_size_8abf5 mi_Jx4a65c_size_8abf5 wl_X8_46 dX8_settleBelow_78 rfl (by simp [rt_cat, cat_i, cat_l]) rfl g7.1 g7.2 ?_
  by_cases c8 : v6 ≤ a4
  · rw [if_pos c8] at hf
    refine rt_icmp_ge_p (pc := 81) (x := a4) (z := v6) (tgt := 171) (by decide) dX8_settleBelow_81 c8 ?_
    exact rt_locals (rt_sub [2] rfl) (rX8_settleBelow_171 hkr hd hdk hf)
  rw [if_neg c8] at hf
  refine rt_icmp_ge_n (pc := 81) (x := a4) (z := v6) (tgt := 171) (by decide) dX8_settleBelow_81 c8 ?_
  refine rt_aload_n (pc := 84) (k0 := 0) (x := a0) 0 rfl dX8_settleBelow_84 ?_
  obtain ⟨v11, w10, e9, hf⟩ := ob2_of hf
  have g12 := sX5_isTooBig d (by omega) e9
  refine rt_callV (pc := 85) (As := []) (st := []) me_X5_isTooBig mi_X5_isTooBig wl_X8_85 dX8_settleBelow_85 rfl (by decide) rfl g12.1 g12.2 ?_
  by_cases c13 : v11 = 0
  · rw [if_pos c13] at hf
    refine rt_if_ne_p (pc := 88) (x := v11) (tgt := 171) (by decide) dX8_settleBelow_88 c13 ?_
    refine rt_aload_n (pc := 91) (k0 := 0) (x := a0) 0 rfl dX8_settleBelow_91 ?_
    obtain ⟨v14, e15, hf⟩ := ob1 hf
    refine rt_gr (pc := 92) fd_X8_53 dX8_settleBelow_92 e15 ?_
    refine rt_iload (pc := 95) (i := 4) (x := a4) 3 rfl dX8_settleBelow_95 ?_
    obtain ⟨v18, w17, e16, hf⟩ := ob2_of hf
    have g19 := sJx4a65c_get_915e3 d (by omega) e16
    refine rt_callV (pc := 97) (As := [.int a4]) (st := []) me_Jx4a65c_get_915e3 mi_Jx4a65c_get_915e3 wl_X8_56 dX8_settleBelow_97 rfl (by decide) rfl g19.1 g19.2 ?_
    by_cases c20 : hp_cls w17 v18 6 = false
    · rw [if_pos c20] at hf; cases hf
    rw [if_neg c20] at hf
    refine rt_cast (pc := 100) (x := v18) (show vwCl[6]? = some (RX5, TX5, 5) from rfl) wc_X8_16 dX8_settleBelow_100 ((Bool.not_eq_false _).mp c20) ?_
    refine rt_astore (pc := 103) (i := 6) (x := v18) (l2 := [(6, va_rf v18), (0, va_rf a0), (1, .int a1), (2, .int a2), (4, .int a4), (5, .int a5)]) (by decide) (by first | rfl | (simp [rt_cat, cat_i, cat_l]; done) | (simp [rt_cat, cat_i, cat_l]; decide)) dX8_settleBelow_103 ?_
    refine rt_iconst (pc := 105) (n := 0) (v := (0 : Int32)) (by decide) dX8_settleBelow_105 ?_
    refine rt_istore (pc := 106) (i := 7) (x := (0 : Int32)) (l2 := [(7, .int (0 : Int32)), (6, va_rf v18), (0, va_rf a0), (1, .int a1), (2, .int a2), (4, .int a4), (5, .int a5)]) (by decide) (by first | rfl | (simp [rt_cat, cat_i, cat_l]; done) | (simp [rt_cat, cat_i, cat_l]; decide)) dX8_settleBelow_106 ?_
    refine rt_aload (pc := 108) (i := 6) (x := v18) 1 rfl dX8_settleBelow_108 ?_
    refine rt_iconst (pc := 110) (n := 0) (v := (0 : Int32)) (by decide) dX8_settleBelow_110 ?_
    obtain ⟨v23, w22, e21, hf⟩ := ob2_of hf
    have g24 := sX8_lettersIn zd d (by unfold zd; omega) _ _ _ _ _ e21
    refine rt_callS (pc := 111) (As := [va_rf v18, .int (0 : Int32)]) (st := []) me_X8_lettersIn ms_X8_lettersIn wl_X8_101 dX8_settleBelow_111 rfl (by decide) rfl g24 ?_
    by_cases c25 : v23 ≤ 0
    · rw [if_pos c25] at hf
      refine rt_if_le_p (pc := 114) (x := v23) (tgt := 152) (by decide) dX8_settleBelow_114 c25 ?_
      exact rt_locals (rt_sub [2, 3, 4, 5, 6, 0] rfl) (rX8_settleBelow_152 hkr hd hdk ih hf)
    rw [if_neg c25] at hf
    refine rt_if_le_n (pc := 114) (x := v23) (tgt := 152) (by decide) dX8_settleBelow_114 c25 ?_
    refine rt_aload (pc := 117) (i := 6) (x := v18) 1 rfl dX8_settleBelow_117 ?_
    obtain ⟨v28, w27, e26, hf⟩ := ob2_of hf
    have g29 := sX5_opened d (by omega) e26
    refine rt_callV (pc := 119) (As := []) (st := []) me_X5_opened mi_X5_opened wl_X8_27 dX8_settleBelow_119 rfl (by decide) rfl g29.1 g29.2 ?_
    refine rt_astore (pc := 122) (i := 6) (x := v28) (l2 := [(6, va_rf v28), (7, .int (0 : Int32)), (0, va_rf a0), (1, .int a1), (2, .int a2), (4, .int a4), (5, .int a5)]) (by decide) (by first | rfl | (simp [rt_cat, cat_i, cat_l]; done) | (simp [rt_cat, cat_i, cat_l]; decide)) dX8_settleBelow_122 ?_
    refine rt_aload_n (pc := 124) (k0 := 0) (x := a0) 2 rfl dX8_settleBelow_124 ?_
    obtain ⟨v30, e31, hf⟩ := ob1 hf
    refine rt_gr (pc := 125) fd_X8_53 dX8_settleBelow_125 e31 ?_
    refine rt_iload (pc := 128) (i := 4) (x := a4) 5 rfl dX8_settleBelow_128 ?_
    refine rt_aload (pc := 130) (i := 6) (x := v28) 0 rfl dX8_settleBelow_130 ?_
    obtain ⟨v34, w33, e32, hf⟩ := ob2_of hf
    have g35 := sJx4a65c_set_bcc79 d (by omega) e32
    refine rt_callV (pc := 132) (As := [.int a4, va_rf v28]) (st := []) me_Jx4a65c_set_bcc79 mi_Jx4a65c_set_bcc79 wl_X8_77 dX8_settleBelow_132 rfl (by decide) rfl g35.1 g35.2 ?_
    refine rt_pop (pc := 135) (rt_cat _) dX8_settleBelow_135 ?_
    refine rt_aload (pc := 136) (i := 6) (x := v28) 0 rfl dX8_settleBelow_136 ?_
    refine rt_iload_n (pc := 138) (k0 := 1) (x := a1) 3 rfl dX8_settleBelow_138 ?_
    refine rt_iconst (pc := 139) (n := 1) (v := (1 : Int32)) (by decide) dX8_settleBelow_139 ?_
    refine rt_iadd (pc := 140) (x := a1) (z := (1 : Int32)) dX8_settleBelow_140 ?_
    obtain ⟨v38, w37, e36, hf⟩ := ob2_of hf
    have g39 := hkr d (by omega) _ _ _ _ _ e36
    refine rt_callS (pc := 141) (As := [va_rf v28, .int (a1 + (1 : Int32))]) (st := []) me_X8_settleBelow ms_X8_settleBelow wl_X8_104 dX8_settleBelow_141 rfl (by decide) rfl g39 ?_
    refine rt_istore (pc := 144) (i := 7) (x := v38) (l2 := [(7, .int v38), (6, va_rf v28), (0, va_rf a0), (1, .int a1), (2, .int a2), (4, .int a4), (5, .int a5)]) (by decide) (by first | rfl | (simp [rt_cat, cat_i, cat_l]; done) | (simp [rt_cat, cat_i, cat_l]; decide)) dX8_settleBelow_144 ?_
    refine rt_aload_n (pc := 146) (k0 := 0) (x := a0) 2 rfl dX8_settleBelow_146 ?_
    refine rt_iload (pc := 147) (i := 4) (x := a4) 5 rfl dX8_settleBelow_147 ?_
    obtain ⟨w41, e40, hf⟩ := ob1 hf
    have g42 := sX5_partKid d (by omega) e40
    refine rt_callV (pc := 149) (As := [.int a4]) (st := []) me_X5_partKid mi_X5_partKid wl_X8_81 dX8_settleBelow_149 rfl (by decide) rfl g42.1 g42.2 ?_
    exact rt_locals (rt_sub [2, 3, 4, 5, 6, 0] rfl) (rX8_settleBelow_152 hkr hd hdk ih hf)
  rw [if_neg c13] at hf
  refine rt_if_ne_n (pc := 88) (x := v11) (tgt := 171) (by decide) dX8_settleBelow_88 c13 ?_
  exact rt_locals (rt_sub [2] rfl) (rX8_settleBelow_171 hkr hd hdk hf)
noncomputable def bX8_settleBelow_59 (E : ah_E) (kr : Option Nat → Int32 → ah_H → Option (Int32 × ah_H)) (a0 : Option Nat) (a1 : Int32) (a2 : Int32) (h : ah_H) : Option (Int32 × ah_H) :=
  bX8_settleBelow_65 E kr zf a0 a1 a2 (0 : Int32) (0 : Int32) h
set_option maxRecDepth 20000 in
set_option maxHeartbeats 4000000 in
theorem rX8_settleBelow_59 {X : ah_X} {d : Nat} {dk : Nat} {kr : Option Nat → Int32 → ah_H → Option (Int32 × ah_H)} (hkr : ∀ (d : Nat), dk ≤ d → ∀ (x0 : Option Nat) (x1 : Int32) (h : ah_H) (r : Int32) (h2 : ah_H), kr x0 x1 h = some (r, h2) → Rn X yX8_settleBelow cX8_settleBelow 8 (some .int) d [va_rf x0, .int x1] h (some (.int r)) h2) (hd : 102 ≤ d) (hdk : dk + 0 ≤ d) {a0 : Option Nat} {a1 : Int32} {a2 : Int32} {h : ah_H} {r : Int32} {h2 : ah_H} (hf : bX8_settleBelow_59 X.2.2.2 kr a0 a1 a2 h = some (r, h2)) : Rt X yX8_settleBelow cX8_settleBelow 8 (d + 1) 59 [(0, va_rf a0), (1, .int a1), (2, .int a2)] [] h (some (.int r)) h2 := by
  unfold bX8_settleBelow_59 at hf
  refine rt_iconst (pc := 59) (n := 0) (v := (0 : Int32)) (by decide) dX8_settleBelow_59 ?_
  refine rt_istore (pc := 60) (i := 4) (x := (0 : Int32)) (l2 := [(4, .int (0 : Int32)), (0, va_rf a0), (1, .int a1), (2, .int a2)]) (by decide) (by first | rfl | (simp [rt_cat, cat_i, cat_l]; done) | (simp [rt_cat, cat_i, cat_l]; decide)) dX8_settleBelow_60 ?_
  refine rt_iconst (pc := 62) (n := 0) (v := (0 : Int32)) (by decide) dX8_settleBelow_62 ?_
  refine rt_istore (pc := 63) (i := 5) (x := (0 : Int32)) (l2 := [(5, .int (0 : Int32)), (4, .int (0 : Int32)), (0, va_rf a0), (1, .int a1), (2, .int a2)]) (by decide) (by first | rfl | (simp [rt_cat, cat_i, cat_l]; done) | (simp [rt_cat, cat_i, cat_l]; decide)) dX8_settleBelow_63 ?_
  exact rt_locals (rt_sub [2, 3, 4, 1, 0] rfl) (rX8_settleBelow_65 hkr hd hdk zf _ _ _ _ _ _ _ _ hf)
noncomputable def bX8_settleBelow_21 (E : ah_E) (kr : Option Nat → Int32 → ah_H → Option (Int32 × ah_H)) : Nat → Option Nat → Int32 → Int32 → Int32 → Int32 → ah_H → Option (Int32 × ah_H)
  | 0 => fun _ _ _ _ _ _ => none
  | n + 1 => fun a0 a1 a2 a3 a4 h =>
  if a3 ≤ a4 then
    bX8_settleBelow_59 E kr a0 a1 a2 h
  else
  (hp_gr h a0 6 3).bind fun v2 =>
  ob2 (fJx4a65c_isEmpty_aae02 E v2 h) fun v6 w5 =>
  if v6 = 0 then
    ob2 (fX5_isTooBig E a0 w5) fun v11 w10 =>
    if v11 = 0 then
      ob2 (fX8_sinkPage E (fX8_give E zd) a0 a1 w10) fun v16 w15 =>
      bX8_settleBelow_21 E kr n a0 a1 (a2 + 1) a3 (a4 + 1) w15
    else
    bX8_settleBelow_59 E kr a0 a1 a2 w10
  else
  bX8_settleBelow_59 E kr a0 a1 a2 w5
set_option maxRecDepth 20000 in
set_option maxHeartbeats 4000000 in
theorem rX8_settleBelow_21 {X : ah_X} {d : Nat} {dk : Nat} {kr : Option Nat → Int32 → ah_H → Option (Int32 × ah_H)} (hkr : ∀ (d : Nat), dk ≤ d → ∀ (x0 : Option Nat) (x1 : Int32) (h : ah_H) (r : Int32) (h2 : ah_H), kr x0 x1 h = some (r, h2) → Rn X yX8_settleBelow cX8_settleBelow 8 (some .int) d [va_rf x0, .int x1] h (some (.int r)) h2) (hd : 102 ≤ d) (hdk : dk + 0 ≤ d) (n : Nat) : ∀ (a0 : Option Nat) (a1 : Int32) (a2 : Int32) (a3 : Int32) (a4 : Int32) (h : ah_H) (r : Int32) (h2 : ah_H), bX8_settleBelow_21 X.2.2.2 kr n a0 a1 a2 a3 a4 h = some (r, h2) → Rt X yX8_settleBelow cX8_settleBelow 8 (d + 1) 21 [(0, va_rf a0), (1, .int a1), (2, .int a2), (3, .int a3), (4, .int a4)] [] h (some (.int r)) h2 := by
  induction n with
  | zero => intro a0 a1 a2 a3 a4 h r h2 hf; cases hf
  | succ n ih =>
  intro a0 a1 a2 a3 a4 h r h2 hf
  unfold bX8_settleBelow_21 at hf
  refine rt_iload (pc := 21) (i := 4) (x := a4) 4 rfl dX8_settleBelow_21 ?_
  refine rt_iload_n (pc := 23) (k0 := 3) (x := a3) 3 rfl dX8_settleBelow_23 ?_
  by_cases c1 : a3 ≤ a4
  · rw [if_pos c1] at hf
    refine rt_icmp_ge_p (pc := 24) (x := a4) (z := a3) (tgt := 59) (by decide) dX8_settleBelow_24 c1 ?_
    exact rt_locals (rt_sub [0, 1, 2] rfl) (rX8_settleBelow_59 hkr hd hdk hf)
  rw [if_neg c1] at hf
  refine rt_icmp_ge_n (pc := 24) (x := a4) (z := a3) (tgt := 59) (by decide) dX8_settleBelow_24 c1 ?_
  refine rt_aload_n (pc := 27) (k0 := 0) (x := a0) 0 rfl dX8_settleBelow_27 ?_
  obtain ⟨v2, e3, hf⟩ := ob1 hf
  refine rt_gr (pc := 28) fd_X8_15 dX8_settleBelow_28 e3 ?_
  obtain ⟨v6, w5, e4, hf⟩ := ob2_of hf
  have g7 := sJx4a65c_isEmpty_aae02 d (by omega) e4
  refine rt_callV (pc := 31) (As := []) (st := []) me_Jx4a65c_isEmpty_aae02 mi_Jx4a65c_isEmpty_aae02 wl_X8_21 dX8_settleBelow_31 rfl (by decide) rfl g7.1 g7.2 ?_
  by_cases c8 : v6 = 0
  · rw [if_pos c8] at hf
    refine rt_if_ne_p (pc := 34) (x := v6) (tgt := 59) (by decide) dX8_settleBelow_34 c8 ?_
    refine rt_aload_n (pc := 37) (k0 := 0) (x := a0) 0 rfl dX8_settleBelow_37 ?_
    obtain ⟨v11, w10, e9, hf⟩ := ob2_of hf
    have g12 := sX5_isTooBig d (by omega) e9
    refine rt_callV (pc := 38) (As := []) (st := []) me_X5_isTooBig mi_X5_isTooBig wl_X8_85 dX8_settleBelow_38 rfl (by decide) rfl g12.1 g12.2 ?_
    by_cases c13 : v11 = 0
    · rw [if_pos c13] at hf
      refine rt_if_ne_p (pc := 41) (x := v11) (tgt := 59) (by decide) dX8_settleBelow_41 c13 ?_
      refine rt_aload_n (pc := 44) (k0 := 0) (x := a0) 0 rfl dX8_settleBelow_44 ?_
      refine rt_iload_n (pc := 45) (k0 := 1) (x := a1) 1 rfl dX8_settleBelow_45 ?_
      obtain ⟨v16, w15, e14, hf⟩ := ob2_of hf
      have g17 := sX8_sinkPage (sX8_give zd) d (by unfold zd; omega) (by omega) e14
      refine rt_callS (pc := 46) (As := [va_rf a0, .int a1]) (st := []) me_X8_sinkPage ms_X8_sinkPage wl_X8_31 dX8_settleBelow_46 rfl (by decide) rfl g17 ?_
      refine rt_pop (pc := 49) rfl dX8_settleBelow_49 ?_
      refine rt_iinc (pc := 50) (i := 2) (n := 1) (x := a2) (v := (a2 + 1)) (l2 := [(2, .int (a2 + 1)), (0, va_rf a0), (1, .int a1), (3, .int a3), (4, .int a4)]) 2 rfl rfl (by decide) (by first | rfl | (simp [rt_cat, cat_i, cat_l]; done) | (simp [rt_cat, cat_i, cat_l]; decide)) dX8_settleBelow_50 ?_
      refine rt_iinc (pc := 53) (i := 4) (n := 1) (x := a4) (v := (a4 + 1)) (l2 := [(4, .int (a4 + 1)), (2, .int (a2 + 1)), (0, va_rf a0), (1, .int a1), (3, .int a3)]) 4 rfl rfl (by decide) (by first | rfl | (simp [rt_cat, cat_i, cat_l]; done) | (simp [rt_cat, cat_i, cat_l]; decide)) dX8_settleBelow_53 ?_
      refine rt_goto (pc := 56) (tgt := 21) (by decide) dX8_settleBelow_56 ?_
      exact rt_locals (rt_sub [2, 3, 1, 4, 0] rfl) (ih _ _ _ _ _ _ _ _ hf)
    rw [if_neg c13] at hf
    refine rt_if_ne_n (pc := 41) (x := v11) (tgt := 59) (by decide) dX8_settleBelow_41 c13 ?_
    exact rt_locals (rt_sub [0, 1, 2] rfl) (rX8_settleBelow_59 hkr hd hdk hf)
  rw [if_neg c8] at hf
  refine rt_if_ne_n (pc := 34) (x := v6) (tgt := 59) (by decide) dX8_settleBelow_34 c8 ?_
  exact rt_locals (rt_sub [0, 1, 2] rfl) (rX8_settleBelow_59 hkr hd hdk hf)
noncomputable def bX8_settleBelow_0 (E : ah_E) (kr : Option Nat → Int32 → ah_H → Option (Int32 × ah_H)) (a0 : Option Nat) (a1 : Int32) (h : ah_H) : Option (Int32 × ah_H) :=
  if a1 < (40 : Int32) then
    (hp_gr h a0 6 3).bind fun v2 =>
    ob2 (fJx4a65c_size_8abf5 E v2 h) fun v6 w5 =>
    bX8_settleBelow_21 E kr zf a0 a1 (0 : Int32) v6 (0 : Int32) w5
  else
  some ((0 : Int32), h)
set_option maxRecDepth 20000 in
set_option maxHeartbeats 4000000 in
theorem rX8_settleBelow_0 {X : ah_X} {d : Nat} {dk : Nat} {kr : Option Nat → Int32 → ah_H → Option (Int32 × ah_H)} (hkr : ∀ (d : Nat), dk ≤ d → ∀ (x0 : Option Nat) (x1 : Int32) (h : ah_H) (r : Int32) (h2 : ah_H), kr x0 x1 h = some (r, h2) → Rn X yX8_settleBelow cX8_settleBelow 8 (some .int) d [va_rf x0, .int x1] h (some (.int r)) h2) (hd : 102 ≤ d) (hdk : dk + 0 ≤ d) {a0 : Option Nat} {a1 : Int32} {h : ah_H} {r : Int32} {h2 : ah_H} (hf : bX8_settleBelow_0 X.2.2.2 kr a0 a1 h = some (r, h2)) : Rt X yX8_settleBelow cX8_settleBelow 8 (d + 1) 0 [(0, va_rf a0), (1, .int a1)] [] h (some (.int r)) h2 := by
  unfold bX8_settleBelow_0 at hf
  refine rt_iload_n (pc := 0) (k0 := 1) (x := a1) 1 rfl dX8_settleBelow_0 ?_
  refine rt_bipush (pc := 1) (n := 40) (v := (40 : Int32)) (by decide) dX8_settleBelow_1 ?_
  by_cases c1 : a1 < (40 : Int32)
  · rw [if_pos c1] at hf
    refine rt_icmp_lt_p (pc := 3) (x := a1) (z := (40 : Int32)) (tgt := 8) (by decide) dX8_settleBelow_3 c1 ?_
    refine rt_iconst (pc := 8) (n := 0) (v := (0 : Int32)) (by decide) dX8_settleBelow_8 ?_
    refine rt_istore_n (pc := 9) (k0 := 2) (x := (0 : Int32)) (l2 := [(2, .int (0 : Int32)), (0, va_rf a0), (1, .int a1)]) (by decide) (by first | rfl | (simp [rt_cat, cat_i, cat_l]; done) | (simp [rt_cat, cat_i, cat_l]; decide)) dX8_settleBelow_9 ?_
    refine rt_aload_n (pc := 10) (k0 := 0) (x := a0) 1 rfl dX8_settleBelow_10 ?_
    obtain ⟨v2, e3, hf⟩ := ob1 hf
    refine rt_gr (pc := 11) fd_X8_15 dX8_settleBelow_11 e3 ?_
    obtain ⟨v6, w5, e4, hf⟩ := ob2_of hf
    have g7 := sJx4a65c_size_8abf5 d (by omega) e4
    refine rt_callV (pc := 14) (As := []) (st := []) me_Jx4a65c_size_8abf5 mi_Jx4a65c_size_8abf5 wl_X8_46 dX8_settleBelow_14 rfl (by decide) rfl g7.1 g7.2 ?_
    refine rt_istore_n (pc := 17) (k0 := 3) (x := v6) (l2 := [(3, .int v6), (2, .int (0 : Int32)), (0, va_rf a0), (1, .int a1)]) (by decide) (by first | rfl | (simp [rt_cat, cat_i, cat_l]; done) | (simp [rt_cat, cat_i, cat_l]; decide)) dX8_settleBelow_17 ?_
    refine rt_iconst (pc := 18) (n := 0) (v := (0 : Int32)) (by decide) dX8_settleBelow_18 ?_
    refine rt_istore (pc := 19) (i := 4) (x := (0 : Int32)) (l2 := [(4, .int (0 : Int32)), (3, .int v6), (2, .int (0 : Int32)), (0, va_rf a0), (1, .int a1)]) (by decide) (by first | rfl | (simp [rt_cat, cat_i, cat_l]; done) | (simp [rt_cat, cat_i, cat_l]; decide)) dX8_settleBelow_19 ?_
    exact rt_locals (rt_sub [3, 4, 2, 1, 0] rfl) (rX8_settleBelow_21 hkr hd hdk zf _ _ _ _ _ _ _ _ hf)
  rw [if_neg c1] at hf
  refine rt_icmp_lt_n (pc := 3) (x := a1) (z := (40 : Int32)) (tgt := 8) (by decide) dX8_settleBelow_3 c1 ?_
  refine rt_iconst (pc := 6) (n := 0) (v := (0 : Int32)) (by decide) dX8_settleBelow_6 ?_
  cases hf
  exact rt_ret (pc := 7) dX8_settleBelow_7 rfl
noncomputable def gX8_settleBelow (E : ah_E) (kr : Option Nat → Int32 → ah_H → Option (Int32 × ah_H)) (a0 : Option Nat) (a1 : Int32) (h : ah_H) : Option (Int32 × ah_H) := bX8_settleBelow_0 E kr a0 a1 h
set_option maxRecDepth 20000 in
set_option maxHeartbeats 4000000 in
theorem tX8_settleBelow {X : ah_X} {dk : Nat} {kr : Option Nat → Int32 → ah_H → Option (Int32 × ah_H)} (hkr : ∀ (d : Nat), dk ≤ d → ∀ (x0 : Option Nat) (x1 : Int32) (h : ah_H) (r : Int32) (h2 : ah_H), kr x0 x1 h = some (r, h2) → Rn X yX8_settleBelow cX8_settleBelow 8 (some .int) d [va_rf x0, .int x1] h (some (.int r)) h2) (d : Nat) (hdk : dk + 1 ≤ d) (hd : 103 ≤ d) {a0 : Option Nat} {a1 : Int32} {h : ah_H} {r : Int32} {h2 : ah_H} (hf : gX8_settleBelow X.2.2.2 kr a0 a1 h = some (r, h2)) : Rn X yX8_settleBelow cX8_settleBelow 8 (some .int) d [va_rf a0, .int a1] h (some (.int r)) h2 := by
  unfold gX8_settleBelow at hf
  obtain ⟨d, rfl⟩ : ∃ k, d = k + 1 := ⟨d - 1, by omega⟩
  exact Rn.of2 me_X8_settleBelow (by simp [lg_sl, rt_cat, cat_i, cat_l]) (ok_i _) (l := [(0, va_rf a0), (1, .int a1)]) (by simp [lv_args, rt_cat, cat_i, cat_l]) (rX8_settleBelow_0 hkr (by omega) (by omega) hf)
noncomputable def fX8_settleBelow (E : ah_E) : Nat → Option Nat → Int32 → ah_H → Option (Int32 × ah_H)
  | 0 => fun _ _ _ => none
  | n + 1 => fun a0 a1 h => gX8_settleBelow E (fX8_settleBelow E n) a0 a1 h
set_option maxRecDepth 20000 in
set_option maxHeartbeats 4000000 in
theorem sX8_settleBelow {X : ah_X} (n : Nat) : ∀ (d : Nat), 103 + 1 * n ≤ d → ∀ (a0 : Option Nat) (a1 : Int32) (h : ah_H) (r : Int32) (h2 : ah_H), fX8_settleBelow X.2.2.2 n a0 a1 h = some (r, h2) → Rn X yX8_settleBelow cX8_settleBelow 8 (some .int) d [va_rf a0, .int a1] h (some (.int r)) h2 := by
  induction n with
  | zero => intro d hd a0 a1 h r h2 hf; cases hf
  | succ n ih =>
    intro d hd a0 a1 h r h2 hf
    exact tX8_settleBelow (dk := 103 + 1 * n) ih d (by omega) (by omega) hf
noncomputable def bX8_settleAll_61 (E : ah_E) (a1 : Int32) (h : ah_H) : Option (Int32 × ah_H) :=
  some (a1, h)
set_option maxRecDepth 20000 in
set_option maxHeartbeats 4000000 in
theorem rX8_settleAll_61 {X : ah_X} {d : Nat} (hd : 148 ≤ d) {a1 : Int32} {h : ah_H} {r : Int32} {h2 : ah_H} (hf : bX8_settleAll_61 X.2.2.2 a1 h = some (r, h2)) : Rt X yX8_settleAll cX8_settleAll 4 (d + 1) 61 [(1, .int a1)] [] h (some (.int r)) h2 := by
  unfold bX8_settleAll_61 at hf
  refine rt_iload_n (pc := 61) (k0 := 1) (x := a1) 0 rfl dX8_settleAll_61 ?_
  cases hf
  exact rt_ret (pc := 62) dX8_settleAll_62 rfl
noncomputable def bX8_settleAll_6 (E : ah_E) : Nat → Option Nat → Int32 → Int32 → Int32 → ah_H → Option (Int32 × ah_H)
  | 0 => fun _ _ _ _ _ => none
  | n + 1 => fun a0 a1 a2 a3 h =>
  if (1000000 : Int32) ≤ a3 then
    bX8_settleAll_61 E a1 h
  else
  if a2 ≤ 0 then
    bX8_settleAll_61 E a1 h
  else
  (hp_gr h a0 9 0).bind fun v3 =>
  ob2 (fX8_lettersIn E zd v3 (0 : Int32) h) fun v7 w6 =>
  if v7 ≤ 0 then
    bX8_settleAll_61 E a1 w6
  else
  (hp_gr w6 a0 9 0).bind fun v10 =>
  ob2 (fX5_opened E v10 w6) fun v14 w13 =>
  (hp_pv w13 a0 9 0 (va_rf v14)).bind fun w16 =>
  (hp_gr w16 a0 9 0).bind fun v18 =>
  ob2 (fX8_settleBelow E zd v18 (0 : Int32) w16) fun v22 w21 =>
  (fX8_partRoot E a0 w21).bind fun w25 =>
  bX8_settleAll_6 E n a0 (a1 + v22) v22 (a3 + 1) w25
set_option maxRecDepth 20000 in
set_option maxHeartbeats 4000000 in
theorem rX8_settleAll_6 {X : ah_X} {d : Nat} (hd : 148 ≤ d) (n : Nat) : ∀ (a0 : Option Nat) (a1 : Int32) (a2 : Int32) (a3 : Int32) (h : ah_H) (r : Int32) (h2 : ah_H), bX8_settleAll_6 X.2.2.2 n a0 a1 a2 a3 h = some (r, h2) → Rt X yX8_settleAll cX8_settleAll 4 (d + 1) 6 [(0, va_rf a0), (1, .int a1), (2, .int a2), (3, .int a3)] [] h (some (.int r)) h2 := by
  induction n with
  | zero => intro a0 a1 a2 a3 h r h2 hf; cases hf
  | succ n ih =>
  intro a0 a1 a2 a3 h r h2 hf
  unfold bX8_settleAll_6 at hf
  refine rt_iload_n (pc := 6) (k0 := 3) (x := a3) 3 rfl dX8_settleAll_6 ?_
  refine rt_ldc (pc := 7) wk_X8_100 dX8_settleAll_7 ?_
  by_cases c1 : (1000000 : Int32) ≤ a3
  · rw [if_pos c1] at hf
    refine rt_icmp_ge_p (pc := 9) (x := a3) (z := (1000000 : Int32)) (tgt := 61) (by decide) dX8_settleAll_9 c1 ?_
    exact rt_locals (rt_sub [1] rfl) (rX8_settleAll_61 hd hf)
  rw [if_neg c1] at hf
  refine rt_icmp_ge_n (pc := 9) (x := a3) (z := (1000000 : Int32)) (tgt := 61) (by decide) dX8_settleAll_9 c1 ?_
  refine rt_iload_n (pc := 12) (k0 := 2) (x := a2) 2 rfl dX8_settleAll_12 ?_
  by_cases c2 : a2 ≤ 0
  · rw [if_pos c2] at hf
    refine rt_if_le_p (pc := 13) (x := a2) (tgt := 61) (by decide) dX8_settleAll_13 c2 ?_
    exact rt_locals (rt_sub [1] rfl) (rX8_settleAll_61 hd hf)
  rw [if_neg c2] at hf
  refine rt_if_le_n (pc := 13) (x := a2) (tgt := 61) (by decide) dX8_settleAll_13 c2 ?_
  refine rt_aload_n (pc := 16) (k0 := 0) (x := a0) 0 rfl dX8_settleAll_16 ?_
  obtain ⟨v3, e4, hf⟩ := ob1 hf
  refine rt_gr (pc := 17) fd_X8_9 dX8_settleAll_17 e4 ?_
  refine rt_iconst (pc := 20) (n := 0) (v := (0 : Int32)) (by decide) dX8_settleAll_20 ?_
  obtain ⟨v7, w6, e5, hf⟩ := ob2_of hf
  have g8 := sX8_lettersIn zd d (by unfold zd; omega) _ _ _ _ _ e5
  refine rt_callS (pc := 21) (As := [va_rf v3, .int (0 : Int32)]) (st := []) me_X8_lettersIn ms_X8_lettersIn wl_X8_101 dX8_settleAll_21 rfl (by decide) rfl g8 ?_
  by_cases c9 : v7 ≤ 0
  · rw [if_pos c9] at hf
    refine rt_if_le_p (pc := 24) (x := v7) (tgt := 61) (by decide) dX8_settleAll_24 c9 ?_
    exact rt_locals (rt_sub [1] rfl) (rX8_settleAll_61 hd hf)
  rw [if_neg c9] at hf
  refine rt_if_le_n (pc := 24) (x := v7) (tgt := 61) (by decide) dX8_settleAll_24 c9 ?_
  refine rt_aload_n (pc := 27) (k0 := 0) (x := a0) 0 rfl dX8_settleAll_27 ?_
  refine rt_aload_n (pc := 28) (k0 := 0) (x := a0) 0 rfl dX8_settleAll_28 ?_
  obtain ⟨v10, e11, hf⟩ := ob1 hf
  refine rt_gr (pc := 29) fd_X8_9 dX8_settleAll_29 e11 ?_
  obtain ⟨v14, w13, e12, hf⟩ := ob2_of hf
  have g15 := sX5_opened d (by omega) e12
  refine rt_callV (pc := 32) (As := []) (st := [va_rf a0]) me_X5_opened mi_X5_opened wl_X8_27 dX8_settleAll_32 rfl (by simp [rt_cat, cat_i, cat_l]) rfl g15.1 g15.2 ?_
  obtain ⟨w16, e17, hf⟩ := ob1 hf
  refine rt_putf (pc := 35) (x := a0) fw_X8_9 (Or.inl rfl) (pf_o _ _).1 (pf_o _ _).2 dX8_settleAll_35 e17 ?_
  refine rt_aload_n (pc := 38) (k0 := 0) (x := a0) 0 rfl dX8_settleAll_38 ?_
  obtain ⟨v18, e19, hf⟩ := ob1 hf
  refine rt_gr (pc := 39) fd_X8_9 dX8_settleAll_39 e19 ?_
  refine rt_iconst (pc := 42) (n := 0) (v := (0 : Int32)) (by decide) dX8_settleAll_42 ?_
  obtain ⟨v22, w21, e20, hf⟩ := ob2_of hf
  have g23 := sX8_settleBelow zd d (by unfold zd; omega) _ _ _ _ _ e20
  refine rt_callS (pc := 43) (As := [va_rf v18, .int (0 : Int32)]) (st := []) me_X8_settleBelow ms_X8_settleBelow wl_X8_104 dX8_settleAll_43 rfl (by decide) rfl g23 ?_
  refine rt_istore_n (pc := 46) (k0 := 2) (x := v22) (l2 := [(2, .int v22), (0, va_rf a0), (1, .int a1), (3, .int a3)]) (by decide) (by first | rfl | (simp [rt_cat, cat_i, cat_l]; done) | (simp [rt_cat, cat_i, cat_l]; decide)) dX8_settleAll_46 ?_
  refine rt_iload_n (pc := 47) (k0 := 1) (x := a1) 2 rfl dX8_settleAll_47 ?_
  refine rt_iload_n (pc := 48) (k0 := 2) (x := v22) 0 rfl dX8_settleAll_48 ?_
  refine rt_iadd (pc := 49) (x := a1) (z := v22) dX8_settleAll_49 ?_
  refine rt_istore_n (pc := 50) (k0 := 1) (x := (a1 + v22)) (l2 := [(1, .int (a1 + v22)), (2, .int v22), (0, va_rf a0), (3, .int a3)]) (by decide) (by first | rfl | (simp [rt_cat, cat_i, cat_l]; done) | (simp [rt_cat, cat_i, cat_l]; decide)) dX8_settleAll_50 ?_
  refine rt_aload_n (pc := 51) (k0 := 0) (x := a0) 2 rfl dX8_settleAll_51 ?_
  obtain ⟨w25, e24, hf⟩ := ob1 hf
  have g26 := sX8_partRoot d (by omega) e24
  refine rt_callV (pc := 52) (As := []) (st := []) me_X8_partRoot mi_X8_partRoot wl_X8_35 dX8_settleAll_52 rfl (by decide) rfl g26.1 g26.2 ?_
  refine rt_iinc (pc := 55) (i := 3) (n := 1) (x := a3) (v := (a3 + 1)) (l2 := [(3, .int (a3 + 1)), (1, .int (a1 + v22)), (2, .int v22), (0, va_rf a0)]) 3 rfl rfl (by decide) (by first | rfl | (simp [rt_cat, cat_i, cat_l]; done) | (simp [rt_cat, cat_i, cat_l]; decide)) dX8_settleAll_55 ?_
  refine rt_goto (pc := 58) (tgt := 6) (by decide) dX8_settleAll_58 ?_
  exact rt_locals (rt_sub [3, 1, 2, 0] rfl) (ih _ _ _ _ _ _ _ hf)
noncomputable def bX8_settleAll_0 (E : ah_E) (a0 : Option Nat) (h : ah_H) : Option (Int32 × ah_H) :=
  bX8_settleAll_6 E zf a0 (0 : Int32) (1 : Int32) (0 : Int32) h
set_option maxRecDepth 20000 in
set_option maxHeartbeats 4000000 in
theorem rX8_settleAll_0 {X : ah_X} {d : Nat} (hd : 148 ≤ d) {a0 : Option Nat} {h : ah_H} {r : Int32} {h2 : ah_H} (hf : bX8_settleAll_0 X.2.2.2 a0 h = some (r, h2)) : Rt X yX8_settleAll cX8_settleAll 4 (d + 1) 0 [(0, va_rf a0)] [] h (some (.int r)) h2 := by
  unfold bX8_settleAll_0 at hf
  refine rt_iconst (pc := 0) (n := 0) (v := (0 : Int32)) (by decide) dX8_settleAll_0 ?_
  refine rt_istore_n (pc := 1) (k0 := 1) (x := (0 : Int32)) (l2 := [(1, .int (0 : Int32)), (0, va_rf a0)]) (by decide) (by first | rfl | (simp [rt_cat, cat_i, cat_l]; done) | (simp [rt_cat, cat_i, cat_l]; decide)) dX8_settleAll_1 ?_
  refine rt_iconst (pc := 2) (n := 1) (v := (1 : Int32)) (by decide) dX8_settleAll_2 ?_
  refine rt_istore_n (pc := 3) (k0 := 2) (x := (1 : Int32)) (l2 := [(2, .int (1 : Int32)), (1, .int (0 : Int32)), (0, va_rf a0)]) (by decide) (by first | rfl | (simp [rt_cat, cat_i, cat_l]; done) | (simp [rt_cat, cat_i, cat_l]; decide)) dX8_settleAll_3 ?_
  refine rt_iconst (pc := 4) (n := 0) (v := (0 : Int32)) (by decide) dX8_settleAll_4 ?_
  refine rt_istore_n (pc := 5) (k0 := 3) (x := (0 : Int32)) (l2 := [(3, .int (0 : Int32)), (2, .int (1 : Int32)), (1, .int (0 : Int32)), (0, va_rf a0)]) (by decide) (by first | rfl | (simp [rt_cat, cat_i, cat_l]; done) | (simp [rt_cat, cat_i, cat_l]; decide)) dX8_settleAll_5 ?_
  exact rt_locals (rt_sub [3, 2, 1, 0] rfl) (rX8_settleAll_6 hd zf _ _ _ _ _ _ _ hf)
noncomputable def fX8_settleAll (E : ah_E) (a0 : Option Nat) (h : ah_H) : Option (Int32 × ah_H) := if hp_rcv h a0 9 = false then none else bX8_settleAll_0 E a0 h
set_option maxRecDepth 20000 in
set_option maxHeartbeats 4000000 in
theorem sX8_settleAll {X : ah_X} (d : Nat) (hd : 149 ≤ d) {a0 : Option Nat} {h : ah_H} {r : Int32} {h2 : ah_H} (hf : fX8_settleAll X.2.2.2 a0 h = some (r, h2)) : hp_rcv h a0 9 = true ∧ Rn X yX8_settleAll cX8_settleAll 4 (some .int) d [va_rf a0] h (some (.int r)) h2 := by
  unfold fX8_settleAll at hf
  by_cases c0 : hp_rcv h a0 9 = false
  · rw [if_pos c0] at hf; cases hf
  rw [if_neg c0] at hf
  refine ⟨(Bool.not_eq_false _).mp c0, ?_⟩
  obtain ⟨d, rfl⟩ : ∃ k, d = k + 1 := ⟨d - 1, by omega⟩
  exact Rn.of2 me_X8_settleAll (by simp [lg_sl, rt_cat, cat_i, cat_l]) (ok_i _) (l := [(0, va_rf a0)]) (by simp [lv_args, rt_cat, cat_i, cat_l]) (rX8_settleAll_0 (by omega) hf)
noncomputable def bX8_sinkRoot_0 (E : ah_E) (a0 : Option Nat) (h : ah_H) : Option (Int32 × ah_H) :=
  (hp_gr h a0 9 0).bind fun v1 =>
  (hp_gr h v1 6 3).bind fun v3 =>
  ob2 (fJx4a65c_isEmpty_aae02 E v3 h) fun v7 w6 =>
  if v7 = 0 then
    (hp_gr w6 a0 9 0).bind fun v10 =>
    ob2 (fX5_opened E v10 w6) fun v14 w13 =>
    (hp_pv w13 a0 9 0 (va_rf v14)).bind fun w16 =>
    (hp_gr w16 a0 9 0).bind fun v18 =>
    ob2 (fX8_sinkPage E (fX8_give E zd) v18 (0 : Int32) w16) fun v22 w21 =>
    (fX8_partRoot E a0 w21).bind fun w25 =>
    some (v22, w25)
  else
  some ((0 : Int32), w6)
set_option maxRecDepth 20000 in
set_option maxHeartbeats 4000000 in
theorem rX8_sinkRoot_0 {X : ah_X} {d : Nat} (hd : 102 ≤ d) {a0 : Option Nat} {h : ah_H} {r : Int32} {h2 : ah_H} (hf : bX8_sinkRoot_0 X.2.2.2 a0 h = some (r, h2)) : Rt X yX8_sinkRoot cX8_sinkRoot 2 (d + 1) 0 [(0, va_rf a0)] [] h (some (.int r)) h2 := by
  unfold bX8_sinkRoot_0 at hf
  refine rt_aload_n (pc := 0) (k0 := 0) (x := a0) 0 rfl dX8_sinkRoot_0 ?_
  obtain ⟨v1, e2, hf⟩ := ob1 hf
  refine rt_gr (pc := 1) fd_X8_9 dX8_sinkRoot_1 e2 ?_
  obtain ⟨v3, e4, hf⟩ := ob1 hf
  refine rt_gr (pc := 4) fd_X8_15 dX8_sinkRoot_4 e4 ?_
  obtain ⟨v7, w6, e5, hf⟩ := ob2_of hf
  have g8 := sJx4a65c_isEmpty_aae02 d (by omega) e5
  refine rt_callV (pc := 7) (As := []) (st := []) me_Jx4a65c_isEmpty_aae02 mi_Jx4a65c_isEmpty_aae02 wl_X8_21 dX8_sinkRoot_7 rfl (by decide) rfl g8.1 g8.2 ?_
  by_cases c9 : v7 = 0
  · rw [if_pos c9] at hf
    refine rt_if_eq_p (pc := 10) (x := v7) (tgt := 15) (by decide) dX8_sinkRoot_10 c9 ?_
    refine rt_aload_n (pc := 15) (k0 := 0) (x := a0) 0 rfl dX8_sinkRoot_15 ?_
    refine rt_aload_n (pc := 16) (k0 := 0) (x := a0) 0 rfl dX8_sinkRoot_16 ?_
    obtain ⟨v10, e11, hf⟩ := ob1 hf
    refine rt_gr (pc := 17) fd_X8_9 dX8_sinkRoot_17 e11 ?_
    obtain ⟨v14, w13, e12, hf⟩ := ob2_of hf
    have g15 := sX5_opened d (by omega) e12
    refine rt_callV (pc := 20) (As := []) (st := [va_rf a0]) me_X5_opened mi_X5_opened wl_X8_27 dX8_sinkRoot_20 rfl (by simp [rt_cat, cat_i, cat_l]) rfl g15.1 g15.2 ?_
    obtain ⟨w16, e17, hf⟩ := ob1 hf
    refine rt_putf (pc := 23) (x := a0) fw_X8_9 (Or.inl rfl) (pf_o _ _).1 (pf_o _ _).2 dX8_sinkRoot_23 e17 ?_
    refine rt_aload_n (pc := 26) (k0 := 0) (x := a0) 0 rfl dX8_sinkRoot_26 ?_
    obtain ⟨v18, e19, hf⟩ := ob1 hf
    refine rt_gr (pc := 27) fd_X8_9 dX8_sinkRoot_27 e19 ?_
    refine rt_iconst (pc := 30) (n := 0) (v := (0 : Int32)) (by decide) dX8_sinkRoot_30 ?_
    obtain ⟨v22, w21, e20, hf⟩ := ob2_of hf
    have g23 := sX8_sinkPage (sX8_give zd) d (by unfold zd; omega) (by omega) e20
    refine rt_callS (pc := 31) (As := [va_rf v18, .int (0 : Int32)]) (st := []) me_X8_sinkPage ms_X8_sinkPage wl_X8_31 dX8_sinkRoot_31 rfl (by decide) rfl g23 ?_
    refine rt_istore_n (pc := 34) (k0 := 1) (x := v22) (l2 := [(1, .int v22), (0, va_rf a0)]) (by decide) (by first | rfl | (simp [rt_cat, cat_i, cat_l]; done) | (simp [rt_cat, cat_i, cat_l]; decide)) dX8_sinkRoot_34 ?_
    refine rt_aload_n (pc := 35) (k0 := 0) (x := a0) 1 rfl dX8_sinkRoot_35 ?_
    obtain ⟨w25, e24, hf⟩ := ob1 hf
    have g26 := sX8_partRoot d (by omega) e24
    refine rt_callV (pc := 36) (As := []) (st := []) me_X8_partRoot mi_X8_partRoot wl_X8_35 dX8_sinkRoot_36 rfl (by decide) rfl g26.1 g26.2 ?_
    refine rt_iload_n (pc := 39) (k0 := 1) (x := v22) 0 rfl dX8_sinkRoot_39 ?_
    cases hf
    exact rt_ret (pc := 40) dX8_sinkRoot_40 rfl
  rw [if_neg c9] at hf
  refine rt_if_eq_n (pc := 10) (x := v7) (tgt := 15) (by decide) dX8_sinkRoot_10 c9 ?_
  refine rt_iconst (pc := 13) (n := 0) (v := (0 : Int32)) (by decide) dX8_sinkRoot_13 ?_
  cases hf
  exact rt_ret (pc := 14) dX8_sinkRoot_14 rfl
noncomputable def fX8_sinkRoot (E : ah_E) (a0 : Option Nat) (h : ah_H) : Option (Int32 × ah_H) := if hp_rcv h a0 9 = false then none else bX8_sinkRoot_0 E a0 h
set_option maxRecDepth 20000 in
set_option maxHeartbeats 4000000 in
theorem sX8_sinkRoot {X : ah_X} (d : Nat) (hd : 103 ≤ d) {a0 : Option Nat} {h : ah_H} {r : Int32} {h2 : ah_H} (hf : fX8_sinkRoot X.2.2.2 a0 h = some (r, h2)) : hp_rcv h a0 9 = true ∧ Rn X yX8_sinkRoot cX8_sinkRoot 2 (some .int) d [va_rf a0] h (some (.int r)) h2 := by
  unfold fX8_sinkRoot at hf
  by_cases c0 : hp_rcv h a0 9 = false
  · rw [if_pos c0] at hf; cases hf
  rw [if_neg c0] at hf
  refine ⟨(Bool.not_eq_false _).mp c0, ?_⟩
  obtain ⟨d, rfl⟩ : ∃ k, d = k + 1 := ⟨d - 1, by omega⟩
  exact Rn.of2 me_X8_sinkRoot (by simp [lg_sl, rt_cat, cat_i, cat_l]) (ok_i _) (l := [(0, va_rf a0)]) (by simp [lv_args, rt_cat, cat_i, cat_l]) (rX8_sinkRoot_0 (by omega) hf)
