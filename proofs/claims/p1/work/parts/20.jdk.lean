noncomputable def bJ3_checkIndex_8e157_9 (E : ah_E) (a0 : Int32) (a1 : Int32) (a2 : Option Nat) (h : ah_H) : Option (Int32 × ah_H) :=
  none
set_option maxRecDepth 20000 in
set_option maxHeartbeats 4000000 in
theorem rJ3_checkIndex_8e157_9 {X : ah_X} {d : Nat} {a0 : Int32} {a1 : Int32} {a2 : Option Nat} {h : ah_H} {r : Int32} {h2 : ah_H} (hf : bJ3_checkIndex_8e157_9 X.2.2.2 a0 a1 a2 h = some (r, h2)) : Rt X yJ3_checkIndex_8e157 cJ3_checkIndex_8e157 3 d 9 [(0, .int a0), (1, .int a1), (2, va_rf a2)] [] h (some (.int r)) h2 := by
  unfold bJ3_checkIndex_8e157_9 at hf
  refine rt_aload_n (pc := 9) (k0 := 2) (x := a2) 2 rfl dJ3_checkIndex_8e157_9 ?_
  refine rt_iload_n (pc := 10) (k0 := 0) (x := a0) 0 rfl dJ3_checkIndex_8e157_10 ?_
  refine rt_iload_n (pc := 11) (k0 := 1) (x := a1) 1 rfl dJ3_checkIndex_8e157_11 ?_
  cases hf
noncomputable def bJ3_checkIndex_8e157_0 (E : ah_E) (a0 : Int32) (a1 : Int32) (a2 : Option Nat) (h : ah_H) : Option (Int32 × ah_H) :=
  if a0 < 0 then
    bJ3_checkIndex_8e157_9 E a0 a1 a2 h
  else
  if a0 < a1 then
    some (a0, h)
  else
  bJ3_checkIndex_8e157_9 E a0 a1 a2 h
set_option maxRecDepth 20000 in
set_option maxHeartbeats 4000000 in
theorem rJ3_checkIndex_8e157_0 {X : ah_X} {d : Nat} {a0 : Int32} {a1 : Int32} {a2 : Option Nat} {h : ah_H} {r : Int32} {h2 : ah_H} (hf : bJ3_checkIndex_8e157_0 X.2.2.2 a0 a1 a2 h = some (r, h2)) : Rt X yJ3_checkIndex_8e157 cJ3_checkIndex_8e157 3 d 0 [(0, .int a0), (1, .int a1), (2, va_rf a2)] [] h (some (.int r)) h2 := by
  unfold bJ3_checkIndex_8e157_0 at hf
  refine rt_iload_n (pc := 0) (k0 := 0) (x := a0) 0 rfl dJ3_checkIndex_8e157_0 ?_
  by_cases c1 : a0 < 0
  · rw [if_pos c1] at hf
    refine rt_if_lt_p (pc := 1) (x := a0) (tgt := 9) (by decide) dJ3_checkIndex_8e157_1 c1 ?_
    exact rJ3_checkIndex_8e157_9 hf
  rw [if_neg c1] at hf
  refine rt_if_lt_n (pc := 1) (x := a0) (tgt := 9) (by decide) dJ3_checkIndex_8e157_1 c1 ?_
  refine rt_iload_n (pc := 4) (k0 := 0) (x := a0) 0 rfl dJ3_checkIndex_8e157_4 ?_
  refine rt_iload_n (pc := 5) (k0 := 1) (x := a1) 1 rfl dJ3_checkIndex_8e157_5 ?_
  by_cases c2 : a0 < a1
  · rw [if_pos c2] at hf
    refine rt_icmp_lt_p (pc := 6) (x := a0) (z := a1) (tgt := 16) (by decide) dJ3_checkIndex_8e157_6 c2 ?_
    refine rt_iload_n (pc := 16) (k0 := 0) (x := a0) 0 rfl dJ3_checkIndex_8e157_16 ?_
    cases hf
    exact rt_ret (pc := 17) dJ3_checkIndex_8e157_17 rfl
  rw [if_neg c2] at hf
  refine rt_icmp_lt_n (pc := 6) (x := a0) (z := a1) (tgt := 16) (by decide) dJ3_checkIndex_8e157_6 c2 ?_
  exact rJ3_checkIndex_8e157_9 hf
noncomputable def fJ3_checkIndex_8e157 (E : ah_E) (a0 : Int32) (a1 : Int32) (a2 : Option Nat) (h : ah_H) : Option (Int32 × ah_H) := bJ3_checkIndex_8e157_0 E a0 a1 a2 h
set_option maxRecDepth 20000 in
set_option maxHeartbeats 4000000 in
theorem sJ3_checkIndex_8e157 {X : ah_X} (d : Nat) (hd : 0 ≤ d) {a0 : Int32} {a1 : Int32} {a2 : Option Nat} {h : ah_H} {r : Int32} {h2 : ah_H} (hf : fJ3_checkIndex_8e157 X.2.2.2 a0 a1 a2 h = some (r, h2)) : Rn X yJ3_checkIndex_8e157 cJ3_checkIndex_8e157 3 (some .int) d [.int a0, .int a1, va_rf a2] h (some (.int r)) h2 := by
  unfold fJ3_checkIndex_8e157 at hf
  exact Rn.of2 me_J3_checkIndex_8e157 (by simp [lg_sl, rt_cat, cat_i, cat_l]) (ok_i _) (l := [(0, .int a0), (1, .int a1), (2, va_rf a2)]) (by simp [lv_args, rt_cat, cat_i, cat_l]) (rJ3_checkIndex_8e157_0 hf)
noncomputable def bJ15_checkIndex_7cf53_0 (E : ah_E) (a0 : Int32) (a1 : Int32) (h : ah_H) : Option (Int32 × ah_H) :=
  ob2 (fJ3_checkIndex_8e157 E a0 a1 none h) fun v3 w2 =>
  some (v3, w2)
set_option maxRecDepth 20000 in
set_option maxHeartbeats 4000000 in
theorem rJ15_checkIndex_7cf53_0 {X : ah_X} {d : Nat} (hd : 0 ≤ d) {a0 : Int32} {a1 : Int32} {h : ah_H} {r : Int32} {h2 : ah_H} (hf : bJ15_checkIndex_7cf53_0 X.2.2.2 a0 a1 h = some (r, h2)) : Rt X yJ15_checkIndex_7cf53 cJ15_checkIndex_7cf53 2 (d + 1) 0 [(0, .int a0), (1, .int a1)] [] h (some (.int r)) h2 := by
  unfold bJ15_checkIndex_7cf53_0 at hf
  refine rt_iload_n (pc := 0) (k0 := 0) (x := a0) 0 rfl dJ15_checkIndex_7cf53_0 ?_
  refine rt_iload_n (pc := 1) (k0 := 1) (x := a1) 1 rfl dJ15_checkIndex_7cf53_1 ?_
  refine rt_null (pc := 2) dJ15_checkIndex_7cf53_2 ?_
  obtain ⟨v3, w2, e1, hf⟩ := ob2_of hf
  have g4 := sJ3_checkIndex_8e157 d (by omega) e1
  refine rt_callS (pc := 3) (As := [.int a0, .int a1, va_rf none]) (st := []) me_J3_checkIndex_8e157 ms_J3_checkIndex_8e157 wl_J15_105 dJ15_checkIndex_7cf53_3 rfl (by decide) rfl g4 ?_
  cases hf
  exact rt_ret (pc := 6) dJ15_checkIndex_7cf53_6 rfl
noncomputable def fJ15_checkIndex_7cf53 (E : ah_E) (a0 : Int32) (a1 : Int32) (h : ah_H) : Option (Int32 × ah_H) := bJ15_checkIndex_7cf53_0 E a0 a1 h
set_option maxRecDepth 20000 in
set_option maxHeartbeats 4000000 in
theorem sJ15_checkIndex_7cf53 {X : ah_X} (d : Nat) (hd : 1 ≤ d) {a0 : Int32} {a1 : Int32} {h : ah_H} {r : Int32} {h2 : ah_H} (hf : fJ15_checkIndex_7cf53 X.2.2.2 a0 a1 h = some (r, h2)) : Rn X yJ15_checkIndex_7cf53 cJ15_checkIndex_7cf53 2 (some .int) d [.int a0, .int a1] h (some (.int r)) h2 := by
  unfold fJ15_checkIndex_7cf53 at hf
  obtain ⟨d, rfl⟩ : ∃ k, d = k + 1 := ⟨d - 1, by omega⟩
  exact Rn.of2 me_J15_checkIndex_7cf53 (by simp [lg_sl, rt_cat, cat_i, cat_l]) (ok_i _) (l := [(0, .int a0), (1, .int a1)]) (by simp [lv_args, rt_cat, cat_i, cat_l]) (rJ15_checkIndex_7cf53_0 (by omega) hf)
noncomputable def bJ7_checkLength_df160_0 (E : ah_E) (a0 : Int32) (a1 : Int32) (h : ah_H) : Option ah_H :=
  if a0 ≤ a1 then
    some h
  else
  none
set_option maxRecDepth 20000 in
set_option maxHeartbeats 4000000 in
theorem rJ7_checkLength_df160_0 {X : ah_X} {d : Nat} {a0 : Int32} {a1 : Int32} {h : ah_H} {h2 : ah_H} (hf : bJ7_checkLength_df160_0 X.2.2.2 a0 a1 h = some h2) : Rt X yJ7_checkLength_df160 cJ7_checkLength_df160 2 d 0 [(0, .int a0), (1, .int a1)] [] h none h2 := by
  unfold bJ7_checkLength_df160_0 at hf
  refine rt_iload_n (pc := 0) (k0 := 1) (x := a1) 1 rfl dJ7_checkLength_df160_0 ?_
  refine rt_iload_n (pc := 1) (k0 := 0) (x := a0) 0 rfl dJ7_checkLength_df160_1 ?_
  by_cases c1 : a0 ≤ a1
  · rw [if_pos c1] at hf
    refine rt_icmp_ge_p (pc := 2) (x := a1) (z := a0) (tgt := 37) (by decide) dJ7_checkLength_df160_2 c1 ?_
    cases hf
    exact rt_ret (pc := 37) dJ7_checkLength_df160_37 rfl
  rw [if_neg c1] at hf
  refine rt_icmp_ge_n (pc := 2) (x := a1) (z := a0) (tgt := 37) (by decide) dJ7_checkLength_df160_2 c1 ?_
  cases hf
noncomputable def fJ7_checkLength_df160 (E : ah_E) (a0 : Int32) (a1 : Int32) (h : ah_H) : Option ah_H := bJ7_checkLength_df160_0 E a0 a1 h
set_option maxRecDepth 20000 in
set_option maxHeartbeats 4000000 in
theorem sJ7_checkLength_df160 {X : ah_X} (d : Nat) (hd : 0 ≤ d) {a0 : Int32} {a1 : Int32} {h : ah_H} {h2 : ah_H} (hf : fJ7_checkLength_df160 X.2.2.2 a0 a1 h = some h2) : Rn X yJ7_checkLength_df160 cJ7_checkLength_df160 2 none d [.int a0, .int a1] h none h2 := by
  unfold fJ7_checkLength_df160 at hf
  exact Rn.of2 me_J7_checkLength_df160 (by simp [lg_sl, rt_cat, cat_i, cat_l]) rfl (l := [(0, .int a0), (1, .int a1)]) (by simp [lv_args, rt_cat, cat_i, cat_l]) (rJ7_checkLength_df160_0 hf)
noncomputable def bJ9_min_7cf53_10 (E : ah_E) (s0 : Int32) (h : ah_H) : Option (Int32 × ah_H) :=
  some (s0, h)
set_option maxRecDepth 20000 in
set_option maxHeartbeats 4000000 in
theorem rJ9_min_7cf53_10 {X : ah_X} {d : Nat} {s0 : Int32} {h : ah_H} {r : Int32} {h2 : ah_H} (hf : bJ9_min_7cf53_10 X.2.2.2 s0 h = some (r, h2)) : Rt X yJ9_min_7cf53 cJ9_min_7cf53 2 d 10 [] [.int s0] h (some (.int r)) h2 := by
  unfold bJ9_min_7cf53_10 at hf
  cases hf
  exact rt_ret (pc := 10) dJ9_min_7cf53_10 rfl
noncomputable def bJ9_min_7cf53_0 (E : ah_E) (a0 : Int32) (a1 : Int32) (h : ah_H) : Option (Int32 × ah_H) :=
  if a1 < a0 then
    bJ9_min_7cf53_10 E a1 h
  else
  bJ9_min_7cf53_10 E a0 h
set_option maxRecDepth 20000 in
set_option maxHeartbeats 4000000 in
theorem rJ9_min_7cf53_0 {X : ah_X} {d : Nat} {a0 : Int32} {a1 : Int32} {h : ah_H} {r : Int32} {h2 : ah_H} (hf : bJ9_min_7cf53_0 X.2.2.2 a0 a1 h = some (r, h2)) : Rt X yJ9_min_7cf53 cJ9_min_7cf53 2 d 0 [(0, .int a0), (1, .int a1)] [] h (some (.int r)) h2 := by
  unfold bJ9_min_7cf53_0 at hf
  refine rt_iload_n (pc := 0) (k0 := 0) (x := a0) 0 rfl dJ9_min_7cf53_0 ?_
  refine rt_iload_n (pc := 1) (k0 := 1) (x := a1) 1 rfl dJ9_min_7cf53_1 ?_
  by_cases c1 : a1 < a0
  · rw [if_pos c1] at hf
    refine rt_icmp_gt_p (pc := 2) (x := a0) (z := a1) (tgt := 9) (by decide) dJ9_min_7cf53_2 c1 ?_
    refine rt_iload_n (pc := 9) (k0 := 1) (x := a1) 1 rfl dJ9_min_7cf53_9 ?_
    exact rt_locals (rt_sub [] rfl) (rJ9_min_7cf53_10 hf)
  rw [if_neg c1] at hf
  refine rt_icmp_gt_n (pc := 2) (x := a0) (z := a1) (tgt := 9) (by decide) dJ9_min_7cf53_2 c1 ?_
  refine rt_iload_n (pc := 5) (k0 := 0) (x := a0) 0 rfl dJ9_min_7cf53_5 ?_
  refine rt_goto (pc := 6) (tgt := 10) (by decide) dJ9_min_7cf53_6 ?_
  exact rt_locals (rt_sub [] rfl) (rJ9_min_7cf53_10 hf)
noncomputable def fJ9_min_7cf53 (E : ah_E) (a0 : Int32) (a1 : Int32) (h : ah_H) : Option (Int32 × ah_H) := bJ9_min_7cf53_0 E a0 a1 h
set_option maxRecDepth 20000 in
set_option maxHeartbeats 4000000 in
theorem sJ9_min_7cf53 {X : ah_X} (d : Nat) (hd : 0 ≤ d) {a0 : Int32} {a1 : Int32} {h : ah_H} {r : Int32} {h2 : ah_H} (hf : fJ9_min_7cf53 X.2.2.2 a0 a1 h = some (r, h2)) : Rn X yJ9_min_7cf53 cJ9_min_7cf53 2 (some .int) d [.int a0, .int a1] h (some (.int r)) h2 := by
  unfold fJ9_min_7cf53 at hf
  exact Rn.of2 me_J9_min_7cf53 (by simp [lg_sl, rt_cat, cat_i, cat_l]) (ok_i _) (l := [(0, .int a0), (1, .int a1)]) (by simp [lv_args, rt_cat, cat_i, cat_l]) (rJ9_min_7cf53_0 hf)
noncomputable def bJ7_copyOfRangeByte_39247_0 (E : ah_E) (a0 : Option Nat) (a1 : Int32) (a2 : Int32) (h : ah_H) : Option (Option Nat × ah_H) :=
  (fJ7_checkLength_df160 E a1 a2 h).bind fun w2 =>
  (hp_na w2 0 (a2 - a1) (.inl (fun _ => 0))).bind fun w4 =>
  (hp_len w4 a0).bind fun v6 =>
  ob2 (fJ9_min_7cf53 E (v6 - a1) (a2 - a1) w4) fun v10 w9 =>
  (hp_cpb E w9 a0 a1 (some w2.1) (0 : Int32) v10).bind fun w12 =>
  some ((some w2.1), w12)
set_option maxRecDepth 20000 in
set_option maxHeartbeats 4000000 in
theorem rJ7_copyOfRangeByte_39247_0 {X : ah_X} {d : Nat} (hd : 0 ≤ d) {a0 : Option Nat} {a1 : Int32} {a2 : Int32} {h : ah_H} {r : Option Nat} {h2 : ah_H} (hf : bJ7_copyOfRangeByte_39247_0 X.2.2.2 a0 a1 a2 h = some (r, h2)) : Rt X yJ7_copyOfRangeByte_39247 cJ7_copyOfRangeByte_39247 5 (d + 1) 0 [(0, va_rf a0), (1, .int a1), (2, .int a2)] [] h (some (va_rf r)) h2 := by
  unfold bJ7_copyOfRangeByte_39247_0 at hf
  refine rt_iload_n (pc := 0) (k0 := 1) (x := a1) 1 rfl dJ7_copyOfRangeByte_39247_0 ?_
  refine rt_iload_n (pc := 1) (k0 := 2) (x := a2) 2 rfl dJ7_copyOfRangeByte_39247_1 ?_
  obtain ⟨w2, e1, hf⟩ := ob1 hf
  have g3 := sJ7_checkLength_df160 d (by omega) e1
  refine rt_callS (pc := 2) (As := [.int a1, .int a2]) (st := []) me_J7_checkLength_df160 ms_J7_checkLength_df160 wl_J7_343 dJ7_copyOfRangeByte_39247_2 rfl (by decide) rfl g3 ?_
  refine rt_iload_n (pc := 5) (k0 := 2) (x := a2) 2 rfl dJ7_copyOfRangeByte_39247_5 ?_
  refine rt_iload_n (pc := 6) (k0 := 1) (x := a1) 1 rfl dJ7_copyOfRangeByte_39247_6 ?_
  refine rt_isub (pc := 7) (x := a2) (z := a1) dJ7_copyOfRangeByte_39247_7 ?_
  refine rt_istore_n (pc := 8) (k0 := 3) (x := (a2 - a1)) (l2 := [(3, .int (a2 - a1)), (0, va_rf a0), (1, .int a1), (2, .int a2)]) (by decide) (by first | rfl | (simp [rt_cat, cat_i, cat_l]; done) | (simp [rt_cat, cat_i, cat_l]; decide)) dJ7_copyOfRangeByte_39247_8 ?_
  refine rt_iload_n (pc := 9) (k0 := 3) (x := (a2 - a1)) 0 rfl dJ7_copyOfRangeByte_39247_9 ?_
  obtain ⟨w4, e5, hf⟩ := ob1 hf
  refine rt_newa (pc := 10) 0 (by decide) rfl wa_byte (fun _ _ => rfl) (by decide) dJ7_copyOfRangeByte_39247_10 e5 ?_
  refine rt_astore (pc := 12) (i := 4) (x := (some w2.1)) (l2 := [(4, va_rf (some w2.1)), (3, .int (a2 - a1)), (0, va_rf a0), (1, .int a1), (2, .int a2)]) (by decide) (by first | rfl | (simp [rt_cat, cat_i, cat_l]; done) | (simp [rt_cat, cat_i, cat_l]; decide)) dJ7_copyOfRangeByte_39247_12 ?_
  refine rt_aload_n (pc := 14) (k0 := 0) (x := a0) 2 rfl dJ7_copyOfRangeByte_39247_14 ?_
  refine rt_iload_n (pc := 15) (k0 := 1) (x := a1) 3 rfl dJ7_copyOfRangeByte_39247_15 ?_
  refine rt_aload (pc := 16) (i := 4) (x := (some w2.1)) 0 rfl dJ7_copyOfRangeByte_39247_16 ?_
  refine rt_iconst (pc := 18) (n := 0) (v := (0 : Int32)) (by decide) dJ7_copyOfRangeByte_39247_18 ?_
  refine rt_aload_n (pc := 19) (k0 := 0) (x := a0) 2 rfl dJ7_copyOfRangeByte_39247_19 ?_
  obtain ⟨v6, e7, hf⟩ := ob1 hf
  refine rt_alen (pc := 20) dJ7_copyOfRangeByte_39247_20 e7 ?_
  refine rt_iload_n (pc := 21) (k0 := 1) (x := a1) 3 rfl dJ7_copyOfRangeByte_39247_21 ?_
  refine rt_isub (pc := 22) (x := v6) (z := a1) dJ7_copyOfRangeByte_39247_22 ?_
  refine rt_iload_n (pc := 23) (k0 := 3) (x := (a2 - a1)) 1 rfl dJ7_copyOfRangeByte_39247_23 ?_
  obtain ⟨v10, w9, e8, hf⟩ := ob2_of hf
  have g11 := sJ9_min_7cf53 d (by omega) e8
  refine rt_callS (pc := 24) (As := [.int (v6 - a1), .int (a2 - a1)]) (st := [.int (0 : Int32), va_rf (some w2.1), .int a1, va_rf a0]) me_J9_min_7cf53 ms_J9_min_7cf53 wl_J7_304 dJ7_copyOfRangeByte_39247_24 rfl (by simp [rt_cat, cat_i, cat_l]) rfl g11 ?_
  obtain ⟨w12, e13, hf⟩ := ob1 hf
  refine rt_cpb (pc := 27) wl_J7_150 (by decide) dJ7_copyOfRangeByte_39247_27 e13 ?_
  refine rt_aload (pc := 30) (i := 4) (x := (some w2.1)) 0 rfl dJ7_copyOfRangeByte_39247_30 ?_
  cases hf
  exact rt_ret (pc := 32) (rt_atR _ dJ7_copyOfRangeByte_39247_32) rfl
noncomputable def fJ7_copyOfRangeByte_39247 (E : ah_E) (a0 : Option Nat) (a1 : Int32) (a2 : Int32) (h : ah_H) : Option (Option Nat × ah_H) := bJ7_copyOfRangeByte_39247_0 E a0 a1 a2 h
set_option maxRecDepth 20000 in
set_option maxHeartbeats 4000000 in
theorem sJ7_copyOfRangeByte_39247 {X : ah_X} (d : Nat) (hd : 1 ≤ d) {a0 : Option Nat} {a1 : Int32} {a2 : Int32} {h : ah_H} {r : Option Nat} {h2 : ah_H} (hf : fJ7_copyOfRangeByte_39247 X.2.2.2 a0 a1 a2 h = some (r, h2)) : Rn X yJ7_copyOfRangeByte_39247 cJ7_copyOfRangeByte_39247 5 (some (.array .byte)) d [va_rf a0, .int a1, .int a2] h (some (va_rf r)) h2 := by
  unfold fJ7_copyOfRangeByte_39247 at hf
  obtain ⟨d, rfl⟩ : ∃ k, d = k + 1 := ⟨d - 1, by omega⟩
  exact Rn.of2 me_J7_copyOfRangeByte_39247 (by simp [lg_sl, rt_cat, cat_i, cat_l]) (ok_a _ _) (l := [(0, va_rf a0), (1, .int a1), (2, .int a2)]) (by simp [lv_args, rt_cat, cat_i, cat_l]) (rJ7_copyOfRangeByte_39247_0 (by omega) hf)
noncomputable def bJ7_copyOfRange_39247_10 (E : ah_E) (a0 : Option Nat) (a1 : Int32) (a2 : Int32) (h : ah_H) : Option (Option Nat × ah_H) :=
  ob2 (fJ7_copyOfRangeByte_39247 E a0 a1 a2 h) fun v3 w2 =>
  some (v3, w2)
set_option maxRecDepth 20000 in
set_option maxHeartbeats 4000000 in
theorem rJ7_copyOfRange_39247_10 {X : ah_X} {d : Nat} (hd : 1 ≤ d) {a0 : Option Nat} {a1 : Int32} {a2 : Int32} {h : ah_H} {r : Option Nat} {h2 : ah_H} (hf : bJ7_copyOfRange_39247_10 X.2.2.2 a0 a1 a2 h = some (r, h2)) : Rt X yJ7_copyOfRange_39247 cJ7_copyOfRange_39247 3 (d + 1) 10 [(0, va_rf a0), (1, .int a1), (2, .int a2)] [] h (some (va_rf r)) h2 := by
  unfold bJ7_copyOfRange_39247_10 at hf
  refine rt_aload_n (pc := 10) (k0 := 0) (x := a0) 0 rfl dJ7_copyOfRange_39247_10 ?_
  refine rt_iload_n (pc := 11) (k0 := 1) (x := a1) 1 rfl dJ7_copyOfRange_39247_11 ?_
  refine rt_iload_n (pc := 12) (k0 := 2) (x := a2) 2 rfl dJ7_copyOfRange_39247_12 ?_
  obtain ⟨v3, w2, e1, hf⟩ := ob2_of hf
  have g4 := sJ7_copyOfRangeByte_39247 d (by omega) e1
  refine rt_callS (pc := 13) (As := [va_rf a0, .int a1, .int a2]) (st := []) me_J7_copyOfRangeByte_39247 ms_J7_copyOfRangeByte_39247 wl_J7_339 dJ7_copyOfRange_39247_13 rfl (by decide) rfl g4 ?_
  cases hf
  exact rt_ret (pc := 16) (rt_atR _ dJ7_copyOfRange_39247_16) rfl
noncomputable def bJ7_copyOfRange_39247_0 (E : ah_E) (a0 : Option Nat) (a1 : Int32) (a2 : Int32) (h : ah_H) : Option (Option Nat × ah_H) :=
  if a1 = 0 then
    (hp_len h a0).bind fun v2 =>
    if a2 = v2 then
      (hp_clo E h a0).bind fun w5 =>
      if hp_isb E w5 (some h.1) = false then none else
      some ((some h.1), w5)
    else
    bJ7_copyOfRange_39247_10 E a0 a1 a2 h
  else
  bJ7_copyOfRange_39247_10 E a0 a1 a2 h
set_option maxRecDepth 20000 in
set_option maxHeartbeats 4000000 in
theorem rJ7_copyOfRange_39247_0 {X : ah_X} {d : Nat} (hd : 1 ≤ d) {a0 : Option Nat} {a1 : Int32} {a2 : Int32} {h : ah_H} {r : Option Nat} {h2 : ah_H} (hf : bJ7_copyOfRange_39247_0 X.2.2.2 a0 a1 a2 h = some (r, h2)) : Rt X yJ7_copyOfRange_39247 cJ7_copyOfRange_39247 3 (d + 1) 0 [(0, va_rf a0), (1, .int a1), (2, .int a2)] [] h (some (va_rf r)) h2 := by
  unfold bJ7_copyOfRange_39247_0 at hf
  refine rt_iload_n (pc := 0) (k0 := 1) (x := a1) 1 rfl dJ7_copyOfRange_39247_0 ?_
  by_cases c1 : a1 = 0
  · rw [if_pos c1] at hf
    refine rt_if_ne_p (pc := 1) (x := a1) (tgt := 10) (by decide) dJ7_copyOfRange_39247_1 c1 ?_
    refine rt_iload_n (pc := 4) (k0 := 2) (x := a2) 2 rfl dJ7_copyOfRange_39247_4 ?_
    refine rt_aload_n (pc := 5) (k0 := 0) (x := a0) 0 rfl dJ7_copyOfRange_39247_5 ?_
    obtain ⟨v2, e3, hf⟩ := ob1 hf
    refine rt_alen (pc := 6) dJ7_copyOfRange_39247_6 e3 ?_
    by_cases c4 : a2 = v2
    · rw [if_pos c4] at hf
      refine rt_icmp_eq_p (pc := 7) (x := a2) (z := v2) (tgt := 17) (by decide) dJ7_copyOfRange_39247_7 c4 ?_
      refine rt_aload_n (pc := 17) (k0 := 0) (x := a0) 0 rfl dJ7_copyOfRange_39247_17 ?_
      obtain ⟨w5, e6, hf⟩ := ob1 hf
      refine rt_clone (pc := 18) wl_J7_310 (by decide) dJ7_copyOfRange_39247_18 e6 ?_
      by_cases c7 : hp_isb X.2.2.2 w5 (some h.1) = false
      · rw [if_pos c7] at hf; cases hf
      rw [if_neg c7] at hf
      refine rt_castB (pc := 21) (x := (some h.1)) wc_J7_311 dJ7_copyOfRange_39247_21 ((Bool.not_eq_false _).mp c7) ?_
      cases hf
      exact rt_ret (pc := 24) (rt_atR _ dJ7_copyOfRange_39247_24) rfl
    rw [if_neg c4] at hf
    refine rt_icmp_eq_n (pc := 7) (x := a2) (z := v2) (tgt := 17) (by decide) dJ7_copyOfRange_39247_7 c4 ?_
    exact rJ7_copyOfRange_39247_10 hd hf
  rw [if_neg c1] at hf
  refine rt_if_ne_n (pc := 1) (x := a1) (tgt := 10) (by decide) dJ7_copyOfRange_39247_1 c1 ?_
  exact rJ7_copyOfRange_39247_10 hd hf
noncomputable def fJ7_copyOfRange_39247 (E : ah_E) (a0 : Option Nat) (a1 : Int32) (a2 : Int32) (h : ah_H) : Option (Option Nat × ah_H) := bJ7_copyOfRange_39247_0 E a0 a1 a2 h
set_option maxRecDepth 20000 in
set_option maxHeartbeats 4000000 in
theorem sJ7_copyOfRange_39247 {X : ah_X} (d : Nat) (hd : 2 ≤ d) {a0 : Option Nat} {a1 : Int32} {a2 : Int32} {h : ah_H} {r : Option Nat} {h2 : ah_H} (hf : fJ7_copyOfRange_39247 X.2.2.2 a0 a1 a2 h = some (r, h2)) : Rn X yJ7_copyOfRange_39247 cJ7_copyOfRange_39247 3 (some (.array .byte)) d [va_rf a0, .int a1, .int a2] h (some (va_rf r)) h2 := by
  unfold fJ7_copyOfRange_39247 at hf
  obtain ⟨d, rfl⟩ : ∃ k, d = k + 1 := ⟨d - 1, by omega⟩
  exact Rn.of2 me_J7_copyOfRange_39247 (by simp [lg_sl, rt_cat, cat_i, cat_l]) (ok_a _ _) (l := [(0, va_rf a0), (1, .int a1), (2, .int a2)]) (by simp [lv_args, rt_cat, cat_i, cat_l]) (rJ7_copyOfRange_39247_0 (by omega) hf)
noncomputable def bJ7_copyOf_6403c_0 (E : ah_E) (a0 : Option Nat) (a1 : Int32) (a2 : Option Nat) (h : ah_H) : Option (Option Nat × ah_H) :=
  if a2 = (some E.2.2.1) then
    (hp_na h 4 a1 (.inr (.inr (.inr (.inr (fun _ => none)))))).bind fun w2 =>
    (hp_len w2 a0).bind fun v4 =>
    ob2 (fJ9_min_7cf53 E v4 a1 w2) fun v8 w7 =>
    (hp_cpq E w7 a0 (0 : Int32) (some h.1) (0 : Int32) v8).bind fun w10 =>
    some ((some h.1), w10)
  else
  none
set_option maxRecDepth 20000 in
set_option maxHeartbeats 4000000 in
theorem rJ7_copyOf_6403c_0 {X : ah_X} {d : Nat} (hd : 0 ≤ d) {a0 : Option Nat} {a1 : Int32} {a2 : Option Nat} {h : ah_H} {r : Option Nat} {h2 : ah_H} (hf : bJ7_copyOf_6403c_0 X.2.2.2 a0 a1 a2 h = some (r, h2)) : Rt X yJ7_copyOf_6403c cJ7_copyOf_6403c 4 (d + 1) 0 [(0, va_rf a0), (1, .int a1), (2, va_rf a2)] [] h (some (va_rf r)) h2 := by
  unfold bJ7_copyOf_6403c_0 at hf
  refine rt_aload_n (pc := 0) (k0 := 2) (x := a2) 2 rfl dJ7_copyOf_6403c_0 ?_
  refine rt_ldcM (pc := 1) wc_J7_110 dJ7_copyOf_6403c_1 ?_
  by_cases c1 : a2 = (some X.2.2.2.2.2.1)
  · rw [if_pos c1] at hf
    refine rt_acmp_ne_p (pc := 3) (x := a2) (z := (some X.2.2.2.2.2.1)) (tgt := 13) (by decide) dJ7_copyOf_6403c_3 c1 ?_
    refine rt_iload_n (pc := 6) (k0 := 1) (x := a1) 1 rfl dJ7_copyOf_6403c_6 ?_
    obtain ⟨w2, e3, hf⟩ := ob1 hf
    refine rt_anew (pc := 7) 4 "java/lang/Object" (by decide) rfl wc_J7_2 (fun _ hK => hK.2.2.1) dJ7_copyOf_6403c_7 e3 ?_
    refine rt_goto (pc := 10) (tgt := 24) (by decide) dJ7_copyOf_6403c_10 ?_
    refine rt_astore_n (pc := 24) (k0 := 3) (x := (some h.1)) (l2 := [(3, va_rf (some h.1)), (0, va_rf a0), (1, .int a1), (2, va_rf a2)]) (by decide) (by first | rfl | (simp [rt_cat, cat_i, cat_l]; done) | (simp [rt_cat, cat_i, cat_l]; decide)) dJ7_copyOf_6403c_24 ?_
    refine rt_aload_n (pc := 25) (k0 := 0) (x := a0) 1 rfl dJ7_copyOf_6403c_25 ?_
    refine rt_iconst (pc := 26) (n := 0) (v := (0 : Int32)) (by decide) dJ7_copyOf_6403c_26 ?_
    refine rt_aload_n (pc := 27) (k0 := 3) (x := (some h.1)) 0 rfl dJ7_copyOf_6403c_27 ?_
    refine rt_iconst (pc := 28) (n := 0) (v := (0 : Int32)) (by decide) dJ7_copyOf_6403c_28 ?_
    refine rt_aload_n (pc := 29) (k0 := 0) (x := a0) 1 rfl dJ7_copyOf_6403c_29 ?_
    obtain ⟨v4, e5, hf⟩ := ob1 hf
    refine rt_alen (pc := 30) dJ7_copyOf_6403c_30 e5 ?_
    refine rt_iload_n (pc := 31) (k0 := 1) (x := a1) 2 rfl dJ7_copyOf_6403c_31 ?_
    obtain ⟨v8, w7, e6, hf⟩ := ob2_of hf
    have g9 := sJ9_min_7cf53 d (by omega) e6
    refine rt_callS (pc := 32) (As := [.int v4, .int a1]) (st := [.int (0 : Int32), va_rf (some h.1), .int (0 : Int32), va_rf a0]) me_J9_min_7cf53 ms_J9_min_7cf53 wl_J7_304 dJ7_copyOf_6403c_32 rfl (by simp [rt_cat, cat_i, cat_l]) rfl g9 ?_
    obtain ⟨w10, e11, hf⟩ := ob1 hf
    refine rt_cpq (pc := 35) wl_J7_150 (by decide) dJ7_copyOf_6403c_35 e11 ?_
    refine rt_aload_n (pc := 38) (k0 := 3) (x := (some h.1)) 0 rfl dJ7_copyOf_6403c_38 ?_
    cases hf
    exact rt_ret (pc := 39) (rt_atR _ dJ7_copyOf_6403c_39) rfl
  rw [if_neg c1] at hf
  refine rt_acmp_ne_n (pc := 3) (x := a2) (z := (some X.2.2.2.2.2.1)) (tgt := 13) (by decide) dJ7_copyOf_6403c_3 c1 ?_
  refine rt_aload_n (pc := 13) (k0 := 2) (x := a2) 2 rfl dJ7_copyOf_6403c_13 ?_
  cases hf
noncomputable def fJ7_copyOf_6403c (E : ah_E) (a0 : Option Nat) (a1 : Int32) (a2 : Option Nat) (h : ah_H) : Option (Option Nat × ah_H) := bJ7_copyOf_6403c_0 E a0 a1 a2 h
set_option maxRecDepth 20000 in
set_option maxHeartbeats 4000000 in
theorem sJ7_copyOf_6403c {X : ah_X} (d : Nat) (hd : 1 ≤ d) {a0 : Option Nat} {a1 : Int32} {a2 : Option Nat} {h : ah_H} {r : Option Nat} {h2 : ah_H} (hf : fJ7_copyOf_6403c X.2.2.2 a0 a1 a2 h = some (r, h2)) : Rn X yJ7_copyOf_6403c cJ7_copyOf_6403c 4 (some (.array (.object "java/lang/Object"))) d [va_rf a0, .int a1, va_rf a2] h (some (va_rf r)) h2 := by
  unfold fJ7_copyOf_6403c at hf
  obtain ⟨d, rfl⟩ : ∃ k, d = k + 1 := ⟨d - 1, by omega⟩
  exact Rn.of2 me_J7_copyOf_6403c (by simp [lg_sl, rt_cat, cat_i, cat_l]) (ok_a _ _) (l := [(0, va_rf a0), (1, .int a1), (2, va_rf a2)]) (by simp [lv_args, rt_cat, cat_i, cat_l]) (rJ7_copyOf_6403c_0 (by omega) hf)
noncomputable def bJ7_copyOf_1904c_0 (E : ah_E) (a0 : Option Nat) (a1 : Int32) (h : ah_H) : Option (Option Nat × ah_H) :=
  if hp_isq E h a0 = false then none else
  ob2 (fJ7_copyOf_6403c E a0 a1 (some E.2.2.1) h) fun v4 w3 =>
  some (v4, w3)
set_option maxRecDepth 20000 in
set_option maxHeartbeats 4000000 in
theorem rJ7_copyOf_1904c_0 {X : ah_X} {d : Nat} (hd : 1 ≤ d) {a0 : Option Nat} {a1 : Int32} {h : ah_H} {r : Option Nat} {h2 : ah_H} (hf : bJ7_copyOf_1904c_0 X.2.2.2 a0 a1 h = some (r, h2)) : Rt X yJ7_copyOf_1904c cJ7_copyOf_1904c 2 (d + 1) 0 [(0, va_rf a0), (1, .int a1)] [] h (some (va_rf r)) h2 := by
  unfold bJ7_copyOf_1904c_0 at hf
  refine rt_aload_n (pc := 0) (k0 := 0) (x := a0) 0 rfl dJ7_copyOf_1904c_0 ?_
  refine rt_iload_n (pc := 1) (k0 := 1) (x := a1) 1 rfl dJ7_copyOf_1904c_1 ?_
  refine rt_aload_n (pc := 2) (k0 := 0) (x := a0) 0 rfl dJ7_copyOf_1904c_2 ?_
  by_cases c1 : hp_isq X.2.2.2 h a0 = false
  · rw [if_pos c1] at hf; cases hf
  rw [if_neg c1] at hf
  refine rt_getC (pc := 3) wl_J7_86 (by simp [rt_cat, cat_i, cat_l]) dJ7_copyOf_1904c_3 ((Bool.not_eq_false _).mp c1) ?_
  obtain ⟨v4, w3, e2, hf⟩ := ob2_of hf
  have g5 := sJ7_copyOf_6403c d (by omega) e2
  refine rt_callS (pc := 6) (As := [va_rf a0, .int a1, va_rf (some X.2.2.2.2.2.1)]) (st := []) me_J7_copyOf_6403c ms_J7_copyOf_6403c wl_J7_300 dJ7_copyOf_1904c_6 rfl (by decide) rfl g5 ?_
  cases hf
  exact rt_ret (pc := 9) (rt_atR _ dJ7_copyOf_1904c_9) rfl
noncomputable def fJ7_copyOf_1904c (E : ah_E) (a0 : Option Nat) (a1 : Int32) (h : ah_H) : Option (Option Nat × ah_H) := bJ7_copyOf_1904c_0 E a0 a1 h
set_option maxRecDepth 20000 in
set_option maxHeartbeats 4000000 in
theorem sJ7_copyOf_1904c {X : ah_X} (d : Nat) (hd : 2 ≤ d) {a0 : Option Nat} {a1 : Int32} {h : ah_H} {r : Option Nat} {h2 : ah_H} (hf : fJ7_copyOf_1904c X.2.2.2 a0 a1 h = some (r, h2)) : Rn X yJ7_copyOf_1904c cJ7_copyOf_1904c 2 (some (.array (.object "java/lang/Object"))) d [va_rf a0, .int a1] h (some (va_rf r)) h2 := by
  unfold fJ7_copyOf_1904c at hf
  obtain ⟨d, rfl⟩ : ∃ k, d = k + 1 := ⟨d - 1, by omega⟩
  exact Rn.of2 me_J7_copyOf_1904c (by simp [lg_sl, rt_cat, cat_i, cat_l]) (ok_a _ _) (l := [(0, va_rf a0), (1, .int a1)]) (by simp [lv_args, rt_cat, cat_i, cat_l]) (rJ7_copyOf_1904c_0 (by omega) hf)
noncomputable def bJ7_copyOf_9075b_0 (E : ah_E) (a0 : Option Nat) (a1 : Int32) (h : ah_H) : Option (Option Nat × ah_H) :=
  (hp_len h a0).bind fun v1 =>
  if a1 = v1 then
    (hp_clo E h a0).bind fun w4 =>
    if hp_isb E w4 (some h.1) = false then none else
    some ((some h.1), w4)
  else
  (hp_na h 0 a1 (.inl (fun _ => 0))).bind fun w7 =>
  (hp_len w7 a0).bind fun v9 =>
  ob2 (fJ9_min_7cf53 E v9 a1 w7) fun v13 w12 =>
  (hp_cpb E w12 a0 (0 : Int32) (some h.1) (0 : Int32) v13).bind fun w15 =>
  some ((some h.1), w15)
set_option maxRecDepth 20000 in
set_option maxHeartbeats 4000000 in
theorem rJ7_copyOf_9075b_0 {X : ah_X} {d : Nat} (hd : 0 ≤ d) {a0 : Option Nat} {a1 : Int32} {h : ah_H} {r : Option Nat} {h2 : ah_H} (hf : bJ7_copyOf_9075b_0 X.2.2.2 a0 a1 h = some (r, h2)) : Rt X yJ7_copyOf_9075b cJ7_copyOf_9075b 3 (d + 1) 0 [(0, va_rf a0), (1, .int a1)] [] h (some (va_rf r)) h2 := by
  unfold bJ7_copyOf_9075b_0 at hf
  refine rt_iload_n (pc := 0) (k0 := 1) (x := a1) 1 rfl dJ7_copyOf_9075b_0 ?_
  refine rt_aload_n (pc := 1) (k0 := 0) (x := a0) 0 rfl dJ7_copyOf_9075b_1 ?_
  obtain ⟨v1, e2, hf⟩ := ob1 hf
  refine rt_alen (pc := 2) dJ7_copyOf_9075b_2 e2 ?_
  by_cases c3 : a1 = v1
  · rw [if_pos c3] at hf
    refine rt_icmp_ne_p (pc := 3) (x := a1) (z := v1) (tgt := 14) (by decide) dJ7_copyOf_9075b_3 c3 ?_
    refine rt_aload_n (pc := 6) (k0 := 0) (x := a0) 0 rfl dJ7_copyOf_9075b_6 ?_
    obtain ⟨w4, e5, hf⟩ := ob1 hf
    refine rt_clone (pc := 7) wl_J7_310 (by decide) dJ7_copyOf_9075b_7 e5 ?_
    by_cases c6 : hp_isb X.2.2.2 w4 (some h.1) = false
    · rw [if_pos c6] at hf; cases hf
    rw [if_neg c6] at hf
    refine rt_castB (pc := 10) (x := (some h.1)) wc_J7_311 dJ7_copyOf_9075b_10 ((Bool.not_eq_false _).mp c6) ?_
    cases hf
    exact rt_ret (pc := 13) (rt_atR _ dJ7_copyOf_9075b_13) rfl
  rw [if_neg c3] at hf
  refine rt_icmp_ne_n (pc := 3) (x := a1) (z := v1) (tgt := 14) (by decide) dJ7_copyOf_9075b_3 c3 ?_
  refine rt_iload_n (pc := 14) (k0 := 1) (x := a1) 1 rfl dJ7_copyOf_9075b_14 ?_
  obtain ⟨w7, e8, hf⟩ := ob1 hf
  refine rt_newa (pc := 15) 0 (by decide) rfl wa_byte (fun _ _ => rfl) (by decide) dJ7_copyOf_9075b_15 e8 ?_
  refine rt_astore_n (pc := 17) (k0 := 2) (x := (some h.1)) (l2 := [(2, va_rf (some h.1)), (0, va_rf a0), (1, .int a1)]) (by decide) (by first | rfl | (simp [rt_cat, cat_i, cat_l]; done) | (simp [rt_cat, cat_i, cat_l]; decide)) dJ7_copyOf_9075b_17 ?_
  refine rt_aload_n (pc := 18) (k0 := 0) (x := a0) 1 rfl dJ7_copyOf_9075b_18 ?_
  refine rt_iconst (pc := 19) (n := 0) (v := (0 : Int32)) (by decide) dJ7_copyOf_9075b_19 ?_
  refine rt_aload_n (pc := 20) (k0 := 2) (x := (some h.1)) 0 rfl dJ7_copyOf_9075b_20 ?_
  refine rt_iconst (pc := 21) (n := 0) (v := (0 : Int32)) (by decide) dJ7_copyOf_9075b_21 ?_
  refine rt_aload_n (pc := 22) (k0 := 0) (x := a0) 1 rfl dJ7_copyOf_9075b_22 ?_
  obtain ⟨v9, e10, hf⟩ := ob1 hf
  refine rt_alen (pc := 23) dJ7_copyOf_9075b_23 e10 ?_
  refine rt_iload_n (pc := 24) (k0 := 1) (x := a1) 2 rfl dJ7_copyOf_9075b_24 ?_
  obtain ⟨v13, w12, e11, hf⟩ := ob2_of hf
  have g14 := sJ9_min_7cf53 d (by omega) e11
  refine rt_callS (pc := 25) (As := [.int v9, .int a1]) (st := [.int (0 : Int32), va_rf (some h.1), .int (0 : Int32), va_rf a0]) me_J9_min_7cf53 ms_J9_min_7cf53 wl_J7_304 dJ7_copyOf_9075b_25 rfl (by simp [rt_cat, cat_i, cat_l]) rfl g14 ?_
  obtain ⟨w15, e16, hf⟩ := ob1 hf
  refine rt_cpb (pc := 28) wl_J7_150 (by decide) dJ7_copyOf_9075b_28 e16 ?_
  refine rt_aload_n (pc := 31) (k0 := 2) (x := (some h.1)) 0 rfl dJ7_copyOf_9075b_31 ?_
  cases hf
  exact rt_ret (pc := 32) (rt_atR _ dJ7_copyOf_9075b_32) rfl
noncomputable def fJ7_copyOf_9075b (E : ah_E) (a0 : Option Nat) (a1 : Int32) (h : ah_H) : Option (Option Nat × ah_H) := bJ7_copyOf_9075b_0 E a0 a1 h
set_option maxRecDepth 20000 in
set_option maxHeartbeats 4000000 in
theorem sJ7_copyOf_9075b {X : ah_X} (d : Nat) (hd : 1 ≤ d) {a0 : Option Nat} {a1 : Int32} {h : ah_H} {r : Option Nat} {h2 : ah_H} (hf : fJ7_copyOf_9075b X.2.2.2 a0 a1 h = some (r, h2)) : Rn X yJ7_copyOf_9075b cJ7_copyOf_9075b 3 (some (.array .byte)) d [va_rf a0, .int a1] h (some (va_rf r)) h2 := by
  unfold fJ7_copyOf_9075b at hf
  obtain ⟨d, rfl⟩ : ∃ k, d = k + 1 := ⟨d - 1, by omega⟩
  exact Rn.of2 me_J7_copyOf_9075b (by simp [lg_sl, rt_cat, cat_i, cat_l]) (ok_a _ _) (l := [(0, va_rf a0), (1, .int a1)]) (by simp [lv_args, rt_cat, cat_i, cat_l]) (rJ7_copyOf_9075b_0 (by omega) hf)
noncomputable def bJ7_fill_031fb_5 (E : ah_E) : Nat → Option Nat → Int32 → Int32 → Int32 → ah_H → Option ah_H
  | 0 => fun _ _ _ _ _ => none
  | n + 1 => fun a0 a1 a2 a3 h =>
  if a3 ≤ a2 then
    some h
  else
  (hp_stb h a0 a2 a1).bind fun w2 =>
  bJ7_fill_031fb_5 E n a0 a1 (a2 + 1) a3 w2
set_option maxRecDepth 20000 in
set_option maxHeartbeats 4000000 in
theorem rJ7_fill_031fb_5 {X : ah_X} {d : Nat} (n : Nat) : ∀ (a0 : Option Nat) (a1 : Int32) (a2 : Int32) (a3 : Int32) (h : ah_H) (h2 : ah_H), bJ7_fill_031fb_5 X.2.2.2 n a0 a1 a2 a3 h = some h2 → Rt X yJ7_fill_031fb cJ7_fill_031fb 4 d 5 [(0, va_rf a0), (1, .int a1), (2, .int a2), (3, .int a3)] [] h none h2 := by
  induction n with
  | zero => intro a0 a1 a2 a3 h h2 hf; cases hf
  | succ n ih =>
  intro a0 a1 a2 a3 h h2 hf
  unfold bJ7_fill_031fb_5 at hf
  refine rt_iload_n (pc := 5) (k0 := 2) (x := a2) 2 rfl dJ7_fill_031fb_5 ?_
  refine rt_iload_n (pc := 6) (k0 := 3) (x := a3) 3 rfl dJ7_fill_031fb_6 ?_
  by_cases c1 : a3 ≤ a2
  · rw [if_pos c1] at hf
    refine rt_icmp_ge_p (pc := 7) (x := a2) (z := a3) (tgt := 20) (by decide) dJ7_fill_031fb_7 c1 ?_
    cases hf
    exact rt_ret (pc := 20) dJ7_fill_031fb_20 rfl
  rw [if_neg c1] at hf
  refine rt_icmp_ge_n (pc := 7) (x := a2) (z := a3) (tgt := 20) (by decide) dJ7_fill_031fb_7 c1 ?_
  refine rt_aload_n (pc := 10) (k0 := 0) (x := a0) 0 rfl dJ7_fill_031fb_10 ?_
  refine rt_iload_n (pc := 11) (k0 := 2) (x := a2) 2 rfl dJ7_fill_031fb_11 ?_
  refine rt_iload_n (pc := 12) (k0 := 1) (x := a1) 1 rfl dJ7_fill_031fb_12 ?_
  obtain ⟨w2, e3, hf⟩ := ob1 hf
  refine rt_bast (pc := 13) dJ7_fill_031fb_13 e3 ?_
  refine rt_iinc (pc := 14) (i := 2) (n := 1) (x := a2) (v := (a2 + 1)) (l2 := [(2, .int (a2 + 1)), (0, va_rf a0), (1, .int a1), (3, .int a3)]) 2 rfl rfl (by decide) (by first | rfl | (simp [rt_cat, cat_i, cat_l]; done) | (simp [rt_cat, cat_i, cat_l]; decide)) dJ7_fill_031fb_14 ?_
  refine rt_goto (pc := 17) (tgt := 5) (by decide) dJ7_fill_031fb_17 ?_
  exact rt_locals (rt_sub [1, 2, 0, 3] rfl) (ih _ _ _ _ _ _ hf)
noncomputable def bJ7_fill_031fb_0 (E : ah_E) (a0 : Option Nat) (a1 : Int32) (h : ah_H) : Option ah_H :=
  (hp_len h a0).bind fun v1 =>
  bJ7_fill_031fb_5 E zf a0 a1 (0 : Int32) v1 h
set_option maxRecDepth 20000 in
set_option maxHeartbeats 4000000 in
theorem rJ7_fill_031fb_0 {X : ah_X} {d : Nat} {a0 : Option Nat} {a1 : Int32} {h : ah_H} {h2 : ah_H} (hf : bJ7_fill_031fb_0 X.2.2.2 a0 a1 h = some h2) : Rt X yJ7_fill_031fb cJ7_fill_031fb 4 d 0 [(0, va_rf a0), (1, .int a1)] [] h none h2 := by
  unfold bJ7_fill_031fb_0 at hf
  refine rt_iconst (pc := 0) (n := 0) (v := (0 : Int32)) (by decide) dJ7_fill_031fb_0 ?_
  refine rt_istore_n (pc := 1) (k0 := 2) (x := (0 : Int32)) (l2 := [(2, .int (0 : Int32)), (0, va_rf a0), (1, .int a1)]) (by decide) (by first | rfl | (simp [rt_cat, cat_i, cat_l]; done) | (simp [rt_cat, cat_i, cat_l]; decide)) dJ7_fill_031fb_1 ?_
  refine rt_aload_n (pc := 2) (k0 := 0) (x := a0) 1 rfl dJ7_fill_031fb_2 ?_
  obtain ⟨v1, e2, hf⟩ := ob1 hf
  refine rt_alen (pc := 3) dJ7_fill_031fb_3 e2 ?_
  refine rt_istore_n (pc := 4) (k0 := 3) (x := v1) (l2 := [(3, .int v1), (2, .int (0 : Int32)), (0, va_rf a0), (1, .int a1)]) (by decide) (by first | rfl | (simp [rt_cat, cat_i, cat_l]; done) | (simp [rt_cat, cat_i, cat_l]; decide)) dJ7_fill_031fb_4 ?_
  exact rt_locals (rt_sub [2, 3, 1, 0] rfl) (rJ7_fill_031fb_5 zf _ _ _ _ _ _ hf)
noncomputable def fJ7_fill_031fb (E : ah_E) (a0 : Option Nat) (a1 : Int32) (h : ah_H) : Option ah_H := bJ7_fill_031fb_0 E a0 a1 h
set_option maxRecDepth 20000 in
set_option maxHeartbeats 4000000 in
theorem sJ7_fill_031fb {X : ah_X} (d : Nat) (hd : 0 ≤ d) {a0 : Option Nat} {a1 : Int32} {h : ah_H} {h2 : ah_H} (hf : fJ7_fill_031fb X.2.2.2 a0 a1 h = some h2) : Rn X yJ7_fill_031fb cJ7_fill_031fb 4 none d [va_rf a0, .int a1] h none h2 := by
  unfold fJ7_fill_031fb at hf
  exact Rn.of2 me_J7_fill_031fb (by simp [lg_sl, rt_cat, cat_i, cat_l]) rfl (l := [(0, va_rf a0), (1, .int a1)]) (by simp [lv_args, rt_cat, cat_i, cat_l]) (rJ7_fill_031fb_0 hf)
noncomputable def bJ8_hugeLength_7cf53_0 (E : ah_E) (a0 : Int32) (a1 : Int32) (h : ah_H) : Option (Int32 × ah_H) :=
  if 0 ≤ (a0 + a1) then
    if (2147483639 : Int32) < (a0 + a1) then
      some ((a0 + a1), h)
    else
    some ((2147483639 : Int32), h)
  else
  none
set_option maxRecDepth 20000 in
set_option maxHeartbeats 4000000 in
theorem rJ8_hugeLength_7cf53_0 {X : ah_X} {d : Nat} {a0 : Int32} {a1 : Int32} {h : ah_H} {r : Int32} {h2 : ah_H} (hf : bJ8_hugeLength_7cf53_0 X.2.2.2 a0 a1 h = some (r, h2)) : Rt X yJ8_hugeLength_7cf53 cJ8_hugeLength_7cf53 3 d 0 [(0, .int a0), (1, .int a1)] [] h (some (.int r)) h2 := by
  unfold bJ8_hugeLength_7cf53_0 at hf
  refine rt_iload_n (pc := 0) (k0 := 0) (x := a0) 0 rfl dJ8_hugeLength_7cf53_0 ?_
  refine rt_iload_n (pc := 1) (k0 := 1) (x := a1) 1 rfl dJ8_hugeLength_7cf53_1 ?_
  refine rt_iadd (pc := 2) (x := a0) (z := a1) dJ8_hugeLength_7cf53_2 ?_
  refine rt_istore_n (pc := 3) (k0 := 2) (x := (a0 + a1)) (l2 := [(2, .int (a0 + a1)), (0, .int a0), (1, .int a1)]) (by decide) (by first | rfl | (simp [rt_cat, cat_i, cat_l]; done) | (simp [rt_cat, cat_i, cat_l]; decide)) dJ8_hugeLength_7cf53_3 ?_
  refine rt_iload_n (pc := 4) (k0 := 2) (x := (a0 + a1)) 0 rfl dJ8_hugeLength_7cf53_4 ?_
  by_cases c1 : 0 ≤ (a0 + a1)
  · rw [if_pos c1] at hf
    refine rt_if_ge_p (pc := 5) (x := (a0 + a1)) (tgt := 49) (by decide) dJ8_hugeLength_7cf53_5 c1 ?_
    refine rt_iload_n (pc := 49) (k0 := 2) (x := (a0 + a1)) 0 rfl dJ8_hugeLength_7cf53_49 ?_
    refine rt_ldc (pc := 50) wk_J8_200 dJ8_hugeLength_7cf53_50 ?_
    by_cases c2 : (2147483639 : Int32) < (a0 + a1)
    · rw [if_pos c2] at hf
      refine rt_icmp_gt_p (pc := 52) (x := (a0 + a1)) (z := (2147483639 : Int32)) (tgt := 58) (by decide) dJ8_hugeLength_7cf53_52 c2 ?_
      refine rt_iload_n (pc := 58) (k0 := 2) (x := (a0 + a1)) 0 rfl dJ8_hugeLength_7cf53_58 ?_
      cases hf
      exact rt_ret (pc := 59) dJ8_hugeLength_7cf53_59 rfl
    rw [if_neg c2] at hf
    refine rt_icmp_gt_n (pc := 52) (x := (a0 + a1)) (z := (2147483639 : Int32)) (tgt := 58) (by decide) dJ8_hugeLength_7cf53_52 c2 ?_
    refine rt_ldc (pc := 55) wk_J8_200 dJ8_hugeLength_7cf53_55 ?_
    cases hf
    exact rt_ret (pc := 57) dJ8_hugeLength_7cf53_57 rfl
  rw [if_neg c1] at hf
  refine rt_if_ge_n (pc := 5) (x := (a0 + a1)) (tgt := 49) (by decide) dJ8_hugeLength_7cf53_5 c1 ?_
  cases hf
noncomputable def fJ8_hugeLength_7cf53 (E : ah_E) (a0 : Int32) (a1 : Int32) (h : ah_H) : Option (Int32 × ah_H) := bJ8_hugeLength_7cf53_0 E a0 a1 h
set_option maxRecDepth 20000 in
set_option maxHeartbeats 4000000 in
theorem sJ8_hugeLength_7cf53 {X : ah_X} (d : Nat) (hd : 0 ≤ d) {a0 : Int32} {a1 : Int32} {h : ah_H} {r : Int32} {h2 : ah_H} (hf : fJ8_hugeLength_7cf53 X.2.2.2 a0 a1 h = some (r, h2)) : Rn X yJ8_hugeLength_7cf53 cJ8_hugeLength_7cf53 3 (some .int) d [.int a0, .int a1] h (some (.int r)) h2 := by
  unfold fJ8_hugeLength_7cf53 at hf
  exact Rn.of2 me_J8_hugeLength_7cf53 (by simp [lg_sl, rt_cat, cat_i, cat_l]) (ok_i _) (l := [(0, .int a0), (1, .int a1)]) (by simp [lv_args, rt_cat, cat_i, cat_l]) (rJ8_hugeLength_7cf53_0 hf)
noncomputable def bJ9_max_7cf53_10 (E : ah_E) (s0 : Int32) (h : ah_H) : Option (Int32 × ah_H) :=
  some (s0, h)
set_option maxRecDepth 20000 in
set_option maxHeartbeats 4000000 in
theorem rJ9_max_7cf53_10 {X : ah_X} {d : Nat} {s0 : Int32} {h : ah_H} {r : Int32} {h2 : ah_H} (hf : bJ9_max_7cf53_10 X.2.2.2 s0 h = some (r, h2)) : Rt X yJ9_max_7cf53 cJ9_max_7cf53 2 d 10 [] [.int s0] h (some (.int r)) h2 := by
  unfold bJ9_max_7cf53_10 at hf
  cases hf
  exact rt_ret (pc := 10) dJ9_max_7cf53_10 rfl
noncomputable def bJ9_max_7cf53_0 (E : ah_E) (a0 : Int32) (a1 : Int32) (h : ah_H) : Option (Int32 × ah_H) :=
  if a0 < a1 then
    bJ9_max_7cf53_10 E a1 h
  else
  bJ9_max_7cf53_10 E a0 h
set_option maxRecDepth 20000 in
set_option maxHeartbeats 4000000 in
theorem rJ9_max_7cf53_0 {X : ah_X} {d : Nat} {a0 : Int32} {a1 : Int32} {h : ah_H} {r : Int32} {h2 : ah_H} (hf : bJ9_max_7cf53_0 X.2.2.2 a0 a1 h = some (r, h2)) : Rt X yJ9_max_7cf53 cJ9_max_7cf53 2 d 0 [(0, .int a0), (1, .int a1)] [] h (some (.int r)) h2 := by
  unfold bJ9_max_7cf53_0 at hf
  refine rt_iload_n (pc := 0) (k0 := 0) (x := a0) 0 rfl dJ9_max_7cf53_0 ?_
  refine rt_iload_n (pc := 1) (k0 := 1) (x := a1) 1 rfl dJ9_max_7cf53_1 ?_
  by_cases c1 : a0 < a1
  · rw [if_pos c1] at hf
    refine rt_icmp_lt_p (pc := 2) (x := a0) (z := a1) (tgt := 9) (by decide) dJ9_max_7cf53_2 c1 ?_
    refine rt_iload_n (pc := 9) (k0 := 1) (x := a1) 1 rfl dJ9_max_7cf53_9 ?_
    exact rt_locals (rt_sub [] rfl) (rJ9_max_7cf53_10 hf)
  rw [if_neg c1] at hf
  refine rt_icmp_lt_n (pc := 2) (x := a0) (z := a1) (tgt := 9) (by decide) dJ9_max_7cf53_2 c1 ?_
  refine rt_iload_n (pc := 5) (k0 := 0) (x := a0) 0 rfl dJ9_max_7cf53_5 ?_
  refine rt_goto (pc := 6) (tgt := 10) (by decide) dJ9_max_7cf53_6 ?_
  exact rt_locals (rt_sub [] rfl) (rJ9_max_7cf53_10 hf)
noncomputable def fJ9_max_7cf53 (E : ah_E) (a0 : Int32) (a1 : Int32) (h : ah_H) : Option (Int32 × ah_H) := bJ9_max_7cf53_0 E a0 a1 h
set_option maxRecDepth 20000 in
set_option maxHeartbeats 4000000 in
theorem sJ9_max_7cf53 {X : ah_X} (d : Nat) (hd : 0 ≤ d) {a0 : Int32} {a1 : Int32} {h : ah_H} {r : Int32} {h2 : ah_H} (hf : fJ9_max_7cf53 X.2.2.2 a0 a1 h = some (r, h2)) : Rn X yJ9_max_7cf53 cJ9_max_7cf53 2 (some .int) d [.int a0, .int a1] h (some (.int r)) h2 := by
  unfold fJ9_max_7cf53 at hf
  exact Rn.of2 me_J9_max_7cf53 (by simp [lg_sl, rt_cat, cat_i, cat_l]) (ok_i _) (l := [(0, .int a0), (1, .int a1)]) (by simp [lv_args, rt_cat, cat_i, cat_l]) (rJ9_max_7cf53_0 hf)
noncomputable def bJ8_newLength_cabcc_21 (E : ah_E) (a0 : Int32) (a1 : Int32) (h : ah_H) : Option (Int32 × ah_H) :=
  ob2 (fJ8_hugeLength_7cf53 E a0 a1 h) fun v3 w2 =>
  some (v3, w2)
set_option maxRecDepth 20000 in
set_option maxHeartbeats 4000000 in
theorem rJ8_newLength_cabcc_21 {X : ah_X} {d : Nat} (hd : 0 ≤ d) {a0 : Int32} {a1 : Int32} {h : ah_H} {r : Int32} {h2 : ah_H} (hf : bJ8_newLength_cabcc_21 X.2.2.2 a0 a1 h = some (r, h2)) : Rt X yJ8_newLength_cabcc cJ8_newLength_cabcc 4 (d + 1) 21 [(0, .int a0), (1, .int a1)] [] h (some (.int r)) h2 := by
  unfold bJ8_newLength_cabcc_21 at hf
  refine rt_iload_n (pc := 21) (k0 := 0) (x := a0) 0 rfl dJ8_newLength_cabcc_21 ?_
  refine rt_iload_n (pc := 22) (k0 := 1) (x := a1) 1 rfl dJ8_newLength_cabcc_22 ?_
  obtain ⟨v3, w2, e1, hf⟩ := ob2_of hf
  have g4 := sJ8_hugeLength_7cf53 d (by omega) e1
  refine rt_callS (pc := 23) (As := [.int a0, .int a1]) (st := []) me_J8_hugeLength_7cf53 ms_J8_hugeLength_7cf53 wl_J8_201 dJ8_newLength_cabcc_23 rfl (by decide) rfl g4 ?_
  cases hf
  exact rt_ret (pc := 26) dJ8_newLength_cabcc_26 rfl
noncomputable def bJ8_newLength_cabcc_0 (E : ah_E) (a0 : Int32) (a1 : Int32) (a2 : Int32) (h : ah_H) : Option (Int32 × ah_H) :=
  ob2 (fJ9_max_7cf53 E a1 a2 h) fun v3 w2 =>
  if (a0 + v3) ≤ (0 : Int32) then
    bJ8_newLength_cabcc_21 E a0 a1 w2
  else
  if (2147483639 : Int32) < (a0 + v3) then
    bJ8_newLength_cabcc_21 E a0 a1 w2
  else
  some ((a0 + v3), w2)
set_option maxRecDepth 20000 in
set_option maxHeartbeats 4000000 in
theorem rJ8_newLength_cabcc_0 {X : ah_X} {d : Nat} (hd : 0 ≤ d) {a0 : Int32} {a1 : Int32} {a2 : Int32} {h : ah_H} {r : Int32} {h2 : ah_H} (hf : bJ8_newLength_cabcc_0 X.2.2.2 a0 a1 a2 h = some (r, h2)) : Rt X yJ8_newLength_cabcc cJ8_newLength_cabcc 4 (d + 1) 0 [(0, .int a0), (1, .int a1), (2, .int a2)] [] h (some (.int r)) h2 := by
  unfold bJ8_newLength_cabcc_0 at hf
  refine rt_iload_n (pc := 0) (k0 := 0) (x := a0) 0 rfl dJ8_newLength_cabcc_0 ?_
  refine rt_iload_n (pc := 1) (k0 := 1) (x := a1) 1 rfl dJ8_newLength_cabcc_1 ?_
  refine rt_iload_n (pc := 2) (k0 := 2) (x := a2) 2 rfl dJ8_newLength_cabcc_2 ?_
  obtain ⟨v3, w2, e1, hf⟩ := ob2_of hf
  have g4 := sJ9_max_7cf53 d (by omega) e1
  refine rt_callS (pc := 3) (As := [.int a1, .int a2]) (st := [.int a0]) me_J9_max_7cf53 ms_J9_max_7cf53 wl_J8_194 dJ8_newLength_cabcc_3 rfl (by simp [rt_cat, cat_i, cat_l]) rfl g4 ?_
  refine rt_iadd (pc := 6) (x := a0) (z := v3) dJ8_newLength_cabcc_6 ?_
  refine rt_istore_n (pc := 7) (k0 := 3) (x := (a0 + v3)) (l2 := [(3, .int (a0 + v3)), (0, .int a0), (1, .int a1), (2, .int a2)]) (by decide) (by first | rfl | (simp [rt_cat, cat_i, cat_l]; done) | (simp [rt_cat, cat_i, cat_l]; decide)) dJ8_newLength_cabcc_7 ?_
  refine rt_iconst (pc := 8) (n := 0) (v := (0 : Int32)) (by decide) dJ8_newLength_cabcc_8 ?_
  refine rt_iload_n (pc := 9) (k0 := 3) (x := (a0 + v3)) 0 rfl dJ8_newLength_cabcc_9 ?_
  by_cases c5 : (a0 + v3) ≤ (0 : Int32)
  · rw [if_pos c5] at hf
    refine rt_icmp_ge_p (pc := 10) (x := (0 : Int32)) (z := (a0 + v3)) (tgt := 21) (by decide) dJ8_newLength_cabcc_10 c5 ?_
    exact rt_locals (rt_sub [1, 2] rfl) (rJ8_newLength_cabcc_21 hd hf)
  rw [if_neg c5] at hf
  refine rt_icmp_ge_n (pc := 10) (x := (0 : Int32)) (z := (a0 + v3)) (tgt := 21) (by decide) dJ8_newLength_cabcc_10 c5 ?_
  refine rt_iload_n (pc := 13) (k0 := 3) (x := (a0 + v3)) 0 rfl dJ8_newLength_cabcc_13 ?_
  refine rt_ldc (pc := 14) wk_J8_200 dJ8_newLength_cabcc_14 ?_
  by_cases c6 : (2147483639 : Int32) < (a0 + v3)
  · rw [if_pos c6] at hf
    refine rt_icmp_gt_p (pc := 16) (x := (a0 + v3)) (z := (2147483639 : Int32)) (tgt := 21) (by decide) dJ8_newLength_cabcc_16 c6 ?_
    exact rt_locals (rt_sub [1, 2] rfl) (rJ8_newLength_cabcc_21 hd hf)
  rw [if_neg c6] at hf
  refine rt_icmp_gt_n (pc := 16) (x := (a0 + v3)) (z := (2147483639 : Int32)) (tgt := 21) (by decide) dJ8_newLength_cabcc_16 c6 ?_
  refine rt_iload_n (pc := 19) (k0 := 3) (x := (a0 + v3)) 0 rfl dJ8_newLength_cabcc_19 ?_
  cases hf
  exact rt_ret (pc := 20) dJ8_newLength_cabcc_20 rfl
noncomputable def fJ8_newLength_cabcc (E : ah_E) (a0 : Int32) (a1 : Int32) (a2 : Int32) (h : ah_H) : Option (Int32 × ah_H) := bJ8_newLength_cabcc_0 E a0 a1 a2 h
set_option maxRecDepth 20000 in
set_option maxHeartbeats 4000000 in
theorem sJ8_newLength_cabcc {X : ah_X} (d : Nat) (hd : 1 ≤ d) {a0 : Int32} {a1 : Int32} {a2 : Int32} {h : ah_H} {r : Int32} {h2 : ah_H} (hf : fJ8_newLength_cabcc X.2.2.2 a0 a1 a2 h = some (r, h2)) : Rn X yJ8_newLength_cabcc cJ8_newLength_cabcc 4 (some .int) d [.int a0, .int a1, .int a2] h (some (.int r)) h2 := by
  unfold fJ8_newLength_cabcc at hf
  obtain ⟨d, rfl⟩ : ∃ k, d = k + 1 := ⟨d - 1, by omega⟩
  exact Rn.of2 me_J8_newLength_cabcc (by simp [lg_sl, rt_cat, cat_i, cat_l]) (ok_i _) (l := [(0, .int a0), (1, .int a1), (2, .int a2)]) (by simp [lv_args, rt_cat, cat_i, cat_l]) (rJ8_newLength_cabcc_0 (by omega) hf)
noncomputable def bJ9_max_f86c9_11 (E : ah_E) (s0 : Int64) (h : ah_H) : Option (Int64 × ah_H) :=
  some (s0, h)
set_option maxRecDepth 20000 in
set_option maxHeartbeats 4000000 in
theorem rJ9_max_f86c9_11 {X : ah_X} {d : Nat} {s0 : Int64} {h : ah_H} {r : Int64} {h2 : ah_H} (hf : bJ9_max_f86c9_11 X.2.2.2 s0 h = some (r, h2)) : Rt X yJ9_max_f86c9 cJ9_max_f86c9 4 d 11 [] [.long s0] h (some (.long r)) h2 := by
  unfold bJ9_max_f86c9_11 at hf
  cases hf
  exact rt_ret (pc := 11) dJ9_max_f86c9_11 rfl
noncomputable def bJ9_max_f86c9_0 (E : ah_E) (a0 : Int64) (a2 : Int64) (h : ah_H) : Option (Int64 × ah_H) :=
  if a0 < a2 then
    bJ9_max_f86c9_11 E a2 h
  else
  bJ9_max_f86c9_11 E a0 h
set_option maxRecDepth 20000 in
set_option maxHeartbeats 4000000 in
theorem rJ9_max_f86c9_0 {X : ah_X} {d : Nat} {a0 : Int64} {a2 : Int64} {h : ah_H} {r : Int64} {h2 : ah_H} (hf : bJ9_max_f86c9_0 X.2.2.2 a0 a2 h = some (r, h2)) : Rt X yJ9_max_f86c9 cJ9_max_f86c9 4 d 0 [(0, .long a0), (2, .long a2)] [] h (some (.long r)) h2 := by
  unfold bJ9_max_f86c9_0 at hf
  refine rt_lload_n (pc := 0) (k0 := 0) (x := a0) 0 rfl dJ9_max_f86c9_0 ?_
  refine rt_lload_n (pc := 1) (k0 := 2) (x := a2) 1 rfl dJ9_max_f86c9_1 ?_
  by_cases c1 : a0 < a2
  · rw [if_pos c1] at hf
    refine rt_lif_lt_p (pc := 2) (x := a0) (z := a2) (tgt := 10) (by decide) dJ9_max_f86c9_2 dJ9_max_f86c9_3 c1 ?_
    refine rt_lload_n (pc := 10) (k0 := 2) (x := a2) 1 rfl dJ9_max_f86c9_10 ?_
    exact rt_locals (rt_sub [] rfl) (rJ9_max_f86c9_11 hf)
  rw [if_neg c1] at hf
  refine rt_lif_lt_n (pc := 2) (x := a0) (z := a2) (tgt := 10) (by decide) dJ9_max_f86c9_2 dJ9_max_f86c9_3 c1 ?_
  refine rt_lload_n (pc := 6) (k0 := 0) (x := a0) 0 rfl dJ9_max_f86c9_6 ?_
  refine rt_goto (pc := 7) (tgt := 11) (by decide) dJ9_max_f86c9_7 ?_
  exact rt_locals (rt_sub [] rfl) (rJ9_max_f86c9_11 hf)
noncomputable def fJ9_max_f86c9 (E : ah_E) (a0 : Int64) (a2 : Int64) (h : ah_H) : Option (Int64 × ah_H) := bJ9_max_f86c9_0 E a0 a2 h
set_option maxRecDepth 20000 in
set_option maxHeartbeats 4000000 in
theorem sJ9_max_f86c9 {X : ah_X} (d : Nat) (hd : 0 ≤ d) {a0 : Int64} {a2 : Int64} {h : ah_H} {r : Int64} {h2 : ah_H} (hf : fJ9_max_f86c9 X.2.2.2 a0 a2 h = some (r, h2)) : Rn X yJ9_max_f86c9 cJ9_max_f86c9 4 (some .long) d [.long a0, .long a2] h (some (.long r)) h2 := by
  unfold fJ9_max_f86c9 at hf
  exact Rn.of2 me_J9_max_f86c9 (by simp [lg_sl, rt_cat, cat_i, cat_l]) rfl (l := [(0, .long a0), (2, .long a2)]) (by simp [lv_args, rt_cat, cat_i, cat_l]) (rJ9_max_f86c9_0 hf)
noncomputable def bJ9_min_f86c9_11 (E : ah_E) (s0 : Int64) (h : ah_H) : Option (Int64 × ah_H) :=
  some (s0, h)
set_option maxRecDepth 20000 in
set_option maxHeartbeats 4000000 in
theorem rJ9_min_f86c9_11 {X : ah_X} {d : Nat} {s0 : Int64} {h : ah_H} {r : Int64} {h2 : ah_H} (hf : bJ9_min_f86c9_11 X.2.2.2 s0 h = some (r, h2)) : Rt X yJ9_min_f86c9 cJ9_min_f86c9 4 d 11 [] [.long s0] h (some (.long r)) h2 := by
  unfold bJ9_min_f86c9_11 at hf
  cases hf
  exact rt_ret (pc := 11) dJ9_min_f86c9_11 rfl
noncomputable def bJ9_min_f86c9_0 (E : ah_E) (a0 : Int64) (a2 : Int64) (h : ah_H) : Option (Int64 × ah_H) :=
  if a2 < a0 then
    bJ9_min_f86c9_11 E a2 h
  else
  bJ9_min_f86c9_11 E a0 h
set_option maxRecDepth 20000 in
set_option maxHeartbeats 4000000 in
theorem rJ9_min_f86c9_0 {X : ah_X} {d : Nat} {a0 : Int64} {a2 : Int64} {h : ah_H} {r : Int64} {h2 : ah_H} (hf : bJ9_min_f86c9_0 X.2.2.2 a0 a2 h = some (r, h2)) : Rt X yJ9_min_f86c9 cJ9_min_f86c9 4 d 0 [(0, .long a0), (2, .long a2)] [] h (some (.long r)) h2 := by
  unfold bJ9_min_f86c9_0 at hf
  refine rt_lload_n (pc := 0) (k0 := 0) (x := a0) 0 rfl dJ9_min_f86c9_0 ?_
  refine rt_lload_n (pc := 1) (k0 := 2) (x := a2) 1 rfl dJ9_min_f86c9_1 ?_
  by_cases c1 : a2 < a0
  · rw [if_pos c1] at hf
    refine rt_lif_gt_p (pc := 2) (x := a0) (z := a2) (tgt := 10) (by decide) dJ9_min_f86c9_2 dJ9_min_f86c9_3 c1 ?_
    refine rt_lload_n (pc := 10) (k0 := 2) (x := a2) 1 rfl dJ9_min_f86c9_10 ?_
    exact rt_locals (rt_sub [] rfl) (rJ9_min_f86c9_11 hf)
  rw [if_neg c1] at hf
  refine rt_lif_gt_n (pc := 2) (x := a0) (z := a2) (tgt := 10) (by decide) dJ9_min_f86c9_2 dJ9_min_f86c9_3 c1 ?_
  refine rt_lload_n (pc := 6) (k0 := 0) (x := a0) 0 rfl dJ9_min_f86c9_6 ?_
  refine rt_goto (pc := 7) (tgt := 11) (by decide) dJ9_min_f86c9_7 ?_
  exact rt_locals (rt_sub [] rfl) (rJ9_min_f86c9_11 hf)
noncomputable def fJ9_min_f86c9 (E : ah_E) (a0 : Int64) (a2 : Int64) (h : ah_H) : Option (Int64 × ah_H) := bJ9_min_f86c9_0 E a0 a2 h
set_option maxRecDepth 20000 in
set_option maxHeartbeats 4000000 in
theorem sJ9_min_f86c9 {X : ah_X} (d : Nat) (hd : 0 ≤ d) {a0 : Int64} {a2 : Int64} {h : ah_H} {r : Int64} {h2 : ah_H} (hf : fJ9_min_f86c9 X.2.2.2 a0 a2 h = some (r, h2)) : Rn X yJ9_min_f86c9 cJ9_min_f86c9 4 (some .long) d [.long a0, .long a2] h (some (.long r)) h2 := by
  unfold fJ9_min_f86c9 at hf
  exact Rn.of2 me_J9_min_f86c9 (by simp [lg_sl, rt_cat, cat_i, cat_l]) rfl (l := [(0, .long a0), (2, .long a2)]) (by simp [lv_args, rt_cat, cat_i, cat_l]) (rJ9_min_f86c9_0 hf)
noncomputable def bJx4a65c_grow_92f84_20 (E : ah_E) (a0 : Option Nat) (a1 : Int32) (a2 : Int32) (h : ah_H) : Option (Option Nat × ah_H) :=
  ob2 (fJ8_newLength_cabcc E a2 (a1 - a2) (a2 >>> ((1 : Int32) &&& 31)) h) fun v3 w2 =>
  (hp_gr w2 a0 0 1).bind fun v5 =>
  ob2 (fJ7_copyOf_1904c E v5 v3 w2) fun v9 w8 =>
  (hp_pv w8 a0 0 1 (va_rf v9)).bind fun w11 =>
  some (v9, w11)
set_option maxRecDepth 20000 in
set_option maxHeartbeats 4000000 in
theorem rJx4a65c_grow_92f84_20 {X : ah_X} {d : Nat} (hd : 2 ≤ d) {a0 : Option Nat} {a1 : Int32} {a2 : Int32} {h : ah_H} {r : Option Nat} {h2 : ah_H} (hf : bJx4a65c_grow_92f84_20 X.2.2.2 a0 a1 a2 h = some (r, h2)) : Rt X yJx4a65c_grow_92f84 cJx4a65c_grow_92f84 4 (d + 1) 20 [(0, va_rf a0), (1, .int a1), (2, .int a2)] [] h (some (va_rf r)) h2 := by
  unfold bJx4a65c_grow_92f84_20 at hf
  refine rt_iload_n (pc := 20) (k0 := 2) (x := a2) 2 rfl dJx4a65c_grow_92f84_20 ?_
  refine rt_iload_n (pc := 21) (k0 := 1) (x := a1) 1 rfl dJx4a65c_grow_92f84_21 ?_
  refine rt_iload_n (pc := 22) (k0 := 2) (x := a2) 2 rfl dJx4a65c_grow_92f84_22 ?_
  refine rt_isub (pc := 23) (x := a1) (z := a2) dJx4a65c_grow_92f84_23 ?_
  refine rt_iload_n (pc := 24) (k0 := 2) (x := a2) 2 rfl dJx4a65c_grow_92f84_24 ?_
  refine rt_iconst (pc := 25) (n := 1) (v := (1 : Int32)) (by decide) dJx4a65c_grow_92f84_25 ?_
  refine rt_ishr (pc := 26) (x := a2) (z := (1 : Int32)) dJx4a65c_grow_92f84_26 ?_
  obtain ⟨v3, w2, e1, hf⟩ := ob2_of hf
  have g4 := sJ8_newLength_cabcc d (by omega) e1
  refine rt_callS (pc := 27) (As := [.int a2, .int (a1 - a2), .int (a2 >>> ((1 : Int32) &&& 31))]) (st := []) me_J8_newLength_cabcc ms_J8_newLength_cabcc wl_Jx4a65c_73 dJx4a65c_grow_92f84_27 rfl (by decide) rfl g4 ?_
  refine rt_istore_n (pc := 30) (k0 := 3) (x := v3) (l2 := [(3, .int v3), (0, va_rf a0), (1, .int a1), (2, .int a2)]) (by decide) (by first | rfl | (simp [rt_cat, cat_i, cat_l]; done) | (simp [rt_cat, cat_i, cat_l]; decide)) dJx4a65c_grow_92f84_30 ?_
  refine rt_aload_n (pc := 31) (k0 := 0) (x := a0) 1 rfl dJx4a65c_grow_92f84_31 ?_
  refine rt_aload_n (pc := 32) (k0 := 0) (x := a0) 1 rfl dJx4a65c_grow_92f84_32 ?_
  obtain ⟨v5, e6, hf⟩ := ob1 hf
  refine rt_gr (pc := 33) fd_Jx4a65c_9 dJx4a65c_grow_92f84_33 e6 ?_
  refine rt_iload_n (pc := 36) (k0 := 3) (x := v3) 0 rfl dJx4a65c_grow_92f84_36 ?_
  obtain ⟨v9, w8, e7, hf⟩ := ob2_of hf
  have g10 := sJ7_copyOf_1904c d (by omega) e7
  refine rt_callS (pc := 37) (As := [va_rf v5, .int v3]) (st := [va_rf a0]) me_J7_copyOf_1904c ms_J7_copyOf_1904c wl_Jx4a65c_66 dJx4a65c_grow_92f84_37 rfl (by simp [rt_cat, cat_i, cat_l]) rfl g10 ?_
  refine rt_dup_x1 (pc := 40) (rt_cat _) (rt_cat _) dJx4a65c_grow_92f84_40 ?_
  obtain ⟨w11, e12, hf⟩ := ob1 hf
  refine rt_putf (pc := 41) (x := a0) fw_Jx4a65c_9 (Or.inl rfl) (pf_a _ _).1 (pf_a _ _).2 dJx4a65c_grow_92f84_41 e12 ?_
  cases hf
  exact rt_ret (pc := 44) (rt_atR _ dJx4a65c_grow_92f84_44) rfl
noncomputable def bJx4a65c_grow_92f84_0 (E : ah_E) (a0 : Option Nat) (a1 : Int32) (h : ah_H) : Option (Option Nat × ah_H) :=
  (hp_gr h a0 0 1).bind fun v1 =>
  (hp_len h v1).bind fun v3 =>
  if 0 < v3 then
    bJx4a65c_grow_92f84_20 E a0 a1 v3 h
  else
  (hp_gr h a0 0 1).bind fun v6 =>
  if v6 = (some E.1) then
    ob2 (fJ9_max_7cf53 E (10 : Int32) a1 h) fun v11 w10 =>
    (hp_na w10 4 v11 (.inr (.inr (.inr (.inr (fun _ => none)))))).bind fun w13 =>
    (hp_pv w13 a0 0 1 (va_rf (some w10.1))).bind fun w15 =>
    some ((some w10.1), w15)
  else
  bJx4a65c_grow_92f84_20 E a0 a1 v3 h
set_option maxRecDepth 20000 in
set_option maxHeartbeats 4000000 in
theorem rJx4a65c_grow_92f84_0 {X : ah_X} {d : Nat} (hd : 2 ≤ d) {a0 : Option Nat} {a1 : Int32} {h : ah_H} {r : Option Nat} {h2 : ah_H} (hf : bJx4a65c_grow_92f84_0 X.2.2.2 a0 a1 h = some (r, h2)) : Rt X yJx4a65c_grow_92f84 cJx4a65c_grow_92f84 4 (d + 1) 0 [(0, va_rf a0), (1, .int a1)] [] h (some (va_rf r)) h2 := by
  unfold bJx4a65c_grow_92f84_0 at hf
  refine rt_aload_n (pc := 0) (k0 := 0) (x := a0) 0 rfl dJx4a65c_grow_92f84_0 ?_
  obtain ⟨v1, e2, hf⟩ := ob1 hf
  refine rt_gr (pc := 1) fd_Jx4a65c_9 dJx4a65c_grow_92f84_1 e2 ?_
  obtain ⟨v3, e4, hf⟩ := ob1 hf
  refine rt_alen (pc := 4) dJx4a65c_grow_92f84_4 e4 ?_
  refine rt_istore_n (pc := 5) (k0 := 2) (x := v3) (l2 := [(2, .int v3), (0, va_rf a0), (1, .int a1)]) (by decide) (by first | rfl | (simp [rt_cat, cat_i, cat_l]; done) | (simp [rt_cat, cat_i, cat_l]; decide)) dJx4a65c_grow_92f84_5 ?_
  refine rt_iload_n (pc := 6) (k0 := 2) (x := v3) 0 rfl dJx4a65c_grow_92f84_6 ?_
  by_cases c5 : 0 < v3
  · rw [if_pos c5] at hf
    refine rt_if_gt_p (pc := 7) (x := v3) (tgt := 20) (by decide) dJx4a65c_grow_92f84_7 c5 ?_
    exact rt_locals (rt_sub [1, 2, 0] rfl) (rJx4a65c_grow_92f84_20 hd hf)
  rw [if_neg c5] at hf
  refine rt_if_gt_n (pc := 7) (x := v3) (tgt := 20) (by decide) dJx4a65c_grow_92f84_7 c5 ?_
  refine rt_aload_n (pc := 10) (k0 := 0) (x := a0) 1 rfl dJx4a65c_grow_92f84_10 ?_
  obtain ⟨v6, e7, hf⟩ := ob1 hf
  refine rt_gr (pc := 11) fd_Jx4a65c_9 dJx4a65c_grow_92f84_11 e7 ?_
  refine rt_getE (pc := 14) wf_Jx4a65c_39 dJx4a65c_grow_92f84_14 ?_
  by_cases c8 : v6 = (some X.2.2.2.1)
  · rw [if_pos c8] at hf
    refine rt_acmp_eq_p (pc := 17) (x := v6) (z := (some X.2.2.2.1)) (tgt := 45) (by decide) dJx4a65c_grow_92f84_17 c8 ?_
    refine rt_aload_n (pc := 45) (k0 := 0) (x := a0) 1 rfl dJx4a65c_grow_92f84_45 ?_
    refine rt_bipush (pc := 46) (n := 10) (v := (10 : Int32)) (by decide) dJx4a65c_grow_92f84_46 ?_
    refine rt_iload_n (pc := 48) (k0 := 1) (x := a1) 2 rfl dJx4a65c_grow_92f84_48 ?_
    obtain ⟨v11, w10, e9, hf⟩ := ob2_of hf
    have g12 := sJ9_max_7cf53 d (by omega) e9
    refine rt_callS (pc := 49) (As := [.int (10 : Int32), .int a1]) (st := [va_rf a0]) me_J9_max_7cf53 ms_J9_max_7cf53 wl_Jx4a65c_79 dJx4a65c_grow_92f84_49 rfl (by simp [rt_cat, cat_i, cat_l]) rfl g12 ?_
    obtain ⟨w13, e14, hf⟩ := ob1 hf
    refine rt_anew (pc := 52) 4 "java/lang/Object" (by decide) rfl wc_Jx4a65c_7 (fun _ hK => hK.2.2.1) dJx4a65c_grow_92f84_52 e14 ?_
    refine rt_dup_x1 (pc := 55) (rt_cat _) (rt_cat _) dJx4a65c_grow_92f84_55 ?_
    obtain ⟨w15, e16, hf⟩ := ob1 hf
    refine rt_putf (pc := 56) (x := a0) fw_Jx4a65c_9 (Or.inl rfl) (pf_a _ _).1 (pf_a _ _).2 dJx4a65c_grow_92f84_56 e16 ?_
    cases hf
    exact rt_ret (pc := 59) (rt_atR _ dJx4a65c_grow_92f84_59) rfl
  rw [if_neg c8] at hf
  refine rt_acmp_eq_n (pc := 17) (x := v6) (z := (some X.2.2.2.1)) (tgt := 45) (by decide) dJx4a65c_grow_92f84_17 c8 ?_
  exact rt_locals (rt_sub [1, 2, 0] rfl) (rJx4a65c_grow_92f84_20 hd hf)
noncomputable def fJx4a65c_grow_92f84 (E : ah_E) (a0 : Option Nat) (a1 : Int32) (h : ah_H) : Option (Option Nat × ah_H) := if hp_rcv h a0 0 = false then none else bJx4a65c_grow_92f84_0 E a0 a1 h
set_option maxRecDepth 20000 in
set_option maxHeartbeats 4000000 in
theorem sJx4a65c_grow_92f84 {X : ah_X} (d : Nat) (hd : 3 ≤ d) {a0 : Option Nat} {a1 : Int32} {h : ah_H} {r : Option Nat} {h2 : ah_H} (hf : fJx4a65c_grow_92f84 X.2.2.2 a0 a1 h = some (r, h2)) : hp_rcv h a0 0 = true ∧ Rn X yJx4a65c_grow_92f84 cJx4a65c_grow_92f84 4 (some (.array (.object "java/lang/Object"))) d [va_rf a0, .int a1] h (some (va_rf r)) h2 := by
  unfold fJx4a65c_grow_92f84 at hf
  by_cases c0 : hp_rcv h a0 0 = false
  · rw [if_pos c0] at hf; cases hf
  rw [if_neg c0] at hf
  refine ⟨(Bool.not_eq_false _).mp c0, ?_⟩
  obtain ⟨d, rfl⟩ : ∃ k, d = k + 1 := ⟨d - 1, by omega⟩
  exact Rn.of2 me_Jx4a65c_grow_92f84 (by simp [lg_sl, rt_cat, cat_i, cat_l]) (ok_a _ _) (l := [(0, va_rf a0), (1, .int a1)]) (by simp [lv_args, rt_cat, cat_i, cat_l]) (rJx4a65c_grow_92f84_0 (by omega) hf)
noncomputable def bJx4a65c_grow_d5877_0 (E : ah_E) (a0 : Option Nat) (h : ah_H) : Option (Option Nat × ah_H) :=
  (hp_gi h a0 0 2).bind fun v1 =>
  ob2 (fJx4a65c_grow_92f84 E a0 (v1 + (1 : Int32)) h) fun v5 w4 =>
  some (v5, w4)
set_option maxRecDepth 20000 in
set_option maxHeartbeats 4000000 in
theorem rJx4a65c_grow_d5877_0 {X : ah_X} {d : Nat} (hd : 3 ≤ d) {a0 : Option Nat} {h : ah_H} {r : Option Nat} {h2 : ah_H} (hf : bJx4a65c_grow_d5877_0 X.2.2.2 a0 h = some (r, h2)) : Rt X yJx4a65c_grow_d5877 cJx4a65c_grow_d5877 1 (d + 1) 0 [(0, va_rf a0)] [] h (some (va_rf r)) h2 := by
  unfold bJx4a65c_grow_d5877_0 at hf
  refine rt_aload_n (pc := 0) (k0 := 0) (x := a0) 0 rfl dJx4a65c_grow_d5877_0 ?_
  refine rt_aload_n (pc := 1) (k0 := 0) (x := a0) 0 rfl dJx4a65c_grow_d5877_1 ?_
  obtain ⟨v1, e2, hf⟩ := ob1 hf
  refine rt_gi (pc := 2) fd_Jx4a65c_48 dJx4a65c_grow_d5877_2 e2 ?_
  refine rt_iconst (pc := 5) (n := 1) (v := (1 : Int32)) (by decide) dJx4a65c_grow_d5877_5 ?_
  refine rt_iadd (pc := 6) (x := v1) (z := (1 : Int32)) dJx4a65c_grow_d5877_6 ?_
  obtain ⟨v5, w4, e3, hf⟩ := ob2_of hf
  have g6 := sJx4a65c_grow_92f84 d (by omega) e3
  refine rt_callV (pc := 7) (As := [.int (v1 + (1 : Int32))]) (st := []) me_Jx4a65c_grow_92f84 mi_Jx4a65c_grow_92f84 wl_Jx4a65c_69 dJx4a65c_grow_d5877_7 rfl (by decide) rfl g6.1 g6.2 ?_
  cases hf
  exact rt_ret (pc := 10) (rt_atR _ dJx4a65c_grow_d5877_10) rfl
noncomputable def fJx4a65c_grow_d5877 (E : ah_E) (a0 : Option Nat) (h : ah_H) : Option (Option Nat × ah_H) := if hp_rcv h a0 0 = false then none else bJx4a65c_grow_d5877_0 E a0 h
set_option maxRecDepth 20000 in
set_option maxHeartbeats 4000000 in
theorem sJx4a65c_grow_d5877 {X : ah_X} (d : Nat) (hd : 4 ≤ d) {a0 : Option Nat} {h : ah_H} {r : Option Nat} {h2 : ah_H} (hf : fJx4a65c_grow_d5877 X.2.2.2 a0 h = some (r, h2)) : hp_rcv h a0 0 = true ∧ Rn X yJx4a65c_grow_d5877 cJx4a65c_grow_d5877 1 (some (.array (.object "java/lang/Object"))) d [va_rf a0] h (some (va_rf r)) h2 := by
  unfold fJx4a65c_grow_d5877 at hf
  by_cases c0 : hp_rcv h a0 0 = false
  · rw [if_pos c0] at hf; cases hf
  rw [if_neg c0] at hf
  refine ⟨(Bool.not_eq_false _).mp c0, ?_⟩
  obtain ⟨d, rfl⟩ : ∃ k, d = k + 1 := ⟨d - 1, by omega⟩
  exact Rn.of2 me_Jx4a65c_grow_d5877 (by simp [lg_sl, rt_cat, cat_i, cat_l]) (ok_a _ _) (l := [(0, va_rf a0)]) (by simp [lv_args, rt_cat, cat_i, cat_l]) (rJx4a65c_grow_d5877_0 (by omega) hf)
noncomputable def bJx4a65c_add_72be8_11 (E : ah_E) (a0 : Option Nat) (a1 : Option Nat) (a2 : Option Nat) (a3 : Int32) (h : ah_H) : Option ah_H :=
  (hp_stq h a2 a3 a1).bind fun w1 =>
  (hp_pv w1 a0 0 2 (.int (a3 + (1 : Int32)))).bind fun w3 =>
  some w3
set_option maxRecDepth 20000 in
set_option maxHeartbeats 4000000 in
theorem rJx4a65c_add_72be8_11 {X : ah_X} {d : Nat} (hd : 4 ≤ d) {a0 : Option Nat} {a1 : Option Nat} {a2 : Option Nat} {a3 : Int32} {h : ah_H} {h2 : ah_H} (hf : bJx4a65c_add_72be8_11 X.2.2.2 a0 a1 a2 a3 h = some h2) : Rt X yJx4a65c_add_72be8 cJx4a65c_add_72be8 4 (d + 1) 11 [(0, va_rf a0), (1, va_rf a1), (2, va_rf a2), (3, .int a3)] [] h none h2 := by
  unfold bJx4a65c_add_72be8_11 at hf
  refine rt_aload_n (pc := 11) (k0 := 2) (x := a2) 2 rfl dJx4a65c_add_72be8_11 ?_
  refine rt_iload_n (pc := 12) (k0 := 3) (x := a3) 3 rfl dJx4a65c_add_72be8_12 ?_
  refine rt_aload_n (pc := 13) (k0 := 1) (x := a1) 1 rfl dJx4a65c_add_72be8_13 ?_
  obtain ⟨w1, e2, hf⟩ := ob1 hf
  refine rt_aast (pc := 14) dJx4a65c_add_72be8_14 e2 ?_
  refine rt_aload_n (pc := 15) (k0 := 0) (x := a0) 0 rfl dJx4a65c_add_72be8_15 ?_
  refine rt_iload_n (pc := 16) (k0 := 3) (x := a3) 3 rfl dJx4a65c_add_72be8_16 ?_
  refine rt_iconst (pc := 17) (n := 1) (v := (1 : Int32)) (by decide) dJx4a65c_add_72be8_17 ?_
  refine rt_iadd (pc := 18) (x := a3) (z := (1 : Int32)) dJx4a65c_add_72be8_18 ?_
  obtain ⟨w3, e4, hf⟩ := ob1 hf
  refine rt_putf (pc := 19) (x := a0) fw_Jx4a65c_48 (Or.inl rfl) (pf_i _).1 (pf_i _).2 dJx4a65c_add_72be8_19 e4 ?_
  cases hf
  exact rt_ret (pc := 22) dJx4a65c_add_72be8_22 rfl
noncomputable def bJx4a65c_add_72be8_0 (E : ah_E) (a0 : Option Nat) (a1 : Option Nat) (a2 : Option Nat) (a3 : Int32) (h : ah_H) : Option ah_H :=
  (hp_len h a2).bind fun v1 =>
  if a3 = v1 then
    ob2 (fJx4a65c_grow_d5877 E a0 h) fun v6 w5 =>
    bJx4a65c_add_72be8_11 E a0 a1 v6 a3 w5
  else
  bJx4a65c_add_72be8_11 E a0 a1 a2 a3 h
set_option maxRecDepth 20000 in
set_option maxHeartbeats 4000000 in
theorem rJx4a65c_add_72be8_0 {X : ah_X} {d : Nat} (hd : 4 ≤ d) {a0 : Option Nat} {a1 : Option Nat} {a2 : Option Nat} {a3 : Int32} {h : ah_H} {h2 : ah_H} (hf : bJx4a65c_add_72be8_0 X.2.2.2 a0 a1 a2 a3 h = some h2) : Rt X yJx4a65c_add_72be8 cJx4a65c_add_72be8 4 (d + 1) 0 [(0, va_rf a0), (1, va_rf a1), (2, va_rf a2), (3, .int a3)] [] h none h2 := by
  unfold bJx4a65c_add_72be8_0 at hf
  refine rt_iload_n (pc := 0) (k0 := 3) (x := a3) 3 rfl dJx4a65c_add_72be8_0 ?_
  refine rt_aload_n (pc := 1) (k0 := 2) (x := a2) 2 rfl dJx4a65c_add_72be8_1 ?_
  obtain ⟨v1, e2, hf⟩ := ob1 hf
  refine rt_alen (pc := 2) dJx4a65c_add_72be8_2 e2 ?_
  by_cases c3 : a3 = v1
  · rw [if_pos c3] at hf
    refine rt_icmp_ne_p (pc := 3) (x := a3) (z := v1) (tgt := 11) (by decide) dJx4a65c_add_72be8_3 c3 ?_
    refine rt_aload_n (pc := 6) (k0 := 0) (x := a0) 0 rfl dJx4a65c_add_72be8_6 ?_
    obtain ⟨v6, w5, e4, hf⟩ := ob2_of hf
    have g7 := sJx4a65c_grow_d5877 d (by omega) e4
    refine rt_callV (pc := 7) (As := []) (st := []) me_Jx4a65c_grow_d5877 mi_Jx4a65c_grow_d5877 wl_Jx4a65c_129 dJx4a65c_add_72be8_7 rfl (by decide) rfl g7.1 g7.2 ?_
    refine rt_astore_n (pc := 10) (k0 := 2) (x := v6) (l2 := [(2, va_rf v6), (0, va_rf a0), (1, va_rf a1), (3, .int a3)]) (by decide) (by first | rfl | (simp [rt_cat, cat_i, cat_l]; done) | (simp [rt_cat, cat_i, cat_l]; decide)) dJx4a65c_add_72be8_10 ?_
    exact rt_locals (rt_sub [1, 2, 0, 3] rfl) (rJx4a65c_add_72be8_11 hd hf)
  rw [if_neg c3] at hf
  refine rt_icmp_ne_n (pc := 3) (x := a3) (z := v1) (tgt := 11) (by decide) dJx4a65c_add_72be8_3 c3 ?_
  exact rJx4a65c_add_72be8_11 hd hf
noncomputable def fJx4a65c_add_72be8 (E : ah_E) (a0 : Option Nat) (a1 : Option Nat) (a2 : Option Nat) (a3 : Int32) (h : ah_H) : Option ah_H := if hp_rcv h a0 0 = false then none else bJx4a65c_add_72be8_0 E a0 a1 a2 a3 h
set_option maxRecDepth 20000 in
set_option maxHeartbeats 4000000 in
theorem sJx4a65c_add_72be8 {X : ah_X} (d : Nat) (hd : 5 ≤ d) {a0 : Option Nat} {a1 : Option Nat} {a2 : Option Nat} {a3 : Int32} {h : ah_H} {h2 : ah_H} (hf : fJx4a65c_add_72be8 X.2.2.2 a0 a1 a2 a3 h = some h2) : hp_rcv h a0 0 = true ∧ Rn X yJx4a65c_add_72be8 cJx4a65c_add_72be8 4 none d [va_rf a0, va_rf a1, va_rf a2, .int a3] h none h2 := by
  unfold fJx4a65c_add_72be8 at hf
  by_cases c0 : hp_rcv h a0 0 = false
  · rw [if_pos c0] at hf; cases hf
  rw [if_neg c0] at hf
  refine ⟨(Bool.not_eq_false _).mp c0, ?_⟩
  obtain ⟨d, rfl⟩ : ∃ k, d = k + 1 := ⟨d - 1, by omega⟩
  exact Rn.of2 me_Jx4a65c_add_72be8 (by simp [lg_sl, rt_cat, cat_i, cat_l]) rfl (l := [(0, va_rf a0), (1, va_rf a1), (2, va_rf a2), (3, .int a3)]) (by simp [lv_args, rt_cat, cat_i, cat_l]) (rJx4a65c_add_72be8_0 (by omega) hf)
noncomputable def bJx4a65c_rangeCheckForAdd_d00df_12 (E : ah_E) (h : ah_H) : Option ah_H :=
  none
set_option maxRecDepth 20000 in
set_option maxHeartbeats 4000000 in
theorem rJx4a65c_rangeCheckForAdd_d00df_12 {X : ah_X} {d : Nat}  {h : ah_H} {h2 : ah_H} (hf : bJx4a65c_rangeCheckForAdd_d00df_12 X.2.2.2  h = some h2) : Rt X yJx4a65c_rangeCheckForAdd_d00df cJx4a65c_rangeCheckForAdd_d00df 2 d 12 [] [] h none h2 := by
  unfold bJx4a65c_rangeCheckForAdd_d00df_12 at hf
  cases hf
noncomputable def bJx4a65c_rangeCheckForAdd_d00df_0 (E : ah_E) (a0 : Option Nat) (a1 : Int32) (h : ah_H) : Option ah_H :=
  (hp_gi h a0 0 2).bind fun v1 =>
  if v1 < a1 then
    bJx4a65c_rangeCheckForAdd_d00df_12 E  h
  else
  if 0 ≤ a1 then
    some h
  else
  bJx4a65c_rangeCheckForAdd_d00df_12 E  h
set_option maxRecDepth 20000 in
set_option maxHeartbeats 4000000 in
theorem rJx4a65c_rangeCheckForAdd_d00df_0 {X : ah_X} {d : Nat} {a0 : Option Nat} {a1 : Int32} {h : ah_H} {h2 : ah_H} (hf : bJx4a65c_rangeCheckForAdd_d00df_0 X.2.2.2 a0 a1 h = some h2) : Rt X yJx4a65c_rangeCheckForAdd_d00df cJx4a65c_rangeCheckForAdd_d00df 2 d 0 [(0, va_rf a0), (1, .int a1)] [] h none h2 := by
  unfold bJx4a65c_rangeCheckForAdd_d00df_0 at hf
  refine rt_iload_n (pc := 0) (k0 := 1) (x := a1) 1 rfl dJx4a65c_rangeCheckForAdd_d00df_0 ?_
  refine rt_aload_n (pc := 1) (k0 := 0) (x := a0) 0 rfl dJx4a65c_rangeCheckForAdd_d00df_1 ?_
  obtain ⟨v1, e2, hf⟩ := ob1 hf
  refine rt_gi (pc := 2) fd_Jx4a65c_48 dJx4a65c_rangeCheckForAdd_d00df_2 e2 ?_
  by_cases c3 : v1 < a1
  · rw [if_pos c3] at hf
    refine rt_icmp_gt_p (pc := 5) (x := a1) (z := v1) (tgt := 12) (by decide) dJx4a65c_rangeCheckForAdd_d00df_5 c3 ?_
    exact rt_locals (rt_sub [] rfl) (rJx4a65c_rangeCheckForAdd_d00df_12 hf)
  rw [if_neg c3] at hf
  refine rt_icmp_gt_n (pc := 5) (x := a1) (z := v1) (tgt := 12) (by decide) dJx4a65c_rangeCheckForAdd_d00df_5 c3 ?_
  refine rt_iload_n (pc := 8) (k0 := 1) (x := a1) 1 rfl dJx4a65c_rangeCheckForAdd_d00df_8 ?_
  by_cases c4 : 0 ≤ a1
  · rw [if_pos c4] at hf
    refine rt_if_ge_p (pc := 9) (x := a1) (tgt := 25) (by decide) dJx4a65c_rangeCheckForAdd_d00df_9 c4 ?_
    cases hf
    exact rt_ret (pc := 25) dJx4a65c_rangeCheckForAdd_d00df_25 rfl
  rw [if_neg c4] at hf
  refine rt_if_ge_n (pc := 9) (x := a1) (tgt := 25) (by decide) dJx4a65c_rangeCheckForAdd_d00df_9 c4 ?_
  exact rt_locals (rt_sub [] rfl) (rJx4a65c_rangeCheckForAdd_d00df_12 hf)
noncomputable def fJx4a65c_rangeCheckForAdd_d00df (E : ah_E) (a0 : Option Nat) (a1 : Int32) (h : ah_H) : Option ah_H := if hp_rcv h a0 0 = false then none else bJx4a65c_rangeCheckForAdd_d00df_0 E a0 a1 h
set_option maxRecDepth 20000 in
set_option maxHeartbeats 4000000 in
theorem sJx4a65c_rangeCheckForAdd_d00df {X : ah_X} (d : Nat) (hd : 0 ≤ d) {a0 : Option Nat} {a1 : Int32} {h : ah_H} {h2 : ah_H} (hf : fJx4a65c_rangeCheckForAdd_d00df X.2.2.2 a0 a1 h = some h2) : hp_rcv h a0 0 = true ∧ Rn X yJx4a65c_rangeCheckForAdd_d00df cJx4a65c_rangeCheckForAdd_d00df 2 none d [va_rf a0, .int a1] h none h2 := by
  unfold fJx4a65c_rangeCheckForAdd_d00df at hf
  by_cases c0 : hp_rcv h a0 0 = false
  · rw [if_pos c0] at hf; cases hf
  rw [if_neg c0] at hf
  refine ⟨(Bool.not_eq_false _).mp c0, ?_⟩
  exact Rn.of2 me_Jx4a65c_rangeCheckForAdd_d00df (by simp [lg_sl, rt_cat, cat_i, cat_l]) rfl (l := [(0, va_rf a0), (1, .int a1)]) (by simp [lv_args, rt_cat, cat_i, cat_l]) (rJx4a65c_rangeCheckForAdd_d00df_0 hf)
noncomputable def bJx4a65c_add_7a177_38 (E : ah_E) (a0 : Option Nat) (a1 : Int32) (a2 : Option Nat) (a3 : Int32) (a4 : Option Nat) (h : ah_H) : Option ah_H :=
  (hp_cpq E h a4 a1 a4 (a1 + (1 : Int32)) (a3 - a1)).bind fun w1 =>
  (hp_stq w1 a4 a1 a2).bind fun w3 =>
  (hp_pv w3 a0 0 2 (.int (a3 + (1 : Int32)))).bind fun w5 =>
  some w5
set_option maxRecDepth 20000 in
set_option maxHeartbeats 4000000 in
theorem rJx4a65c_add_7a177_38 {X : ah_X} {d : Nat} (hd : 4 ≤ d) {a0 : Option Nat} {a1 : Int32} {a2 : Option Nat} {a3 : Int32} {a4 : Option Nat} {h : ah_H} {h2 : ah_H} (hf : bJx4a65c_add_7a177_38 X.2.2.2 a0 a1 a2 a3 a4 h = some h2) : Rt X yJx4a65c_add_7a177 cJx4a65c_add_7a177 5 (d + 1) 38 [(0, va_rf a0), (1, .int a1), (2, va_rf a2), (3, .int a3), (4, va_rf a4)] [] h none h2 := by
  unfold bJx4a65c_add_7a177_38 at hf
  refine rt_aload (pc := 38) (i := 4) (x := a4) 4 rfl dJx4a65c_add_7a177_38 ?_
  refine rt_iload_n (pc := 40) (k0 := 1) (x := a1) 1 rfl dJx4a65c_add_7a177_40 ?_
  refine rt_aload (pc := 41) (i := 4) (x := a4) 4 rfl dJx4a65c_add_7a177_41 ?_
  refine rt_iload_n (pc := 43) (k0 := 1) (x := a1) 1 rfl dJx4a65c_add_7a177_43 ?_
  refine rt_iconst (pc := 44) (n := 1) (v := (1 : Int32)) (by decide) dJx4a65c_add_7a177_44 ?_
  refine rt_iadd (pc := 45) (x := a1) (z := (1 : Int32)) dJx4a65c_add_7a177_45 ?_
  refine rt_iload_n (pc := 46) (k0 := 3) (x := a3) 3 rfl dJx4a65c_add_7a177_46 ?_
  refine rt_iload_n (pc := 47) (k0 := 1) (x := a1) 1 rfl dJx4a65c_add_7a177_47 ?_
  refine rt_isub (pc := 48) (x := a3) (z := a1) dJx4a65c_add_7a177_48 ?_
  obtain ⟨w1, e2, hf⟩ := ob1 hf
  refine rt_cpq (pc := 49) wl_Jx4a65c_112 (by decide) dJx4a65c_add_7a177_49 e2 ?_
  refine rt_aload (pc := 52) (i := 4) (x := a4) 4 rfl dJx4a65c_add_7a177_52 ?_
  refine rt_iload_n (pc := 54) (k0 := 1) (x := a1) 1 rfl dJx4a65c_add_7a177_54 ?_
  refine rt_aload_n (pc := 55) (k0 := 2) (x := a2) 2 rfl dJx4a65c_add_7a177_55 ?_
  obtain ⟨w3, e4, hf⟩ := ob1 hf
  refine rt_aast (pc := 56) dJx4a65c_add_7a177_56 e4 ?_
  refine rt_aload_n (pc := 57) (k0 := 0) (x := a0) 0 rfl dJx4a65c_add_7a177_57 ?_
  refine rt_iload_n (pc := 58) (k0 := 3) (x := a3) 3 rfl dJx4a65c_add_7a177_58 ?_
  refine rt_iconst (pc := 59) (n := 1) (v := (1 : Int32)) (by decide) dJx4a65c_add_7a177_59 ?_
  refine rt_iadd (pc := 60) (x := a3) (z := (1 : Int32)) dJx4a65c_add_7a177_60 ?_
  obtain ⟨w5, e6, hf⟩ := ob1 hf
  refine rt_putf (pc := 61) (x := a0) fw_Jx4a65c_48 (Or.inl rfl) (pf_i _).1 (pf_i _).2 dJx4a65c_add_7a177_61 e6 ?_
  cases hf
  exact rt_ret (pc := 64) dJx4a65c_add_7a177_64 rfl
noncomputable def bJx4a65c_add_7a177_0 (E : ah_E) (a0 : Option Nat) (a1 : Int32) (a2 : Option Nat) (h : ah_H) : Option ah_H :=
  (fJx4a65c_rangeCheckForAdd_d00df E a0 a1 h).bind fun w2 =>
  (hp_gi w2 a0 0 0).bind fun v4 =>
  (hp_pv w2 a0 0 0 (.int (v4 + (1 : Int32)))).bind fun w6 =>
  (hp_gi w6 a0 0 2).bind fun v8 =>
  (hp_gr w6 a0 0 1).bind fun v10 =>
  (hp_len w6 v10).bind fun v12 =>
  if v8 = v12 then
    ob2 (fJx4a65c_grow_d5877 E a0 w6) fun v17 w16 =>
    bJx4a65c_add_7a177_38 E a0 a1 a2 v8 v17 w16
  else
  bJx4a65c_add_7a177_38 E a0 a1 a2 v8 v10 w6
set_option maxRecDepth 20000 in
set_option maxHeartbeats 4000000 in
theorem rJx4a65c_add_7a177_0 {X : ah_X} {d : Nat} (hd : 4 ≤ d) {a0 : Option Nat} {a1 : Int32} {a2 : Option Nat} {h : ah_H} {h2 : ah_H} (hf : bJx4a65c_add_7a177_0 X.2.2.2 a0 a1 a2 h = some h2) : Rt X yJx4a65c_add_7a177 cJx4a65c_add_7a177 5 (d + 1) 0 [(0, va_rf a0), (1, .int a1), (2, va_rf a2)] [] h none h2 := by
  unfold bJx4a65c_add_7a177_0 at hf
  refine rt_aload_n (pc := 0) (k0 := 0) (x := a0) 0 rfl dJx4a65c_add_7a177_0 ?_
  refine rt_iload_n (pc := 1) (k0 := 1) (x := a1) 1 rfl dJx4a65c_add_7a177_1 ?_
  obtain ⟨w2, e1, hf⟩ := ob1 hf
  have g3 := sJx4a65c_rangeCheckForAdd_d00df d (by omega) e1
  refine rt_callV (pc := 2) (As := [.int a1]) (st := []) me_Jx4a65c_rangeCheckForAdd_d00df mi_Jx4a65c_rangeCheckForAdd_d00df wl_Jx4a65c_135 dJx4a65c_add_7a177_2 rfl (by decide) rfl g3.1 g3.2 ?_
  refine rt_aload_n (pc := 5) (k0 := 0) (x := a0) 0 rfl dJx4a65c_add_7a177_5 ?_
  refine rt_dup (pc := 6) (rt_cat _) dJx4a65c_add_7a177_6 ?_
  obtain ⟨v4, e5, hf⟩ := ob1 hf
  refine rt_gi (pc := 7) fd_Jx4a65c_63 dJx4a65c_add_7a177_7 e5 ?_
  refine rt_iconst (pc := 10) (n := 1) (v := (1 : Int32)) (by decide) dJx4a65c_add_7a177_10 ?_
  refine rt_iadd (pc := 11) (x := v4) (z := (1 : Int32)) dJx4a65c_add_7a177_11 ?_
  obtain ⟨w6, e7, hf⟩ := ob1 hf
  refine rt_putf (pc := 12) (x := a0) fw_Jx4a65c_63 (Or.inl rfl) (pf_i _).1 (pf_i _).2 dJx4a65c_add_7a177_12 e7 ?_
  refine rt_aload_n (pc := 15) (k0 := 0) (x := a0) 0 rfl dJx4a65c_add_7a177_15 ?_
  obtain ⟨v8, e9, hf⟩ := ob1 hf
  refine rt_gi (pc := 16) fd_Jx4a65c_48 dJx4a65c_add_7a177_16 e9 ?_
  refine rt_dup (pc := 19) rfl dJx4a65c_add_7a177_19 ?_
  refine rt_istore_n (pc := 20) (k0 := 3) (x := v8) (l2 := [(3, .int v8), (0, va_rf a0), (1, .int a1), (2, va_rf a2)]) (by decide) (by first | rfl | (simp [rt_cat, cat_i, cat_l]; done) | (simp [rt_cat, cat_i, cat_l]; decide)) dJx4a65c_add_7a177_20 ?_
  refine rt_aload_n (pc := 21) (k0 := 0) (x := a0) 1 rfl dJx4a65c_add_7a177_21 ?_
  obtain ⟨v10, e11, hf⟩ := ob1 hf
  refine rt_gr (pc := 22) fd_Jx4a65c_9 dJx4a65c_add_7a177_22 e11 ?_
  refine rt_dup (pc := 25) (rt_cat _) dJx4a65c_add_7a177_25 ?_
  refine rt_astore (pc := 26) (i := 4) (x := v10) (l2 := [(4, va_rf v10), (3, .int v8), (0, va_rf a0), (1, .int a1), (2, va_rf a2)]) (by decide) (by first | rfl | (simp [rt_cat, cat_i, cat_l]; done) | (simp [rt_cat, cat_i, cat_l]; decide)) dJx4a65c_add_7a177_26 ?_
  obtain ⟨v12, e13, hf⟩ := ob1 hf
  refine rt_alen (pc := 28) dJx4a65c_add_7a177_28 e13 ?_
  by_cases c14 : v8 = v12
  · rw [if_pos c14] at hf
    refine rt_icmp_ne_p (pc := 29) (x := v8) (z := v12) (tgt := 38) (by decide) dJx4a65c_add_7a177_29 c14 ?_
    refine rt_aload_n (pc := 32) (k0 := 0) (x := a0) 2 rfl dJx4a65c_add_7a177_32 ?_
    obtain ⟨v17, w16, e15, hf⟩ := ob2_of hf
    have g18 := sJx4a65c_grow_d5877 d (by omega) e15
    refine rt_callV (pc := 33) (As := []) (st := []) me_Jx4a65c_grow_d5877 mi_Jx4a65c_grow_d5877 wl_Jx4a65c_129 dJx4a65c_add_7a177_33 rfl (by decide) rfl g18.1 g18.2 ?_
    refine rt_astore (pc := 36) (i := 4) (x := v17) (l2 := [(4, va_rf v17), (3, .int v8), (0, va_rf a0), (1, .int a1), (2, va_rf a2)]) (by decide) (by first | rfl | (simp [rt_cat, cat_i, cat_l]; done) | (simp [rt_cat, cat_i, cat_l]; decide)) dJx4a65c_add_7a177_36 ?_
    exact rt_locals (rt_sub [2, 3, 4, 1, 0] rfl) (rJx4a65c_add_7a177_38 hd hf)
  rw [if_neg c14] at hf
  refine rt_icmp_ne_n (pc := 29) (x := v8) (z := v12) (tgt := 38) (by decide) dJx4a65c_add_7a177_29 c14 ?_
  exact rt_locals (rt_sub [2, 3, 4, 1, 0] rfl) (rJx4a65c_add_7a177_38 hd hf)
noncomputable def fJx4a65c_add_7a177 (E : ah_E) (a0 : Option Nat) (a1 : Int32) (a2 : Option Nat) (h : ah_H) : Option ah_H := if hp_rcv h a0 0 = false then none else bJx4a65c_add_7a177_0 E a0 a1 a2 h
set_option maxRecDepth 20000 in
set_option maxHeartbeats 4000000 in
theorem sJx4a65c_add_7a177 {X : ah_X} (d : Nat) (hd : 5 ≤ d) {a0 : Option Nat} {a1 : Int32} {a2 : Option Nat} {h : ah_H} {h2 : ah_H} (hf : fJx4a65c_add_7a177 X.2.2.2 a0 a1 a2 h = some h2) : hp_rcv h a0 0 = true ∧ Rn X yJx4a65c_add_7a177 cJx4a65c_add_7a177 5 none d [va_rf a0, .int a1, va_rf a2] h none h2 := by
  unfold fJx4a65c_add_7a177 at hf
  by_cases c0 : hp_rcv h a0 0 = false
  · rw [if_pos c0] at hf; cases hf
  rw [if_neg c0] at hf
  refine ⟨(Bool.not_eq_false _).mp c0, ?_⟩
  obtain ⟨d, rfl⟩ : ∃ k, d = k + 1 := ⟨d - 1, by omega⟩
  exact Rn.of2 me_Jx4a65c_add_7a177 (by simp [lg_sl, rt_cat, cat_i, cat_l]) rfl (l := [(0, va_rf a0), (1, .int a1), (2, va_rf a2)]) (by simp [lv_args, rt_cat, cat_i, cat_l]) (rJx4a65c_add_7a177_0 (by omega) hf)
noncomputable def bJx4a65c_add_9ea2d_0 (E : ah_E) (a0 : Option Nat) (a1 : Option Nat) (h : ah_H) : Option (Int32 × ah_H) :=
  (hp_gi h a0 0 0).bind fun v1 =>
  (hp_pv h a0 0 0 (.int (v1 + (1 : Int32)))).bind fun w3 =>
  (hp_gr w3 a0 0 1).bind fun v5 =>
  (hp_gi w3 a0 0 2).bind fun v7 =>
  (fJx4a65c_add_72be8 E a0 a1 v5 v7 w3).bind fun w10 =>
  some ((1 : Int32), w10)
set_option maxRecDepth 20000 in
set_option maxHeartbeats 4000000 in
theorem rJx4a65c_add_9ea2d_0 {X : ah_X} {d : Nat} (hd : 5 ≤ d) {a0 : Option Nat} {a1 : Option Nat} {h : ah_H} {r : Int32} {h2 : ah_H} (hf : bJx4a65c_add_9ea2d_0 X.2.2.2 a0 a1 h = some (r, h2)) : Rt X yJx4a65c_add_9ea2d cJx4a65c_add_9ea2d 2 (d + 1) 0 [(0, va_rf a0), (1, va_rf a1)] [] h (some (.int r)) h2 := by
  unfold bJx4a65c_add_9ea2d_0 at hf
  refine rt_aload_n (pc := 0) (k0 := 0) (x := a0) 0 rfl dJx4a65c_add_9ea2d_0 ?_
  refine rt_dup (pc := 1) (rt_cat _) dJx4a65c_add_9ea2d_1 ?_
  obtain ⟨v1, e2, hf⟩ := ob1 hf
  refine rt_gi (pc := 2) fd_Jx4a65c_63 dJx4a65c_add_9ea2d_2 e2 ?_
  refine rt_iconst (pc := 5) (n := 1) (v := (1 : Int32)) (by decide) dJx4a65c_add_9ea2d_5 ?_
  refine rt_iadd (pc := 6) (x := v1) (z := (1 : Int32)) dJx4a65c_add_9ea2d_6 ?_
  obtain ⟨w3, e4, hf⟩ := ob1 hf
  refine rt_putf (pc := 7) (x := a0) fw_Jx4a65c_63 (Or.inl rfl) (pf_i _).1 (pf_i _).2 dJx4a65c_add_9ea2d_7 e4 ?_
  refine rt_aload_n (pc := 10) (k0 := 0) (x := a0) 0 rfl dJx4a65c_add_9ea2d_10 ?_
  refine rt_aload_n (pc := 11) (k0 := 1) (x := a1) 1 rfl dJx4a65c_add_9ea2d_11 ?_
  refine rt_aload_n (pc := 12) (k0 := 0) (x := a0) 0 rfl dJx4a65c_add_9ea2d_12 ?_
  obtain ⟨v5, e6, hf⟩ := ob1 hf
  refine rt_gr (pc := 13) fd_Jx4a65c_9 dJx4a65c_add_9ea2d_13 e6 ?_
  refine rt_aload_n (pc := 16) (k0 := 0) (x := a0) 0 rfl dJx4a65c_add_9ea2d_16 ?_
  obtain ⟨v7, e8, hf⟩ := ob1 hf
  refine rt_gi (pc := 17) fd_Jx4a65c_48 dJx4a65c_add_9ea2d_17 e8 ?_
  obtain ⟨w10, e9, hf⟩ := ob1 hf
  have g11 := sJx4a65c_add_72be8 d (by omega) e9
  refine rt_callV (pc := 20) (As := [va_rf a1, va_rf v5, .int v7]) (st := []) me_Jx4a65c_add_72be8 mi_Jx4a65c_add_72be8 wl_Jx4a65c_131 dJx4a65c_add_9ea2d_20 rfl (by decide) rfl g11.1 g11.2 ?_
  refine rt_iconst (pc := 23) (n := 1) (v := (1 : Int32)) (by decide) dJx4a65c_add_9ea2d_23 ?_
  cases hf
  exact rt_ret (pc := 24) dJx4a65c_add_9ea2d_24 rfl
noncomputable def fJx4a65c_add_9ea2d (E : ah_E) (a0 : Option Nat) (a1 : Option Nat) (h : ah_H) : Option (Int32 × ah_H) := if hp_rcv h a0 0 = false then none else zb (bJx4a65c_add_9ea2d_0 E a0 a1 h)
set_option maxRecDepth 20000 in
set_option maxHeartbeats 4000000 in
theorem sJx4a65c_add_9ea2d {X : ah_X} (d : Nat) (hd : 6 ≤ d) {a0 : Option Nat} {a1 : Option Nat} {h : ah_H} {r : Int32} {h2 : ah_H} (hf : fJx4a65c_add_9ea2d X.2.2.2 a0 a1 h = some (r, h2)) : hp_rcv h a0 0 = true ∧ Rn X yJx4a65c_add_9ea2d cJx4a65c_add_9ea2d 2 (some .boolean) d [va_rf a0, va_rf a1] h (some (.int r)) h2 := by
  unfold fJx4a65c_add_9ea2d at hf
  by_cases c0 : hp_rcv h a0 0 = false
  · rw [if_pos c0] at hf; cases hf
  rw [if_neg c0] at hf
  refine ⟨(Bool.not_eq_false _).mp c0, ?_⟩
  obtain ⟨hf, hz⟩ := zb_of hf
  obtain ⟨d, rfl⟩ : ∃ k, d = k + 1 := ⟨d - 1, by omega⟩
  exact Rn.of2 me_Jx4a65c_add_9ea2d (by simp [lg_sl, rt_cat, cat_i, cat_l]) (ok_z hz) (l := [(0, va_rf a0), (1, va_rf a1)]) (by simp [lv_args, rt_cat, cat_i, cat_l]) (rJx4a65c_add_9ea2d_0 (by omega) hf)
noncomputable def bJx4a65c_clear_da8c8_27 (E : ah_E) : Nat → Option Nat → Int32 → Int32 → ah_H → Option ah_H
  | 0 => fun _ _ _ _ => none
  | n + 1 => fun a1 a2 a3 h =>
  if a2 ≤ a3 then
    some h
  else
  (hp_stq h a1 a3 none).bind fun w2 =>
  bJx4a65c_clear_da8c8_27 E n a1 a2 (a3 + 1) w2
set_option maxRecDepth 20000 in
set_option maxHeartbeats 4000000 in
theorem rJx4a65c_clear_da8c8_27 {X : ah_X} {d : Nat} (n : Nat) : ∀ (a1 : Option Nat) (a2 : Int32) (a3 : Int32) (h : ah_H) (h2 : ah_H), bJx4a65c_clear_da8c8_27 X.2.2.2 n a1 a2 a3 h = some h2 → Rt X yJx4a65c_clear_da8c8 cJx4a65c_clear_da8c8 4 d 27 [(1, va_rf a1), (2, .int a2), (3, .int a3)] [] h none h2 := by
  induction n with
  | zero => intro a1 a2 a3 h h2 hf; cases hf
  | succ n ih =>
  intro a1 a2 a3 h h2 hf
  unfold bJx4a65c_clear_da8c8_27 at hf
  refine rt_iload_n (pc := 27) (k0 := 3) (x := a3) 2 rfl dJx4a65c_clear_da8c8_27 ?_
  refine rt_iload_n (pc := 28) (k0 := 2) (x := a2) 1 rfl dJx4a65c_clear_da8c8_28 ?_
  by_cases c1 : a2 ≤ a3
  · rw [if_pos c1] at hf
    refine rt_icmp_ge_p (pc := 29) (x := a3) (z := a2) (tgt := 42) (by decide) dJx4a65c_clear_da8c8_29 c1 ?_
    cases hf
    exact rt_ret (pc := 42) dJx4a65c_clear_da8c8_42 rfl
  rw [if_neg c1] at hf
  refine rt_icmp_ge_n (pc := 29) (x := a3) (z := a2) (tgt := 42) (by decide) dJx4a65c_clear_da8c8_29 c1 ?_
  refine rt_aload_n (pc := 32) (k0 := 1) (x := a1) 0 rfl dJx4a65c_clear_da8c8_32 ?_
  refine rt_iload_n (pc := 33) (k0 := 3) (x := a3) 2 rfl dJx4a65c_clear_da8c8_33 ?_
  refine rt_null (pc := 34) dJx4a65c_clear_da8c8_34 ?_
  obtain ⟨w2, e3, hf⟩ := ob1 hf
  refine rt_aast (pc := 35) dJx4a65c_clear_da8c8_35 e3 ?_
  refine rt_iinc (pc := 36) (i := 3) (n := 1) (x := a3) (v := (a3 + 1)) (l2 := [(3, .int (a3 + 1)), (1, va_rf a1), (2, .int a2)]) 2 rfl rfl (by decide) (by first | rfl | (simp [rt_cat, cat_i, cat_l]; done) | (simp [rt_cat, cat_i, cat_l]; decide)) dJx4a65c_clear_da8c8_36 ?_
  refine rt_goto (pc := 39) (tgt := 27) (by decide) dJx4a65c_clear_da8c8_39 ?_
  exact rt_locals (rt_sub [1, 2, 0] rfl) (ih _ _ _ _ _ hf)
noncomputable def bJx4a65c_clear_da8c8_0 (E : ah_E) (a0 : Option Nat) (h : ah_H) : Option ah_H :=
  (hp_gi h a0 0 0).bind fun v1 =>
  (hp_pv h a0 0 0 (.int (v1 + (1 : Int32)))).bind fun w3 =>
  (hp_gr w3 a0 0 1).bind fun v5 =>
  (hp_gi w3 a0 0 2).bind fun v7 =>
  (hp_pv w3 a0 0 2 (.int (0 : Int32))).bind fun w9 =>
  bJx4a65c_clear_da8c8_27 E zf v5 v7 (0 : Int32) w9
set_option maxRecDepth 20000 in
set_option maxHeartbeats 4000000 in
theorem rJx4a65c_clear_da8c8_0 {X : ah_X} {d : Nat} {a0 : Option Nat} {h : ah_H} {h2 : ah_H} (hf : bJx4a65c_clear_da8c8_0 X.2.2.2 a0 h = some h2) : Rt X yJx4a65c_clear_da8c8 cJx4a65c_clear_da8c8 4 d 0 [(0, va_rf a0)] [] h none h2 := by
  unfold bJx4a65c_clear_da8c8_0 at hf
  refine rt_aload_n (pc := 0) (k0 := 0) (x := a0) 0 rfl dJx4a65c_clear_da8c8_0 ?_
  refine rt_dup (pc := 1) (rt_cat _) dJx4a65c_clear_da8c8_1 ?_
  obtain ⟨v1, e2, hf⟩ := ob1 hf
  refine rt_gi (pc := 2) fd_Jx4a65c_63 dJx4a65c_clear_da8c8_2 e2 ?_
  refine rt_iconst (pc := 5) (n := 1) (v := (1 : Int32)) (by decide) dJx4a65c_clear_da8c8_5 ?_
  refine rt_iadd (pc := 6) (x := v1) (z := (1 : Int32)) dJx4a65c_clear_da8c8_6 ?_
  obtain ⟨w3, e4, hf⟩ := ob1 hf
  refine rt_putf (pc := 7) (x := a0) fw_Jx4a65c_63 (Or.inl rfl) (pf_i _).1 (pf_i _).2 dJx4a65c_clear_da8c8_7 e4 ?_
  refine rt_aload_n (pc := 10) (k0 := 0) (x := a0) 0 rfl dJx4a65c_clear_da8c8_10 ?_
  obtain ⟨v5, e6, hf⟩ := ob1 hf
  refine rt_gr (pc := 11) fd_Jx4a65c_9 dJx4a65c_clear_da8c8_11 e6 ?_
  refine rt_astore_n (pc := 14) (k0 := 1) (x := v5) (l2 := [(1, va_rf v5), (0, va_rf a0)]) (by decide) (by first | rfl | (simp [rt_cat, cat_i, cat_l]; done) | (simp [rt_cat, cat_i, cat_l]; decide)) dJx4a65c_clear_da8c8_14 ?_
  refine rt_aload_n (pc := 15) (k0 := 0) (x := a0) 1 rfl dJx4a65c_clear_da8c8_15 ?_
  obtain ⟨v7, e8, hf⟩ := ob1 hf
  refine rt_gi (pc := 16) fd_Jx4a65c_48 dJx4a65c_clear_da8c8_16 e8 ?_
  refine rt_istore_n (pc := 19) (k0 := 2) (x := v7) (l2 := [(2, .int v7), (1, va_rf v5), (0, va_rf a0)]) (by decide) (by first | rfl | (simp [rt_cat, cat_i, cat_l]; done) | (simp [rt_cat, cat_i, cat_l]; decide)) dJx4a65c_clear_da8c8_19 ?_
  refine rt_aload_n (pc := 20) (k0 := 0) (x := a0) 2 rfl dJx4a65c_clear_da8c8_20 ?_
  refine rt_iconst (pc := 21) (n := 0) (v := (0 : Int32)) (by decide) dJx4a65c_clear_da8c8_21 ?_
  refine rt_dup_x1 (pc := 22) rfl (rt_cat _) dJx4a65c_clear_da8c8_22 ?_
  obtain ⟨w9, e10, hf⟩ := ob1 hf
  refine rt_putf (pc := 23) (x := a0) fw_Jx4a65c_48 (Or.inl rfl) (pf_i _).1 (pf_i _).2 dJx4a65c_clear_da8c8_23 e10 ?_
  refine rt_istore_n (pc := 26) (k0 := 3) (x := (0 : Int32)) (l2 := [(3, .int (0 : Int32)), (2, .int v7), (1, va_rf v5), (0, va_rf a0)]) (by decide) (by first | rfl | (simp [rt_cat, cat_i, cat_l]; done) | (simp [rt_cat, cat_i, cat_l]; decide)) dJx4a65c_clear_da8c8_26 ?_
  exact rt_locals (rt_sub [2, 1, 0] rfl) (rJx4a65c_clear_da8c8_27 zf _ _ _ _ _ hf)
noncomputable def fJx4a65c_clear_da8c8 (E : ah_E) (a0 : Option Nat) (h : ah_H) : Option ah_H := if hp_rcv h a0 0 = false then none else bJx4a65c_clear_da8c8_0 E a0 h
set_option maxRecDepth 20000 in
set_option maxHeartbeats 4000000 in
theorem sJx4a65c_clear_da8c8 {X : ah_X} (d : Nat) (hd : 0 ≤ d) {a0 : Option Nat} {h : ah_H} {h2 : ah_H} (hf : fJx4a65c_clear_da8c8 X.2.2.2 a0 h = some h2) : hp_rcv h a0 0 = true ∧ Rn X yJx4a65c_clear_da8c8 cJx4a65c_clear_da8c8 4 none d [va_rf a0] h none h2 := by
  unfold fJx4a65c_clear_da8c8 at hf
  by_cases c0 : hp_rcv h a0 0 = false
  · rw [if_pos c0] at hf; cases hf
  rw [if_neg c0] at hf
  refine ⟨(Bool.not_eq_false _).mp c0, ?_⟩
  exact Rn.of2 me_Jx4a65c_clear_da8c8 (by simp [lg_sl, rt_cat, cat_i, cat_l]) rfl (l := [(0, va_rf a0)]) (by simp [lv_args, rt_cat, cat_i, cat_l]) (rJx4a65c_clear_da8c8_0 hf)
noncomputable def bJx4a65c_elementData_915e3_0 (E : ah_E) (a0 : Option Nat) (a1 : Int32) (h : ah_H) : Option (Option Nat × ah_H) :=
  (hp_gr h a0 0 1).bind fun v1 =>
  (hp_ldq h v1 a1).bind fun v3 =>
  some (v3, h)
set_option maxRecDepth 20000 in
set_option maxHeartbeats 4000000 in
theorem rJx4a65c_elementData_915e3_0 {X : ah_X} {d : Nat} {a0 : Option Nat} {a1 : Int32} {h : ah_H} {r : Option Nat} {h2 : ah_H} (hf : bJx4a65c_elementData_915e3_0 X.2.2.2 a0 a1 h = some (r, h2)) : Rt X yJx4a65c_elementData_915e3 cJx4a65c_elementData_915e3 2 d 0 [(0, va_rf a0), (1, .int a1)] [] h (some (va_rf r)) h2 := by
  unfold bJx4a65c_elementData_915e3_0 at hf
  refine rt_aload_n (pc := 0) (k0 := 0) (x := a0) 0 rfl dJx4a65c_elementData_915e3_0 ?_
  obtain ⟨v1, e2, hf⟩ := ob1 hf
  refine rt_gr (pc := 1) fd_Jx4a65c_9 dJx4a65c_elementData_915e3_1 e2 ?_
  refine rt_iload_n (pc := 4) (k0 := 1) (x := a1) 1 rfl dJx4a65c_elementData_915e3_4 ?_
  obtain ⟨v3, e4, hf⟩ := ob1 hf
  refine rt_aald (pc := 5) dJx4a65c_elementData_915e3_5 e4 ?_
  cases hf
  exact rt_ret (pc := 6) (rt_atR _ dJx4a65c_elementData_915e3_6) rfl
noncomputable def fJx4a65c_elementData_915e3 (E : ah_E) (a0 : Option Nat) (a1 : Int32) (h : ah_H) : Option (Option Nat × ah_H) := if hp_rcv h a0 0 = false then none else bJx4a65c_elementData_915e3_0 E a0 a1 h
set_option maxRecDepth 20000 in
set_option maxHeartbeats 4000000 in
theorem sJx4a65c_elementData_915e3 {X : ah_X} (d : Nat) (hd : 0 ≤ d) {a0 : Option Nat} {a1 : Int32} {h : ah_H} {r : Option Nat} {h2 : ah_H} (hf : fJx4a65c_elementData_915e3 X.2.2.2 a0 a1 h = some (r, h2)) : hp_rcv h a0 0 = true ∧ Rn X yJx4a65c_elementData_915e3 cJx4a65c_elementData_915e3 2 (some (.object "java/lang/Object")) d [va_rf a0, .int a1] h (some (va_rf r)) h2 := by
  unfold fJx4a65c_elementData_915e3 at hf
  by_cases c0 : hp_rcv h a0 0 = false
  · rw [if_pos c0] at hf; cases hf
  rw [if_neg c0] at hf
  refine ⟨(Bool.not_eq_false _).mp c0, ?_⟩
  exact Rn.of2 me_Jx4a65c_elementData_915e3 (by simp [lg_sl, rt_cat, cat_i, cat_l]) (ok_o _ _) (l := [(0, va_rf a0), (1, .int a1)]) (by simp [lv_args, rt_cat, cat_i, cat_l]) (rJx4a65c_elementData_915e3_0 hf)
noncomputable def bJx4a65c_fastRemove_b59b0_34 (E : ah_E) (a0 : Option Nat) (a1 : Option Nat) (a3 : Int32) (h : ah_H) : Option ah_H :=
  (hp_pv h a0 0 2 (.int a3)).bind fun w1 =>
  (hp_stq w1 a1 a3 none).bind fun w3 =>
  some w3
set_option maxRecDepth 20000 in
set_option maxHeartbeats 4000000 in
theorem rJx4a65c_fastRemove_b59b0_34 {X : ah_X} {d : Nat} (hd : 0 ≤ d) {a0 : Option Nat} {a1 : Option Nat} {a3 : Int32} {h : ah_H} {h2 : ah_H} (hf : bJx4a65c_fastRemove_b59b0_34 X.2.2.2 a0 a1 a3 h = some h2) : Rt X yJx4a65c_fastRemove_b59b0 cJx4a65c_fastRemove_b59b0 4 (d + 1) 34 [(0, va_rf a0), (1, va_rf a1), (3, .int a3)] [] h none h2 := by
  unfold bJx4a65c_fastRemove_b59b0_34 at hf
  refine rt_aload_n (pc := 34) (k0 := 1) (x := a1) 1 rfl dJx4a65c_fastRemove_b59b0_34 ?_
  refine rt_aload_n (pc := 35) (k0 := 0) (x := a0) 0 rfl dJx4a65c_fastRemove_b59b0_35 ?_
  refine rt_iload_n (pc := 36) (k0 := 3) (x := a3) 2 rfl dJx4a65c_fastRemove_b59b0_36 ?_
  refine rt_dup_x1 (pc := 37) rfl (rt_cat _) dJx4a65c_fastRemove_b59b0_37 ?_
  obtain ⟨w1, e2, hf⟩ := ob1 hf
  refine rt_putf (pc := 38) (x := a0) fw_Jx4a65c_48 (Or.inl rfl) (pf_i _).1 (pf_i _).2 dJx4a65c_fastRemove_b59b0_38 e2 ?_
  refine rt_null (pc := 41) dJx4a65c_fastRemove_b59b0_41 ?_
  obtain ⟨w3, e4, hf⟩ := ob1 hf
  refine rt_aast (pc := 42) dJx4a65c_fastRemove_b59b0_42 e4 ?_
  cases hf
  exact rt_ret (pc := 43) dJx4a65c_fastRemove_b59b0_43 rfl
noncomputable def bJx4a65c_fastRemove_b59b0_0 (E : ah_E) (a0 : Option Nat) (a1 : Option Nat) (a2 : Int32) (h : ah_H) : Option ah_H :=
  (hp_gi h a0 0 0).bind fun v1 =>
  (hp_pv h a0 0 0 (.int (v1 + (1 : Int32)))).bind fun w3 =>
  (hp_gi w3 a0 0 2).bind fun v5 =>
  if (v5 - (1 : Int32)) ≤ a2 then
    bJx4a65c_fastRemove_b59b0_34 E a0 a1 (v5 - (1 : Int32)) w3
  else
  (hp_cpq E w3 a1 (a2 + (1 : Int32)) a1 a2 ((v5 - (1 : Int32)) - a2)).bind fun w8 =>
  bJx4a65c_fastRemove_b59b0_34 E a0 a1 (v5 - (1 : Int32)) w8
set_option maxRecDepth 20000 in
set_option maxHeartbeats 4000000 in
theorem rJx4a65c_fastRemove_b59b0_0 {X : ah_X} {d : Nat} (hd : 0 ≤ d) {a0 : Option Nat} {a1 : Option Nat} {a2 : Int32} {h : ah_H} {h2 : ah_H} (hf : bJx4a65c_fastRemove_b59b0_0 X.2.2.2 a0 a1 a2 h = some h2) : Rt X yJx4a65c_fastRemove_b59b0 cJx4a65c_fastRemove_b59b0 4 (d + 1) 0 [(0, va_rf a0), (1, va_rf a1), (2, .int a2)] [] h none h2 := by
  unfold bJx4a65c_fastRemove_b59b0_0 at hf
  refine rt_aload_n (pc := 0) (k0 := 0) (x := a0) 0 rfl dJx4a65c_fastRemove_b59b0_0 ?_
  refine rt_dup (pc := 1) (rt_cat _) dJx4a65c_fastRemove_b59b0_1 ?_
  obtain ⟨v1, e2, hf⟩ := ob1 hf
  refine rt_gi (pc := 2) fd_Jx4a65c_63 dJx4a65c_fastRemove_b59b0_2 e2 ?_
  refine rt_iconst (pc := 5) (n := 1) (v := (1 : Int32)) (by decide) dJx4a65c_fastRemove_b59b0_5 ?_
  refine rt_iadd (pc := 6) (x := v1) (z := (1 : Int32)) dJx4a65c_fastRemove_b59b0_6 ?_
  obtain ⟨w3, e4, hf⟩ := ob1 hf
  refine rt_putf (pc := 7) (x := a0) fw_Jx4a65c_63 (Or.inl rfl) (pf_i _).1 (pf_i _).2 dJx4a65c_fastRemove_b59b0_7 e4 ?_
  refine rt_aload_n (pc := 10) (k0 := 0) (x := a0) 0 rfl dJx4a65c_fastRemove_b59b0_10 ?_
  obtain ⟨v5, e6, hf⟩ := ob1 hf
  refine rt_gi (pc := 11) fd_Jx4a65c_48 dJx4a65c_fastRemove_b59b0_11 e6 ?_
  refine rt_iconst (pc := 14) (n := 1) (v := (1 : Int32)) (by decide) dJx4a65c_fastRemove_b59b0_14 ?_
  refine rt_isub (pc := 15) (x := v5) (z := (1 : Int32)) dJx4a65c_fastRemove_b59b0_15 ?_
  refine rt_dup (pc := 16) rfl dJx4a65c_fastRemove_b59b0_16 ?_
  refine rt_istore_n (pc := 17) (k0 := 3) (x := (v5 - (1 : Int32))) (l2 := [(3, .int (v5 - (1 : Int32))), (0, va_rf a0), (1, va_rf a1), (2, .int a2)]) (by decide) (by first | rfl | (simp [rt_cat, cat_i, cat_l]; done) | (simp [rt_cat, cat_i, cat_l]; decide)) dJx4a65c_fastRemove_b59b0_17 ?_
  refine rt_iload_n (pc := 18) (k0 := 2) (x := a2) 3 rfl dJx4a65c_fastRemove_b59b0_18 ?_
  by_cases c7 : (v5 - (1 : Int32)) ≤ a2
  · rw [if_pos c7] at hf
    refine rt_icmp_le_p (pc := 19) (x := (v5 - (1 : Int32))) (z := a2) (tgt := 34) (by decide) dJx4a65c_fastRemove_b59b0_19 c7 ?_
    exact rt_locals (rt_sub [1, 2, 0] rfl) (rJx4a65c_fastRemove_b59b0_34 hd hf)
  rw [if_neg c7] at hf
  refine rt_icmp_le_n (pc := 19) (x := (v5 - (1 : Int32))) (z := a2) (tgt := 34) (by decide) dJx4a65c_fastRemove_b59b0_19 c7 ?_
  refine rt_aload_n (pc := 22) (k0 := 1) (x := a1) 2 rfl dJx4a65c_fastRemove_b59b0_22 ?_
  refine rt_iload_n (pc := 23) (k0 := 2) (x := a2) 3 rfl dJx4a65c_fastRemove_b59b0_23 ?_
  refine rt_iconst (pc := 24) (n := 1) (v := (1 : Int32)) (by decide) dJx4a65c_fastRemove_b59b0_24 ?_
  refine rt_iadd (pc := 25) (x := a2) (z := (1 : Int32)) dJx4a65c_fastRemove_b59b0_25 ?_
  refine rt_aload_n (pc := 26) (k0 := 1) (x := a1) 2 rfl dJx4a65c_fastRemove_b59b0_26 ?_
  refine rt_iload_n (pc := 27) (k0 := 2) (x := a2) 3 rfl dJx4a65c_fastRemove_b59b0_27 ?_
  refine rt_iload_n (pc := 28) (k0 := 3) (x := (v5 - (1 : Int32))) 0 rfl dJx4a65c_fastRemove_b59b0_28 ?_
  refine rt_iload_n (pc := 29) (k0 := 2) (x := a2) 3 rfl dJx4a65c_fastRemove_b59b0_29 ?_
  refine rt_isub (pc := 30) (x := (v5 - (1 : Int32))) (z := a2) dJx4a65c_fastRemove_b59b0_30 ?_
  obtain ⟨w8, e9, hf⟩ := ob1 hf
  refine rt_cpq (pc := 31) wl_Jx4a65c_112 (by decide) dJx4a65c_fastRemove_b59b0_31 e9 ?_
  exact rt_locals (rt_sub [1, 2, 0] rfl) (rJx4a65c_fastRemove_b59b0_34 hd hf)
noncomputable def fJx4a65c_fastRemove_b59b0 (E : ah_E) (a0 : Option Nat) (a1 : Option Nat) (a2 : Int32) (h : ah_H) : Option ah_H := if hp_rcv h a0 0 = false then none else bJx4a65c_fastRemove_b59b0_0 E a0 a1 a2 h
set_option maxRecDepth 20000 in
set_option maxHeartbeats 4000000 in
theorem sJx4a65c_fastRemove_b59b0 {X : ah_X} (d : Nat) (hd : 1 ≤ d) {a0 : Option Nat} {a1 : Option Nat} {a2 : Int32} {h : ah_H} {h2 : ah_H} (hf : fJx4a65c_fastRemove_b59b0 X.2.2.2 a0 a1 a2 h = some h2) : hp_rcv h a0 0 = true ∧ Rn X yJx4a65c_fastRemove_b59b0 cJx4a65c_fastRemove_b59b0 4 none d [va_rf a0, va_rf a1, .int a2] h none h2 := by
  unfold fJx4a65c_fastRemove_b59b0 at hf
  by_cases c0 : hp_rcv h a0 0 = false
  · rw [if_pos c0] at hf; cases hf
  rw [if_neg c0] at hf
  refine ⟨(Bool.not_eq_false _).mp c0, ?_⟩
  obtain ⟨d, rfl⟩ : ∃ k, d = k + 1 := ⟨d - 1, by omega⟩
  exact Rn.of2 me_Jx4a65c_fastRemove_b59b0 (by simp [lg_sl, rt_cat, cat_i, cat_l]) rfl (l := [(0, va_rf a0), (1, va_rf a1), (2, .int a2)]) (by simp [lv_args, rt_cat, cat_i, cat_l]) (rJx4a65c_fastRemove_b59b0_0 (by omega) hf)
noncomputable def bJx4a65c_get_915e3_0 (E : ah_E) (a0 : Option Nat) (a1 : Int32) (h : ah_H) : Option (Option Nat × ah_H) :=
  (hp_gi h a0 0 2).bind fun v1 =>
  ob2 (fJ15_checkIndex_7cf53 E a1 v1 h) fun v5 w4 =>
  ob2 (fJx4a65c_elementData_915e3 E a0 a1 w4) fun v9 w8 =>
  some (v9, w8)
set_option maxRecDepth 20000 in
set_option maxHeartbeats 4000000 in
theorem rJx4a65c_get_915e3_0 {X : ah_X} {d : Nat} (hd : 1 ≤ d) {a0 : Option Nat} {a1 : Int32} {h : ah_H} {r : Option Nat} {h2 : ah_H} (hf : bJx4a65c_get_915e3_0 X.2.2.2 a0 a1 h = some (r, h2)) : Rt X yJx4a65c_get_915e3 cJx4a65c_get_915e3 2 (d + 1) 0 [(0, va_rf a0), (1, .int a1)] [] h (some (va_rf r)) h2 := by
  unfold bJx4a65c_get_915e3_0 at hf
  refine rt_iload_n (pc := 0) (k0 := 1) (x := a1) 1 rfl dJx4a65c_get_915e3_0 ?_
  refine rt_aload_n (pc := 1) (k0 := 0) (x := a0) 0 rfl dJx4a65c_get_915e3_1 ?_
  obtain ⟨v1, e2, hf⟩ := ob1 hf
  refine rt_gi (pc := 2) fd_Jx4a65c_48 dJx4a65c_get_915e3_2 e2 ?_
  obtain ⟨v5, w4, e3, hf⟩ := ob2_of hf
  have g6 := sJ15_checkIndex_7cf53 d (by omega) e3
  refine rt_callS (pc := 5) (As := [.int a1, .int v1]) (st := []) me_J15_checkIndex_7cf53 ms_J15_checkIndex_7cf53 wl_Jx4a65c_118 dJx4a65c_get_915e3_5 rfl (by decide) rfl g6 ?_
  refine rt_pop (pc := 8) rfl dJx4a65c_get_915e3_8 ?_
  refine rt_aload_n (pc := 9) (k0 := 0) (x := a0) 0 rfl dJx4a65c_get_915e3_9 ?_
  refine rt_iload_n (pc := 10) (k0 := 1) (x := a1) 1 rfl dJx4a65c_get_915e3_10 ?_
  obtain ⟨v9, w8, e7, hf⟩ := ob2_of hf
  have g10 := sJx4a65c_elementData_915e3 d (by omega) e7
  refine rt_callV (pc := 11) (As := [.int a1]) (st := []) me_Jx4a65c_elementData_915e3 mi_Jx4a65c_elementData_915e3 wl_Jx4a65c_123 dJx4a65c_get_915e3_11 rfl (by decide) rfl g10.1 g10.2 ?_
  cases hf
  exact rt_ret (pc := 14) (rt_atR _ dJx4a65c_get_915e3_14) rfl
noncomputable def fJx4a65c_get_915e3 (E : ah_E) (a0 : Option Nat) (a1 : Int32) (h : ah_H) : Option (Option Nat × ah_H) := if hp_rcv h a0 0 = false then none else bJx4a65c_get_915e3_0 E a0 a1 h
set_option maxRecDepth 20000 in
set_option maxHeartbeats 4000000 in
theorem sJx4a65c_get_915e3 {X : ah_X} (d : Nat) (hd : 2 ≤ d) {a0 : Option Nat} {a1 : Int32} {h : ah_H} {r : Option Nat} {h2 : ah_H} (hf : fJx4a65c_get_915e3 X.2.2.2 a0 a1 h = some (r, h2)) : hp_rcv h a0 0 = true ∧ Rn X yJx4a65c_get_915e3 cJx4a65c_get_915e3 2 (some (.object "java/lang/Object")) d [va_rf a0, .int a1] h (some (va_rf r)) h2 := by
  unfold fJx4a65c_get_915e3 at hf
  by_cases c0 : hp_rcv h a0 0 = false
  · rw [if_pos c0] at hf; cases hf
  rw [if_neg c0] at hf
  refine ⟨(Bool.not_eq_false _).mp c0, ?_⟩
  obtain ⟨d, rfl⟩ : ∃ k, d = k + 1 := ⟨d - 1, by omega⟩
  exact Rn.of2 me_Jx4a65c_get_915e3 (by simp [lg_sl, rt_cat, cat_i, cat_l]) (ok_o _ _) (l := [(0, va_rf a0), (1, .int a1)]) (by simp [lv_args, rt_cat, cat_i, cat_l]) (rJx4a65c_get_915e3_0 (by omega) hf)
noncomputable def bJxa1e45_init_da8c8_0 (E : ah_E) (a0 : Option Nat) (h : ah_H) : Option ah_H :=
  if hp_rcv h a0 0 = false then none else
  some h
set_option maxRecDepth 20000 in
set_option maxHeartbeats 4000000 in
theorem rJxa1e45_init_da8c8_0 {X : ah_X} {d : Nat} (hd : 0 ≤ d) {a0 : Option Nat} {h : ah_H} {h2 : ah_H} (hf : bJxa1e45_init_da8c8_0 X.2.2.2 a0 h = some h2) : Rt X yJxa1e45_init_da8c8 cJxa1e45_init_da8c8 1 (d + 1) 0 [(0, va_rf a0)] [] h none h2 := by
  unfold bJxa1e45_init_da8c8_0 at hf
  refine rt_aload_n (pc := 0) (k0 := 0) (x := a0) 0 rfl dJxa1e45_init_da8c8_0 ?_
  by_cases c1 : hp_rcv h a0 0 = false
  · rw [if_pos c1] at hf; cases hf
  rw [if_neg c1] at hf
  refine rt_objInit (pc := 1) wl_Jxa1e45_1 (by decide) dJxa1e45_init_da8c8_1 (by obtain ⟨q, _, q2, _⟩ := hp_rcv_spec ((Bool.not_eq_false _).mp c1); exact ⟨q, q2⟩) ?_
  cases hf
  exact rt_ret (pc := 4) dJxa1e45_init_da8c8_4 rfl
noncomputable def fJxa1e45_init_da8c8 (E : ah_E) (a0 : Option Nat) (h : ah_H) : Option ah_H := if hp_rcv h a0 0 = false then none else bJxa1e45_init_da8c8_0 E a0 h
set_option maxRecDepth 20000 in
set_option maxHeartbeats 4000000 in
theorem sJxa1e45_init_da8c8 {X : ah_X} (d : Nat) (hd : 1 ≤ d) {a0 : Option Nat} {h : ah_H} {h2 : ah_H} (hf : fJxa1e45_init_da8c8 X.2.2.2 a0 h = some h2) : hp_rcv h a0 0 = true ∧ Rn X yJxa1e45_init_da8c8 cJxa1e45_init_da8c8 1 none d [va_rf a0] h none h2 := by
  unfold fJxa1e45_init_da8c8 at hf
  by_cases c0 : hp_rcv h a0 0 = false
  · rw [if_pos c0] at hf; cases hf
  rw [if_neg c0] at hf
  refine ⟨(Bool.not_eq_false _).mp c0, ?_⟩
  obtain ⟨d, rfl⟩ : ∃ k, d = k + 1 := ⟨d - 1, by omega⟩
  exact Rn.of2 me_Jxa1e45_init_da8c8 (by simp [lg_sl, rt_cat, cat_i, cat_l]) rfl (l := [(0, va_rf a0)]) (by simp [lv_args, rt_cat, cat_i, cat_l]) (rJxa1e45_init_da8c8_0 (by omega) hf)
noncomputable def bJxc12de_init_da8c8_0 (E : ah_E) (a0 : Option Nat) (h : ah_H) : Option ah_H :=
  (fJxa1e45_init_da8c8 E a0 h).bind fun w2 =>
  (hp_pv w2 a0 0 0 (.int (0 : Int32))).bind fun w4 =>
  some w4
set_option maxRecDepth 20000 in
set_option maxHeartbeats 4000000 in
theorem rJxc12de_init_da8c8_0 {X : ah_X} {d : Nat} (hd : 1 ≤ d) {a0 : Option Nat} {h : ah_H} {h2 : ah_H} (hf : bJxc12de_init_da8c8_0 X.2.2.2 a0 h = some h2) : Rt X yJxc12de_init_da8c8 cJxc12de_init_da8c8 1 (d + 1) 0 [(0, va_rf a0)] [] h none h2 := by
  unfold bJxc12de_init_da8c8_0 at hf
  refine rt_aload_n (pc := 0) (k0 := 0) (x := a0) 0 rfl dJxc12de_init_da8c8_0 ?_
  obtain ⟨w2, e1, hf⟩ := ob1 hf
  have g3 := sJxa1e45_init_da8c8 d (by omega) e1
  refine rt_callI (pc := 1) (As := []) (st := []) (ci := 0) me_Jxa1e45_init_da8c8 mI_Jxa1e45_init_da8c8 wl_Jxc12de_1 dJxc12de_init_da8c8_1 rfl (by decide) rfl g3.1 g3.2 ?_
  refine rt_aload_n (pc := 4) (k0 := 0) (x := a0) 0 rfl dJxc12de_init_da8c8_4 ?_
  refine rt_iconst (pc := 5) (n := 0) (v := (0 : Int32)) (by decide) dJxc12de_init_da8c8_5 ?_
  obtain ⟨w4, e5, hf⟩ := ob1 hf
  refine rt_putf (pc := 6) (x := a0) fw_Jxc12de_7 (Or.inl rfl) (pf_i _).1 (pf_i _).2 dJxc12de_init_da8c8_6 e5 ?_
  cases hf
  exact rt_ret (pc := 9) dJxc12de_init_da8c8_9 rfl
noncomputable def fJxc12de_init_da8c8 (E : ah_E) (a0 : Option Nat) (h : ah_H) : Option ah_H := if hp_rcv h a0 0 = false then none else bJxc12de_init_da8c8_0 E a0 h
set_option maxRecDepth 20000 in
set_option maxHeartbeats 4000000 in
theorem sJxc12de_init_da8c8 {X : ah_X} (d : Nat) (hd : 2 ≤ d) {a0 : Option Nat} {h : ah_H} {h2 : ah_H} (hf : fJxc12de_init_da8c8 X.2.2.2 a0 h = some h2) : hp_rcv h a0 0 = true ∧ Rn X yJxc12de_init_da8c8 cJxc12de_init_da8c8 1 none d [va_rf a0] h none h2 := by
  unfold fJxc12de_init_da8c8 at hf
  by_cases c0 : hp_rcv h a0 0 = false
  · rw [if_pos c0] at hf; cases hf
  rw [if_neg c0] at hf
  refine ⟨(Bool.not_eq_false _).mp c0, ?_⟩
  obtain ⟨d, rfl⟩ : ∃ k, d = k + 1 := ⟨d - 1, by omega⟩
  exact Rn.of2 me_Jxc12de_init_da8c8 (by simp [lg_sl, rt_cat, cat_i, cat_l]) rfl (l := [(0, va_rf a0)]) (by simp [lv_args, rt_cat, cat_i, cat_l]) (rJxc12de_init_da8c8_0 (by omega) hf)
noncomputable def bJx4a65c_init_da8c8_0 (E : ah_E) (a0 : Option Nat) (h : ah_H) : Option ah_H :=
  (fJxc12de_init_da8c8 E a0 h).bind fun w2 =>
  (hp_pv w2 a0 0 1 (va_rf (some E.1))).bind fun w4 =>
  some w4
set_option maxRecDepth 20000 in
set_option maxHeartbeats 4000000 in
theorem rJx4a65c_init_da8c8_0 {X : ah_X} {d : Nat} (hd : 2 ≤ d) {a0 : Option Nat} {h : ah_H} {h2 : ah_H} (hf : bJx4a65c_init_da8c8_0 X.2.2.2 a0 h = some h2) : Rt X yJx4a65c_init_da8c8 cJx4a65c_init_da8c8 1 (d + 1) 0 [(0, va_rf a0)] [] h none h2 := by
  unfold bJx4a65c_init_da8c8_0 at hf
  refine rt_aload_n (pc := 0) (k0 := 0) (x := a0) 0 rfl dJx4a65c_init_da8c8_0 ?_
  obtain ⟨w2, e1, hf⟩ := ob1 hf
  have g3 := sJxc12de_init_da8c8 d (by omega) e1
  refine rt_callI (pc := 1) (As := []) (st := []) (ci := 0) me_Jxc12de_init_da8c8 mI_Jxc12de_init_da8c8 wl_Jx4a65c_1 dJx4a65c_init_da8c8_1 rfl (by decide) rfl g3.1 g3.2 ?_
  refine rt_aload_n (pc := 4) (k0 := 0) (x := a0) 0 rfl dJx4a65c_init_da8c8_4 ?_
  refine rt_getE (pc := 5) wf_Jx4a65c_39 dJx4a65c_init_da8c8_5 ?_
  obtain ⟨w4, e5, hf⟩ := ob1 hf
  refine rt_putf (pc := 8) (x := a0) fw_Jx4a65c_9 (Or.inl rfl) (pf_a _ _).1 (pf_a _ _).2 dJx4a65c_init_da8c8_8 e5 ?_
  cases hf
  exact rt_ret (pc := 11) dJx4a65c_init_da8c8_11 rfl
noncomputable def fJx4a65c_init_da8c8 (E : ah_E) (a0 : Option Nat) (h : ah_H) : Option ah_H := if hp_rcv h a0 0 = false then none else bJx4a65c_init_da8c8_0 E a0 h
set_option maxRecDepth 20000 in
set_option maxHeartbeats 4000000 in
theorem sJx4a65c_init_da8c8 {X : ah_X} (d : Nat) (hd : 3 ≤ d) {a0 : Option Nat} {h : ah_H} {h2 : ah_H} (hf : fJx4a65c_init_da8c8 X.2.2.2 a0 h = some h2) : hp_rcv h a0 0 = true ∧ Rn X yJx4a65c_init_da8c8 cJx4a65c_init_da8c8 1 none d [va_rf a0] h none h2 := by
  unfold fJx4a65c_init_da8c8 at hf
  by_cases c0 : hp_rcv h a0 0 = false
  · rw [if_pos c0] at hf; cases hf
  rw [if_neg c0] at hf
  refine ⟨(Bool.not_eq_false _).mp c0, ?_⟩
  obtain ⟨d, rfl⟩ : ∃ k, d = k + 1 := ⟨d - 1, by omega⟩
  exact Rn.of2 me_Jx4a65c_init_da8c8 (by simp [lg_sl, rt_cat, cat_i, cat_l]) rfl (l := [(0, va_rf a0)]) (by simp [lv_args, rt_cat, cat_i, cat_l]) (rJx4a65c_init_da8c8_0 (by omega) hf)
noncomputable def bJx4a65c_isEmpty_aae02_12 (E : ah_E) (s0 : Int32) (h : ah_H) : Option (Int32 × ah_H) :=
  some (s0, h)
set_option maxRecDepth 20000 in
set_option maxHeartbeats 4000000 in
theorem rJx4a65c_isEmpty_aae02_12 {X : ah_X} {d : Nat} {s0 : Int32} {h : ah_H} {r : Int32} {h2 : ah_H} (hf : bJx4a65c_isEmpty_aae02_12 X.2.2.2 s0 h = some (r, h2)) : Rt X yJx4a65c_isEmpty_aae02 cJx4a65c_isEmpty_aae02 1 d 12 [] [.int s0] h (some (.int r)) h2 := by
  unfold bJx4a65c_isEmpty_aae02_12 at hf
  cases hf
  exact rt_ret (pc := 12) dJx4a65c_isEmpty_aae02_12 rfl
noncomputable def bJx4a65c_isEmpty_aae02_0 (E : ah_E) (a0 : Option Nat) (h : ah_H) : Option (Int32 × ah_H) :=
  (hp_gi h a0 0 2).bind fun v1 =>
  if v1 = 0 then
    bJx4a65c_isEmpty_aae02_12 E (1 : Int32) h
  else
  bJx4a65c_isEmpty_aae02_12 E (0 : Int32) h
set_option maxRecDepth 20000 in
set_option maxHeartbeats 4000000 in
theorem rJx4a65c_isEmpty_aae02_0 {X : ah_X} {d : Nat} {a0 : Option Nat} {h : ah_H} {r : Int32} {h2 : ah_H} (hf : bJx4a65c_isEmpty_aae02_0 X.2.2.2 a0 h = some (r, h2)) : Rt X yJx4a65c_isEmpty_aae02 cJx4a65c_isEmpty_aae02 1 d 0 [(0, va_rf a0)] [] h (some (.int r)) h2 := by
  unfold bJx4a65c_isEmpty_aae02_0 at hf
  refine rt_aload_n (pc := 0) (k0 := 0) (x := a0) 0 rfl dJx4a65c_isEmpty_aae02_0 ?_
  obtain ⟨v1, e2, hf⟩ := ob1 hf
  refine rt_gi (pc := 1) fd_Jx4a65c_48 dJx4a65c_isEmpty_aae02_1 e2 ?_
  by_cases c3 : v1 = 0
  · rw [if_pos c3] at hf
    refine rt_if_ne_p (pc := 4) (x := v1) (tgt := 11) (by decide) dJx4a65c_isEmpty_aae02_4 c3 ?_
    refine rt_iconst (pc := 7) (n := 1) (v := (1 : Int32)) (by decide) dJx4a65c_isEmpty_aae02_7 ?_
    refine rt_goto (pc := 8) (tgt := 12) (by decide) dJx4a65c_isEmpty_aae02_8 ?_
    exact rt_locals (rt_sub [] rfl) (rJx4a65c_isEmpty_aae02_12 hf)
  rw [if_neg c3] at hf
  refine rt_if_ne_n (pc := 4) (x := v1) (tgt := 11) (by decide) dJx4a65c_isEmpty_aae02_4 c3 ?_
  refine rt_iconst (pc := 11) (n := 0) (v := (0 : Int32)) (by decide) dJx4a65c_isEmpty_aae02_11 ?_
  exact rt_locals (rt_sub [] rfl) (rJx4a65c_isEmpty_aae02_12 hf)
noncomputable def fJx4a65c_isEmpty_aae02 (E : ah_E) (a0 : Option Nat) (h : ah_H) : Option (Int32 × ah_H) := if hp_rcv h a0 0 = false then none else zb (bJx4a65c_isEmpty_aae02_0 E a0 h)
set_option maxRecDepth 20000 in
set_option maxHeartbeats 4000000 in
theorem sJx4a65c_isEmpty_aae02 {X : ah_X} (d : Nat) (hd : 0 ≤ d) {a0 : Option Nat} {h : ah_H} {r : Int32} {h2 : ah_H} (hf : fJx4a65c_isEmpty_aae02 X.2.2.2 a0 h = some (r, h2)) : hp_rcv h a0 0 = true ∧ Rn X yJx4a65c_isEmpty_aae02 cJx4a65c_isEmpty_aae02 1 (some .boolean) d [va_rf a0] h (some (.int r)) h2 := by
  unfold fJx4a65c_isEmpty_aae02 at hf
  by_cases c0 : hp_rcv h a0 0 = false
  · rw [if_pos c0] at hf; cases hf
  rw [if_neg c0] at hf
  refine ⟨(Bool.not_eq_false _).mp c0, ?_⟩
  obtain ⟨hf, hz⟩ := zb_of hf
  exact Rn.of2 me_Jx4a65c_isEmpty_aae02 (by simp [lg_sl, rt_cat, cat_i, cat_l]) (ok_z hz) (l := [(0, va_rf a0)]) (by simp [lv_args, rt_cat, cat_i, cat_l]) (rJx4a65c_isEmpty_aae02_0 hf)
noncomputable def bJx4a65c_remove_915e3_0 (E : ah_E) (a0 : Option Nat) (a1 : Int32) (h : ah_H) : Option (Option Nat × ah_H) :=
  (hp_gi h a0 0 2).bind fun v1 =>
  ob2 (fJ15_checkIndex_7cf53 E a1 v1 h) fun v5 w4 =>
  (hp_gr w4 a0 0 1).bind fun v7 =>
  (hp_ldq w4 v7 a1).bind fun v9 =>
  (fJx4a65c_fastRemove_b59b0 E a0 v7 a1 w4).bind fun w12 =>
  some (v9, w12)
set_option maxRecDepth 20000 in
set_option maxHeartbeats 4000000 in
theorem rJx4a65c_remove_915e3_0 {X : ah_X} {d : Nat} (hd : 1 ≤ d) {a0 : Option Nat} {a1 : Int32} {h : ah_H} {r : Option Nat} {h2 : ah_H} (hf : bJx4a65c_remove_915e3_0 X.2.2.2 a0 a1 h = some (r, h2)) : Rt X yJx4a65c_remove_915e3 cJx4a65c_remove_915e3 4 (d + 1) 0 [(0, va_rf a0), (1, .int a1)] [] h (some (va_rf r)) h2 := by
  unfold bJx4a65c_remove_915e3_0 at hf
  refine rt_iload_n (pc := 0) (k0 := 1) (x := a1) 1 rfl dJx4a65c_remove_915e3_0 ?_
  refine rt_aload_n (pc := 1) (k0 := 0) (x := a0) 0 rfl dJx4a65c_remove_915e3_1 ?_
  obtain ⟨v1, e2, hf⟩ := ob1 hf
  refine rt_gi (pc := 2) fd_Jx4a65c_48 dJx4a65c_remove_915e3_2 e2 ?_
  obtain ⟨v5, w4, e3, hf⟩ := ob2_of hf
  have g6 := sJ15_checkIndex_7cf53 d (by omega) e3
  refine rt_callS (pc := 5) (As := [.int a1, .int v1]) (st := []) me_J15_checkIndex_7cf53 ms_J15_checkIndex_7cf53 wl_Jx4a65c_118 dJx4a65c_remove_915e3_5 rfl (by decide) rfl g6 ?_
  refine rt_pop (pc := 8) rfl dJx4a65c_remove_915e3_8 ?_
  refine rt_aload_n (pc := 9) (k0 := 0) (x := a0) 0 rfl dJx4a65c_remove_915e3_9 ?_
  obtain ⟨v7, e8, hf⟩ := ob1 hf
  refine rt_gr (pc := 10) fd_Jx4a65c_9 dJx4a65c_remove_915e3_10 e8 ?_
  refine rt_astore_n (pc := 13) (k0 := 2) (x := v7) (l2 := [(2, va_rf v7), (0, va_rf a0), (1, .int a1)]) (by decide) (by first | rfl | (simp [rt_cat, cat_i, cat_l]; done) | (simp [rt_cat, cat_i, cat_l]; decide)) dJx4a65c_remove_915e3_13 ?_
  refine rt_aload_n (pc := 14) (k0 := 2) (x := v7) 0 rfl dJx4a65c_remove_915e3_14 ?_
  refine rt_iload_n (pc := 15) (k0 := 1) (x := a1) 2 rfl dJx4a65c_remove_915e3_15 ?_
  obtain ⟨v9, e10, hf⟩ := ob1 hf
  refine rt_aald (pc := 16) dJx4a65c_remove_915e3_16 e10 ?_
  refine rt_astore_n (pc := 17) (k0 := 3) (x := v9) (l2 := [(3, va_rf v9), (2, va_rf v7), (0, va_rf a0), (1, .int a1)]) (by decide) (by first | rfl | (simp [rt_cat, cat_i, cat_l]; done) | (simp [rt_cat, cat_i, cat_l]; decide)) dJx4a65c_remove_915e3_17 ?_
  refine rt_aload_n (pc := 18) (k0 := 0) (x := a0) 2 rfl dJx4a65c_remove_915e3_18 ?_
  refine rt_aload_n (pc := 19) (k0 := 2) (x := v7) 1 rfl dJx4a65c_remove_915e3_19 ?_
  refine rt_iload_n (pc := 20) (k0 := 1) (x := a1) 3 rfl dJx4a65c_remove_915e3_20 ?_
  obtain ⟨w12, e11, hf⟩ := ob1 hf
  have g13 := sJx4a65c_fastRemove_b59b0 d (by omega) e11
  refine rt_callV (pc := 21) (As := [va_rf v7, .int a1]) (st := []) me_Jx4a65c_fastRemove_b59b0 mi_Jx4a65c_fastRemove_b59b0 wl_Jx4a65c_144 dJx4a65c_remove_915e3_21 rfl (by decide) rfl g13.1 g13.2 ?_
  refine rt_aload_n (pc := 24) (k0 := 3) (x := v9) 0 rfl dJx4a65c_remove_915e3_24 ?_
  cases hf
  exact rt_ret (pc := 25) (rt_atR _ dJx4a65c_remove_915e3_25) rfl
noncomputable def fJx4a65c_remove_915e3 (E : ah_E) (a0 : Option Nat) (a1 : Int32) (h : ah_H) : Option (Option Nat × ah_H) := if hp_rcv h a0 0 = false then none else bJx4a65c_remove_915e3_0 E a0 a1 h
set_option maxRecDepth 20000 in
set_option maxHeartbeats 4000000 in
theorem sJx4a65c_remove_915e3 {X : ah_X} (d : Nat) (hd : 2 ≤ d) {a0 : Option Nat} {a1 : Int32} {h : ah_H} {r : Option Nat} {h2 : ah_H} (hf : fJx4a65c_remove_915e3 X.2.2.2 a0 a1 h = some (r, h2)) : hp_rcv h a0 0 = true ∧ Rn X yJx4a65c_remove_915e3 cJx4a65c_remove_915e3 4 (some (.object "java/lang/Object")) d [va_rf a0, .int a1] h (some (va_rf r)) h2 := by
  unfold fJx4a65c_remove_915e3 at hf
  by_cases c0 : hp_rcv h a0 0 = false
  · rw [if_pos c0] at hf; cases hf
  rw [if_neg c0] at hf
  refine ⟨(Bool.not_eq_false _).mp c0, ?_⟩
  obtain ⟨d, rfl⟩ : ∃ k, d = k + 1 := ⟨d - 1, by omega⟩
  exact Rn.of2 me_Jx4a65c_remove_915e3 (by simp [lg_sl, rt_cat, cat_i, cat_l]) (ok_o _ _) (l := [(0, va_rf a0), (1, .int a1)]) (by simp [lv_args, rt_cat, cat_i, cat_l]) (rJx4a65c_remove_915e3_0 (by omega) hf)
noncomputable def bJx4a65c_set_bcc79_0 (E : ah_E) (a0 : Option Nat) (a1 : Int32) (a2 : Option Nat) (h : ah_H) : Option (Option Nat × ah_H) :=
  (hp_gi h a0 0 2).bind fun v1 =>
  ob2 (fJ15_checkIndex_7cf53 E a1 v1 h) fun v5 w4 =>
  ob2 (fJx4a65c_elementData_915e3 E a0 a1 w4) fun v9 w8 =>
  (hp_gr w8 a0 0 1).bind fun v11 =>
  (hp_stq w8 v11 a1 a2).bind fun w13 =>
  some (v9, w13)
set_option maxRecDepth 20000 in
set_option maxHeartbeats 4000000 in
theorem rJx4a65c_set_bcc79_0 {X : ah_X} {d : Nat} (hd : 1 ≤ d) {a0 : Option Nat} {a1 : Int32} {a2 : Option Nat} {h : ah_H} {r : Option Nat} {h2 : ah_H} (hf : bJx4a65c_set_bcc79_0 X.2.2.2 a0 a1 a2 h = some (r, h2)) : Rt X yJx4a65c_set_bcc79 cJx4a65c_set_bcc79 4 (d + 1) 0 [(0, va_rf a0), (1, .int a1), (2, va_rf a2)] [] h (some (va_rf r)) h2 := by
  unfold bJx4a65c_set_bcc79_0 at hf
  refine rt_iload_n (pc := 0) (k0 := 1) (x := a1) 1 rfl dJx4a65c_set_bcc79_0 ?_
  refine rt_aload_n (pc := 1) (k0 := 0) (x := a0) 0 rfl dJx4a65c_set_bcc79_1 ?_
  obtain ⟨v1, e2, hf⟩ := ob1 hf
  refine rt_gi (pc := 2) fd_Jx4a65c_48 dJx4a65c_set_bcc79_2 e2 ?_
  obtain ⟨v5, w4, e3, hf⟩ := ob2_of hf
  have g6 := sJ15_checkIndex_7cf53 d (by omega) e3
  refine rt_callS (pc := 5) (As := [.int a1, .int v1]) (st := []) me_J15_checkIndex_7cf53 ms_J15_checkIndex_7cf53 wl_Jx4a65c_118 dJx4a65c_set_bcc79_5 rfl (by decide) rfl g6 ?_
  refine rt_pop (pc := 8) rfl dJx4a65c_set_bcc79_8 ?_
  refine rt_aload_n (pc := 9) (k0 := 0) (x := a0) 0 rfl dJx4a65c_set_bcc79_9 ?_
  refine rt_iload_n (pc := 10) (k0 := 1) (x := a1) 1 rfl dJx4a65c_set_bcc79_10 ?_
  obtain ⟨v9, w8, e7, hf⟩ := ob2_of hf
  have g10 := sJx4a65c_elementData_915e3 d (by omega) e7
  refine rt_callV (pc := 11) (As := [.int a1]) (st := []) me_Jx4a65c_elementData_915e3 mi_Jx4a65c_elementData_915e3 wl_Jx4a65c_123 dJx4a65c_set_bcc79_11 rfl (by decide) rfl g10.1 g10.2 ?_
  refine rt_astore_n (pc := 14) (k0 := 3) (x := v9) (l2 := [(3, va_rf v9), (0, va_rf a0), (1, .int a1), (2, va_rf a2)]) (by decide) (by first | rfl | (simp [rt_cat, cat_i, cat_l]; done) | (simp [rt_cat, cat_i, cat_l]; decide)) dJx4a65c_set_bcc79_14 ?_
  refine rt_aload_n (pc := 15) (k0 := 0) (x := a0) 1 rfl dJx4a65c_set_bcc79_15 ?_
  obtain ⟨v11, e12, hf⟩ := ob1 hf
  refine rt_gr (pc := 16) fd_Jx4a65c_9 dJx4a65c_set_bcc79_16 e12 ?_
  refine rt_iload_n (pc := 19) (k0 := 1) (x := a1) 2 rfl dJx4a65c_set_bcc79_19 ?_
  refine rt_aload_n (pc := 20) (k0 := 2) (x := a2) 3 rfl dJx4a65c_set_bcc79_20 ?_
  obtain ⟨w13, e14, hf⟩ := ob1 hf
  refine rt_aast (pc := 21) dJx4a65c_set_bcc79_21 e14 ?_
  refine rt_aload_n (pc := 22) (k0 := 3) (x := v9) 0 rfl dJx4a65c_set_bcc79_22 ?_
  cases hf
  exact rt_ret (pc := 23) (rt_atR _ dJx4a65c_set_bcc79_23) rfl
noncomputable def fJx4a65c_set_bcc79 (E : ah_E) (a0 : Option Nat) (a1 : Int32) (a2 : Option Nat) (h : ah_H) : Option (Option Nat × ah_H) := if hp_rcv h a0 0 = false then none else bJx4a65c_set_bcc79_0 E a0 a1 a2 h
set_option maxRecDepth 20000 in
set_option maxHeartbeats 4000000 in
theorem sJx4a65c_set_bcc79 {X : ah_X} (d : Nat) (hd : 2 ≤ d) {a0 : Option Nat} {a1 : Int32} {a2 : Option Nat} {h : ah_H} {r : Option Nat} {h2 : ah_H} (hf : fJx4a65c_set_bcc79 X.2.2.2 a0 a1 a2 h = some (r, h2)) : hp_rcv h a0 0 = true ∧ Rn X yJx4a65c_set_bcc79 cJx4a65c_set_bcc79 4 (some (.object "java/lang/Object")) d [va_rf a0, .int a1, va_rf a2] h (some (va_rf r)) h2 := by
  unfold fJx4a65c_set_bcc79 at hf
  by_cases c0 : hp_rcv h a0 0 = false
  · rw [if_pos c0] at hf; cases hf
  rw [if_neg c0] at hf
  refine ⟨(Bool.not_eq_false _).mp c0, ?_⟩
  obtain ⟨d, rfl⟩ : ∃ k, d = k + 1 := ⟨d - 1, by omega⟩
  exact Rn.of2 me_Jx4a65c_set_bcc79 (by simp [lg_sl, rt_cat, cat_i, cat_l]) (ok_o _ _) (l := [(0, va_rf a0), (1, .int a1), (2, va_rf a2)]) (by simp [lv_args, rt_cat, cat_i, cat_l]) (rJx4a65c_set_bcc79_0 (by omega) hf)
noncomputable def bJx4a65c_size_8abf5_0 (E : ah_E) (a0 : Option Nat) (h : ah_H) : Option (Int32 × ah_H) :=
  (hp_gi h a0 0 2).bind fun v1 =>
  some (v1, h)
set_option maxRecDepth 20000 in
set_option maxHeartbeats 4000000 in
theorem rJx4a65c_size_8abf5_0 {X : ah_X} {d : Nat} {a0 : Option Nat} {h : ah_H} {r : Int32} {h2 : ah_H} (hf : bJx4a65c_size_8abf5_0 X.2.2.2 a0 h = some (r, h2)) : Rt X yJx4a65c_size_8abf5 cJx4a65c_size_8abf5 1 d 0 [(0, va_rf a0)] [] h (some (.int r)) h2 := by
  unfold bJx4a65c_size_8abf5_0 at hf
  refine rt_aload_n (pc := 0) (k0 := 0) (x := a0) 0 rfl dJx4a65c_size_8abf5_0 ?_
  obtain ⟨v1, e2, hf⟩ := ob1 hf
  refine rt_gi (pc := 1) fd_Jx4a65c_48 dJx4a65c_size_8abf5_1 e2 ?_
  cases hf
  exact rt_ret (pc := 4) dJx4a65c_size_8abf5_4 rfl
noncomputable def fJx4a65c_size_8abf5 (E : ah_E) (a0 : Option Nat) (h : ah_H) : Option (Int32 × ah_H) := if hp_rcv h a0 0 = false then none else bJx4a65c_size_8abf5_0 E a0 h
set_option maxRecDepth 20000 in
set_option maxHeartbeats 4000000 in
theorem sJx4a65c_size_8abf5 {X : ah_X} (d : Nat) (hd : 0 ≤ d) {a0 : Option Nat} {h : ah_H} {r : Int32} {h2 : ah_H} (hf : fJx4a65c_size_8abf5 X.2.2.2 a0 h = some (r, h2)) : hp_rcv h a0 0 = true ∧ Rn X yJx4a65c_size_8abf5 cJx4a65c_size_8abf5 1 (some .int) d [va_rf a0] h (some (.int r)) h2 := by
  unfold fJx4a65c_size_8abf5 at hf
  by_cases c0 : hp_rcv h a0 0 = false
  · rw [if_pos c0] at hf; cases hf
  rw [if_neg c0] at hf
  refine ⟨(Bool.not_eq_false _).mp c0, ?_⟩
  exact Rn.of2 me_Jx4a65c_size_8abf5 (by simp [lg_sl, rt_cat, cat_i, cat_l]) (ok_i _) (l := [(0, va_rf a0)]) (by simp [lv_args, rt_cat, cat_i, cat_l]) (rJx4a65c_size_8abf5_0 hf)
