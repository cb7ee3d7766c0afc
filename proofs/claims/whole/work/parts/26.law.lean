noncomputable def bL_law_1381 (E : ah_E) (k18 : Option Nat → Option Nat → Int32 → ah_H → Option (Int32 × ah_H)) (a1 : Option Nat) (a2 : Option Nat) (a3 : Int32) (h : ah_H) : Option (Int32 × ah_H) :=
  k18 a1 a2 (a3 + 5) h
set_option maxRecDepth 20000 in
set_option maxHeartbeats 4000000 in
theorem rL_law_1381 {X : ah_X} {d : Nat} (hd : 150 ≤ d) {k18 : Option Nat → Option Nat → Int32 → ah_H → Option (Int32 × ah_H)} (hk18 : ∀ (x0 : Option Nat) (x1 : Option Nat) (x2 : Int32) (h : ah_H) (r : Int32) (h2 : ah_H), k18 x0 x1 x2 h = some (r, h2) → Rt X yL_law cL_law 4 (d + 1) 18 [(0, va_rf (some X.2.2.2.2.2.2.1)), (1, va_rf x0), (2, va_rf x1), (3, .int x2)] [] h (some (.int r)) h2) {a1 : Option Nat} {a2 : Option Nat} {a3 : Int32} {h : ah_H} {r : Int32} {h2 : ah_H} (hf : bL_law_1381 X.2.2.2 k18 a1 a2 a3 h = some (r, h2)) : Rt X yL_law cL_law 4 (d + 1) 1381 [(0, va_rf (some X.2.2.2.2.2.2.1)), (1, va_rf a1), (2, va_rf a2), (3, .int a3)] [] h (some (.int r)) h2 := by
  unfold bL_law_1381 at hf
  refine rt_iinc (pc := 1381) (i := 3) (n := 5) (x := a3) (v := (a3 + 5)) (l2 := [(3, .int (a3 + 5)), (0, va_rf (some X.2.2.2.2.2.2.1)), (1, va_rf a1), (2, va_rf a2)]) 3 rfl rfl (by decide) (by first | rfl | (simp [rt_cat, cat_i, cat_l]; done) | (simp [rt_cat, cat_i, cat_l]; decide)) dL_law_1381 ?_
  refine rt_goto (pc := 1384) (tgt := 18) (by decide) dL_law_1384 ?_
  exact rt_locals (rt_sub [1, 2, 3, 0] rfl) (hk18 _ _ _ _ _ _ hf)
noncomputable def bL_law_18 (E : ah_E) : Nat → Option Nat → Option Nat → Int32 → ah_H → Option (Int32 × ah_H)
  | 0 => fun _ _ _ _ => none
  | n + 1 => fun a1 a2 a3 h =>
  if ((Int32.ofNat E.2.2.2.2.1) - (5 : Int32)) < a3 then
    some ((1 : Int32), h)
  else
  if a3 < 0 ∨ E.2.2.2.2.1 ≤ (a3).toNatClampNeg then none else
  if ((E.2.2.2.2.2 (a3).toNatClampNeg) &&& (63 : Int32)) = 0 then
    if (a3 + (1 : Int32)) < 0 ∨ E.2.2.2.2.1 ≤ ((a3 + (1 : Int32))).toNatClampNeg then none else
    if (a3 + (2 : Int32)) < 0 ∨ E.2.2.2.2.1 ≤ ((a3 + (2 : Int32))).toNatClampNeg then none else
    if (a3 + (3 : Int32)) < 0 ∨ E.2.2.2.2.1 ≤ ((a3 + (3 : Int32))).toNatClampNeg then none else
    ob2 (fX9_feed E a1 ((((E.2.2.2.2.2 ((a3 + (1 : Int32))).toNatClampNeg)).toInt64 <<< ((32 : Int32).toInt64 &&& 63)) ||| (((E.2.2.2.2.2 ((a3 + (2 : Int32))).toNatClampNeg)).toInt64 &&& (4294967295 : Int64))) (E.2.2.2.2.2 ((a3 + (3 : Int32))).toNatClampNeg) h) fun v9 w8 =>
    if (a3 + (1 : Int32)) < 0 ∨ E.2.2.2.2.1 ≤ ((a3 + (1 : Int32))).toNatClampNeg then none else
    if (a3 + (2 : Int32)) < 0 ∨ E.2.2.2.2.1 ≤ ((a3 + (2 : Int32))).toNatClampNeg then none else
    if (a3 + (3 : Int32)) < 0 ∨ E.2.2.2.2.1 ≤ ((a3 + (3 : Int32))).toNatClampNeg then none else
    ob2 (fX10_feed E a2 ((((E.2.2.2.2.2 ((a3 + (1 : Int32))).toNatClampNeg)).toInt64 <<< ((32 : Int32).toInt64 &&& 63)) ||| (((E.2.2.2.2.2 ((a3 + (2 : Int32))).toNatClampNeg)).toInt64 &&& (4294967295 : Int64))) (E.2.2.2.2.2 ((a3 + (3 : Int32))).toNatClampNeg) w8) fun v16 w15 =>
    if v9 = v16 then
      bL_law_1381 E (bL_law_18 E n) a1 a2 a3 w15
    else
    some ((0 : Int32), w15)
  else
  if ((E.2.2.2.2.2 (a3).toNatClampNeg) &&& (63 : Int32)) = 1 then
    if (a3 + (1 : Int32)) < 0 ∨ E.2.2.2.2.1 ≤ ((a3 + (1 : Int32))).toNatClampNeg then none else
    ob2 (fX9_cut E a1 (E.2.2.2.2.2 ((a3 + (1 : Int32))).toNatClampNeg) h) fun v23 w22 =>
    if (a3 + (1 : Int32)) < 0 ∨ E.2.2.2.2.1 ≤ ((a3 + (1 : Int32))).toNatClampNeg then none else
    ob2 (fX10_cut E a2 (E.2.2.2.2.2 ((a3 + (1 : Int32))).toNatClampNeg) w22) fun v28 w27 =>
    if v23 = v28 then
      bL_law_1381 E (bL_law_18 E n) a1 a2 a3 w27
    else
    some ((0 : Int32), w27)
  else
  if ((E.2.2.2.2.2 (a3).toNatClampNeg) &&& (63 : Int32)) = 2 then
    if (a3 + (1 : Int32)) < 0 ∨ E.2.2.2.2.1 ≤ ((a3 + (1 : Int32))).toNatClampNeg then none else
    ob2 (fX9_byteAt E a1 (E.2.2.2.2.2 ((a3 + (1 : Int32))).toNatClampNeg) h) fun v35 w34 =>
    if (a3 + (1 : Int32)) < 0 ∨ E.2.2.2.2.1 ≤ ((a3 + (1 : Int32))).toNatClampNeg then none else
    ob2 (fX10_byteAt E a2 (E.2.2.2.2.2 ((a3 + (1 : Int32))).toNatClampNeg) w34) fun v40 w39 =>
    if v35 = v40 then
      bL_law_1381 E (bL_law_18 E n) a1 a2 a3 w39
    else
    some ((0 : Int32), w39)
  else
  if ((E.2.2.2.2.2 (a3).toNatClampNeg) &&& (63 : Int32)) = 3 then
    if (a3 + (1 : Int32)) < 0 ∨ E.2.2.2.2.1 ≤ ((a3 + (1 : Int32))).toNatClampNeg then none else
    if (a3 + (2 : Int32)) < 0 ∨ E.2.2.2.2.1 ≤ ((a3 + (2 : Int32))).toNatClampNeg then none else
    ob2 (fX9_put E a1 ((((E.2.2.2.2.2 ((a3 + (1 : Int32))).toNatClampNeg)).toInt64 <<< ((32 : Int32).toInt64 &&& 63)) ||| (((E.2.2.2.2.2 ((a3 + (2 : Int32))).toNatClampNeg)).toInt64 &&& (4294967295 : Int64))) h) fun v48 w47 =>
    if (a3 + (1 : Int32)) < 0 ∨ E.2.2.2.2.1 ≤ ((a3 + (1 : Int32))).toNatClampNeg then none else
    if (a3 + (2 : Int32)) < 0 ∨ E.2.2.2.2.1 ≤ ((a3 + (2 : Int32))).toNatClampNeg then none else
    ob2 (fX10_put E a2 ((((E.2.2.2.2.2 ((a3 + (1 : Int32))).toNatClampNeg)).toInt64 <<< ((32 : Int32).toInt64 &&& 63)) ||| (((E.2.2.2.2.2 ((a3 + (2 : Int32))).toNatClampNeg)).toInt64 &&& (4294967295 : Int64))) w47) fun v54 w53 =>
    if v48 = v54 then
      bL_law_1381 E (bL_law_18 E n) a1 a2 a3 w53
    else
    some ((0 : Int32), w53)
  else
  if ((E.2.2.2.2.2 (a3).toNatClampNeg) &&& (63 : Int32)) = 4 then
    if (a3 + (1 : Int32)) < 0 ∨ E.2.2.2.2.1 ≤ ((a3 + (1 : Int32))).toNatClampNeg then none else
    if (a3 + (2 : Int32)) < 0 ∨ E.2.2.2.2.1 ≤ ((a3 + (2 : Int32))).toNatClampNeg then none else
    ob2 (fX9_append E a1 ((((E.2.2.2.2.2 ((a3 + (1 : Int32))).toNatClampNeg)).toInt64 <<< ((32 : Int32).toInt64 &&& 63)) ||| (((E.2.2.2.2.2 ((a3 + (2 : Int32))).toNatClampNeg)).toInt64 &&& (4294967295 : Int64))) h) fun v62 w61 =>
    if (a3 + (1 : Int32)) < 0 ∨ E.2.2.2.2.1 ≤ ((a3 + (1 : Int32))).toNatClampNeg then none else
    if (a3 + (2 : Int32)) < 0 ∨ E.2.2.2.2.1 ≤ ((a3 + (2 : Int32))).toNatClampNeg then none else
    ob2 (fX10_append E a2 ((((E.2.2.2.2.2 ((a3 + (1 : Int32))).toNatClampNeg)).toInt64 <<< ((32 : Int32).toInt64 &&& 63)) ||| (((E.2.2.2.2.2 ((a3 + (2 : Int32))).toNatClampNeg)).toInt64 &&& (4294967295 : Int64))) w61) fun v68 w67 =>
    if v62 = v68 then
      bL_law_1381 E (bL_law_18 E n) a1 a2 a3 w67
    else
    some ((0 : Int32), w67)
  else
  if ((E.2.2.2.2.2 (a3).toNatClampNeg) &&& (63 : Int32)) = 5 then
    if (a3 + (1 : Int32)) < 0 ∨ E.2.2.2.2.1 ≤ ((a3 + (1 : Int32))).toNatClampNeg then none else
    if (a3 + (2 : Int32)) < 0 ∨ E.2.2.2.2.1 ≤ ((a3 + (2 : Int32))).toNatClampNeg then none else
    if (a3 + (3 : Int32)) < 0 ∨ E.2.2.2.2.1 ≤ ((a3 + (3 : Int32))).toNatClampNeg then none else
    ob2 (fX9_swap E a1 ((((E.2.2.2.2.2 ((a3 + (1 : Int32))).toNatClampNeg)).toInt64 <<< ((32 : Int32).toInt64 &&& 63)) ||| (((E.2.2.2.2.2 ((a3 + (2 : Int32))).toNatClampNeg)).toInt64 &&& (4294967295 : Int64))) (E.2.2.2.2.2 ((a3 + (3 : Int32))).toNatClampNeg) h) fun v77 w76 =>
    if (a3 + (1 : Int32)) < 0 ∨ E.2.2.2.2.1 ≤ ((a3 + (1 : Int32))).toNatClampNeg then none else
    if (a3 + (2 : Int32)) < 0 ∨ E.2.2.2.2.1 ≤ ((a3 + (2 : Int32))).toNatClampNeg then none else
    if (a3 + (3 : Int32)) < 0 ∨ E.2.2.2.2.1 ≤ ((a3 + (3 : Int32))).toNatClampNeg then none else
    ob2 (fX10_swap E a2 ((((E.2.2.2.2.2 ((a3 + (1 : Int32))).toNatClampNeg)).toInt64 <<< ((32 : Int32).toInt64 &&& 63)) ||| (((E.2.2.2.2.2 ((a3 + (2 : Int32))).toNatClampNeg)).toInt64 &&& (4294967295 : Int64))) (E.2.2.2.2.2 ((a3 + (3 : Int32))).toNatClampNeg) w76) fun v84 w83 =>
    if v77 = v84 then
      bL_law_1381 E (bL_law_18 E n) a1 a2 a3 w83
    else
    some ((0 : Int32), w83)
  else
  if ((E.2.2.2.2.2 (a3).toNatClampNeg) &&& (63 : Int32)) = 6 then
    if (a3 + (1 : Int32)) < 0 ∨ E.2.2.2.2.1 ≤ ((a3 + (1 : Int32))).toNatClampNeg then none else
    if (a3 + (2 : Int32)) < 0 ∨ E.2.2.2.2.1 ≤ ((a3 + (2 : Int32))).toNatClampNeg then none else
    ob2 (fX9_drop E a1 ((((E.2.2.2.2.2 ((a3 + (1 : Int32))).toNatClampNeg)).toInt64 <<< ((32 : Int32).toInt64 &&& 63)) ||| (((E.2.2.2.2.2 ((a3 + (2 : Int32))).toNatClampNeg)).toInt64 &&& (4294967295 : Int64))) h) fun v92 w91 =>
    if (a3 + (1 : Int32)) < 0 ∨ E.2.2.2.2.1 ≤ ((a3 + (1 : Int32))).toNatClampNeg then none else
    if (a3 + (2 : Int32)) < 0 ∨ E.2.2.2.2.1 ≤ ((a3 + (2 : Int32))).toNatClampNeg then none else
    ob2 (fX10_drop E a2 ((((E.2.2.2.2.2 ((a3 + (1 : Int32))).toNatClampNeg)).toInt64 <<< ((32 : Int32).toInt64 &&& 63)) ||| (((E.2.2.2.2.2 ((a3 + (2 : Int32))).toNatClampNeg)).toInt64 &&& (4294967295 : Int64))) w91) fun v98 w97 =>
    if v92 = v98 then
      bL_law_1381 E (bL_law_18 E n) a1 a2 a3 w97
    else
    some ((0 : Int32), w97)
  else
  if ((E.2.2.2.2.2 (a3).toNatClampNeg) &&& (63 : Int32)) = 7 then
    if (a3 + (1 : Int32)) < 0 ∨ E.2.2.2.2.1 ≤ ((a3 + (1 : Int32))).toNatClampNeg then none else
    if (a3 + (2 : Int32)) < 0 ∨ E.2.2.2.2.1 ≤ ((a3 + (2 : Int32))).toNatClampNeg then none else
    if (a3 + (3 : Int32)) < 0 ∨ E.2.2.2.2.1 ≤ ((a3 + (3 : Int32))).toNatClampNeg then none else
    if (a3 + (4 : Int32)) < 0 ∨ E.2.2.2.2.1 ≤ ((a3 + (4 : Int32))).toNatClampNeg then none else
    ob2 (fX9_sweep E a1 ((((E.2.2.2.2.2 ((a3 + (1 : Int32))).toNatClampNeg)).toInt64 <<< ((32 : Int32).toInt64 &&& 63)) ||| (((E.2.2.2.2.2 ((a3 + (2 : Int32))).toNatClampNeg)).toInt64 &&& (4294967295 : Int64))) ((((E.2.2.2.2.2 ((a3 + (3 : Int32))).toNatClampNeg)).toInt64 <<< ((32 : Int32).toInt64 &&& 63)) ||| (((E.2.2.2.2.2 ((a3 + (4 : Int32))).toNatClampNeg)).toInt64 &&& (4294967295 : Int64))) h) fun v108 w107 =>
    if (a3 + (1 : Int32)) < 0 ∨ E.2.2.2.2.1 ≤ ((a3 + (1 : Int32))).toNatClampNeg then none else
    if (a3 + (2 : Int32)) < 0 ∨ E.2.2.2.2.1 ≤ ((a3 + (2 : Int32))).toNatClampNeg then none else
    if (a3 + (3 : Int32)) < 0 ∨ E.2.2.2.2.1 ≤ ((a3 + (3 : Int32))).toNatClampNeg then none else
    if (a3 + (4 : Int32)) < 0 ∨ E.2.2.2.2.1 ≤ ((a3 + (4 : Int32))).toNatClampNeg then none else
    ob2 (fX10_sweep E a2 ((((E.2.2.2.2.2 ((a3 + (1 : Int32))).toNatClampNeg)).toInt64 <<< ((32 : Int32).toInt64 &&& 63)) ||| (((E.2.2.2.2.2 ((a3 + (2 : Int32))).toNatClampNeg)).toInt64 &&& (4294967295 : Int64))) ((((E.2.2.2.2.2 ((a3 + (3 : Int32))).toNatClampNeg)).toInt64 <<< ((32 : Int32).toInt64 &&& 63)) ||| (((E.2.2.2.2.2 ((a3 + (4 : Int32))).toNatClampNeg)).toInt64 &&& (4294967295 : Int64))) w107) fun v116 w115 =>
    if v108 = v116 then
      bL_law_1381 E (bL_law_18 E n) a1 a2 a3 w115
    else
    some ((0 : Int32), w115)
  else
  if ((E.2.2.2.2.2 (a3).toNatClampNeg) &&& (63 : Int32)) = 8 then
    if (a3 + (1 : Int32)) < 0 ∨ E.2.2.2.2.1 ≤ ((a3 + (1 : Int32))).toNatClampNeg then none else
    if (a3 + (2 : Int32)) < 0 ∨ E.2.2.2.2.1 ≤ ((a3 + (2 : Int32))).toNatClampNeg then none else
    ob2 (fX9_get E a1 ((((E.2.2.2.2.2 ((a3 + (1 : Int32))).toNatClampNeg)).toInt64 <<< ((32 : Int32).toInt64 &&& 63)) ||| (((E.2.2.2.2.2 ((a3 + (2 : Int32))).toNatClampNeg)).toInt64 &&& (4294967295 : Int64))) h) fun v124 w123 =>
    if (a3 + (1 : Int32)) < 0 ∨ E.2.2.2.2.1 ≤ ((a3 + (1 : Int32))).toNatClampNeg then none else
    if (a3 + (2 : Int32)) < 0 ∨ E.2.2.2.2.1 ≤ ((a3 + (2 : Int32))).toNatClampNeg then none else
    ob2 (fX10_get E a2 ((((E.2.2.2.2.2 ((a3 + (1 : Int32))).toNatClampNeg)).toInt64 <<< ((32 : Int32).toInt64 &&& 63)) ||| (((E.2.2.2.2.2 ((a3 + (2 : Int32))).toNatClampNeg)).toInt64 &&& (4294967295 : Int64))) w123) fun v130 w129 =>
    if v124 = v130 then
      bL_law_1381 E (bL_law_18 E n) a1 a2 a3 w129
    else
    some ((0 : Int32), w129)
  else
  if ((E.2.2.2.2.2 (a3).toNatClampNeg) &&& (63 : Int32)) = 9 then
    if (a3 + (1 : Int32)) < 0 ∨ E.2.2.2.2.1 ≤ ((a3 + (1 : Int32))).toNatClampNeg then none else
    if (a3 + (2 : Int32)) < 0 ∨ E.2.2.2.2.1 ≤ ((a3 + (2 : Int32))).toNatClampNeg then none else
    ob2 (fX9_has E a1 ((((E.2.2.2.2.2 ((a3 + (1 : Int32))).toNatClampNeg)).toInt64 <<< ((32 : Int32).toInt64 &&& 63)) ||| (((E.2.2.2.2.2 ((a3 + (2 : Int32))).toNatClampNeg)).toInt64 &&& (4294967295 : Int64))) h) fun v138 w137 =>
    if (a3 + (1 : Int32)) < 0 ∨ E.2.2.2.2.1 ≤ ((a3 + (1 : Int32))).toNatClampNeg then none else
    if (a3 + (2 : Int32)) < 0 ∨ E.2.2.2.2.1 ≤ ((a3 + (2 : Int32))).toNatClampNeg then none else
    ob2 (fX10_has E a2 ((((E.2.2.2.2.2 ((a3 + (1 : Int32))).toNatClampNeg)).toInt64 <<< ((32 : Int32).toInt64 &&& 63)) ||| (((E.2.2.2.2.2 ((a3 + (2 : Int32))).toNatClampNeg)).toInt64 &&& (4294967295 : Int64))) w137) fun v144 w143 =>
    if v138 = v144 then
      bL_law_1381 E (bL_law_18 E n) a1 a2 a3 w143
    else
    some ((0 : Int32), w143)
  else
  if ((E.2.2.2.2.2 (a3).toNatClampNeg) &&& (63 : Int32)) = 10 then
    if (a3 + (1 : Int32)) < 0 ∨ E.2.2.2.2.1 ≤ ((a3 + (1 : Int32))).toNatClampNeg then none else
    if (a3 + (2 : Int32)) < 0 ∨ E.2.2.2.2.1 ≤ ((a3 + (2 : Int32))).toNatClampNeg then none else
    ob2 (fX9_next E a1 ((((E.2.2.2.2.2 ((a3 + (1 : Int32))).toNatClampNeg)).toInt64 <<< ((32 : Int32).toInt64 &&& 63)) ||| (((E.2.2.2.2.2 ((a3 + (2 : Int32))).toNatClampNeg)).toInt64 &&& (4294967295 : Int64))) h) fun v152 w151 =>
    if (a3 + (1 : Int32)) < 0 ∨ E.2.2.2.2.1 ≤ ((a3 + (1 : Int32))).toNatClampNeg then none else
    if (a3 + (2 : Int32)) < 0 ∨ E.2.2.2.2.1 ≤ ((a3 + (2 : Int32))).toNatClampNeg then none else
    ob2 (fX10_next E a2 ((((E.2.2.2.2.2 ((a3 + (1 : Int32))).toNatClampNeg)).toInt64 <<< ((32 : Int32).toInt64 &&& 63)) ||| (((E.2.2.2.2.2 ((a3 + (2 : Int32))).toNatClampNeg)).toInt64 &&& (4294967295 : Int64))) w151) fun v158 w157 =>
    if v152 = v158 then
      bL_law_1381 E (bL_law_18 E n) a1 a2 a3 w157
    else
    some ((0 : Int32), w157)
  else
  if ((E.2.2.2.2.2 (a3).toNatClampNeg) &&& (63 : Int32)) = 11 then
    if (a3 + (1 : Int32)) < 0 ∨ E.2.2.2.2.1 ≤ ((a3 + (1 : Int32))).toNatClampNeg then none else
    if (a3 + (2 : Int32)) < 0 ∨ E.2.2.2.2.1 ≤ ((a3 + (2 : Int32))).toNatClampNeg then none else
    ob2 (fX9_prior E a1 ((((E.2.2.2.2.2 ((a3 + (1 : Int32))).toNatClampNeg)).toInt64 <<< ((32 : Int32).toInt64 &&& 63)) ||| (((E.2.2.2.2.2 ((a3 + (2 : Int32))).toNatClampNeg)).toInt64 &&& (4294967295 : Int64))) h) fun v166 w165 =>
    if (a3 + (1 : Int32)) < 0 ∨ E.2.2.2.2.1 ≤ ((a3 + (1 : Int32))).toNatClampNeg then none else
    if (a3 + (2 : Int32)) < 0 ∨ E.2.2.2.2.1 ≤ ((a3 + (2 : Int32))).toNatClampNeg then none else
    ob2 (fX10_prior E a2 ((((E.2.2.2.2.2 ((a3 + (1 : Int32))).toNatClampNeg)).toInt64 <<< ((32 : Int32).toInt64 &&& 63)) ||| (((E.2.2.2.2.2 ((a3 + (2 : Int32))).toNatClampNeg)).toInt64 &&& (4294967295 : Int64))) w165) fun v172 w171 =>
    if v166 = v172 then
      bL_law_1381 E (bL_law_18 E n) a1 a2 a3 w171
    else
    some ((0 : Int32), w171)
  else
  if ((E.2.2.2.2.2 (a3).toNatClampNeg) &&& (63 : Int32)) = 12 then
    ob2 (fX9_found E a1 h) fun v178 w177 =>
    ob2 (fX10_found E a2 w177) fun v182 w181 =>
    if v178 = v182 then
      bL_law_1381 E (bL_law_18 E n) a1 a2 a3 w181
    else
    some ((0 : Int32), w181)
  else
  if ((E.2.2.2.2.2 (a3).toNatClampNeg) &&& (63 : Int32)) = 13 then
    ob2 (fX9_count E a1 h) fun v188 w187 =>
    ob2 (fX10_count E a2 w187) fun v192 w191 =>
    if v188 = v192 then
      bL_law_1381 E (bL_law_18 E n) a1 a2 a3 w191
    else
    some ((0 : Int32), w191)
  else
  if ((E.2.2.2.2.2 (a3).toNatClampNeg) &&& (63 : Int32)) = 14 then
    ob2 (fX9_sink E a1 h) fun v198 w197 =>
    ob2 (fX10_sink E a2 w197) fun v202 w201 =>
    if v198 = v202 then
      bL_law_1381 E (bL_law_18 E n) a1 a2 a3 w201
    else
    some ((0 : Int32), w201)
  else
  if ((E.2.2.2.2.2 (a3).toNatClampNeg) &&& (63 : Int32)) = 15 then
    ob2 (fX9_settle E a1 h) fun v208 w207 =>
    ob2 (fX10_settle E a2 w207) fun v212 w211 =>
    if v208 = v212 then
      bL_law_1381 E (bL_law_18 E n) a1 a2 a3 w211
    else
    some ((0 : Int32), w211)
  else
  if ((E.2.2.2.2.2 (a3).toNatClampNeg) &&& (63 : Int32)) = 16 then
    ob2 (fX9_pages E a1 h) fun v218 w217 =>
    ob2 (fX10_pages E a2 w217) fun v222 w221 =>
    if v218 = v222 then
      bL_law_1381 E (bL_law_18 E n) a1 a2 a3 w221
    else
    some ((0 : Int32), w221)
  else
  if ((E.2.2.2.2.2 (a3).toNatClampNeg) &&& (63 : Int32)) = 17 then
    ob2 (fX9_height E a1 h) fun v228 w227 =>
    ob2 (fX10_height E a2 w227) fun v232 w231 =>
    if v228 = v232 then
      bL_law_1381 E (bL_law_18 E n) a1 a2 a3 w231
    else
    some ((0 : Int32), w231)
  else
  if ((E.2.2.2.2.2 (a3).toNatClampNeg) &&& (63 : Int32)) = 18 then
    ob2 (fX9_letters E a1 h) fun v238 w237 =>
    ob2 (fX10_letters E a2 w237) fun v242 w241 =>
    if v238 = v242 then
      bL_law_1381 E (bL_law_18 E n) a1 a2 a3 w241
    else
    some ((0 : Int32), w241)
  else
  if ((E.2.2.2.2.2 (a3).toNatClampNeg) &&& (63 : Int32)) = 19 then
    if (a3 + (1 : Int32)) < 0 ∨ E.2.2.2.2.1 ≤ ((a3 + (1 : Int32))).toNatClampNeg then none else
    if (a3 + (2 : Int32)) < 0 ∨ E.2.2.2.2.1 ≤ ((a3 + (2 : Int32))).toNatClampNeg then none else
    ob2 (fX9_page E a1 (E.2.2.2.2.2 ((a3 + (1 : Int32))).toNatClampNeg) (E.2.2.2.2.2 ((a3 + (2 : Int32))).toNatClampNeg) h) fun v250 w249 =>
    if (a3 + (1 : Int32)) < 0 ∨ E.2.2.2.2.1 ≤ ((a3 + (1 : Int32))).toNatClampNeg then none else
    if (a3 + (2 : Int32)) < 0 ∨ E.2.2.2.2.1 ≤ ((a3 + (2 : Int32))).toNatClampNeg then none else
    ob2 (fX10_page_ E a2 (E.2.2.2.2.2 ((a3 + (1 : Int32))).toNatClampNeg) (E.2.2.2.2.2 ((a3 + (2 : Int32))).toNatClampNeg) w249) fun v256 w255 =>
    if v250 = v256 then
      bL_law_1381 E (bL_law_18 E n) a1 a2 a3 w255
    else
    some ((0 : Int32), w255)
  else
  if ((E.2.2.2.2.2 (a3).toNatClampNeg) &&& (63 : Int32)) = 20 then
    if (a3 + (1 : Int32)) < 0 ∨ E.2.2.2.2.1 ≤ ((a3 + (1 : Int32))).toNatClampNeg then none else
    if (a3 + (2 : Int32)) < 0 ∨ E.2.2.2.2.1 ≤ ((a3 + (2 : Int32))).toNatClampNeg then none else
    ob2 (fX9_border E a1 (E.2.2.2.2.2 ((a3 + (1 : Int32))).toNatClampNeg) (E.2.2.2.2.2 ((a3 + (2 : Int32))).toNatClampNeg) h) fun v264 w263 =>
    if (a3 + (1 : Int32)) < 0 ∨ E.2.2.2.2.1 ≤ ((a3 + (1 : Int32))).toNatClampNeg then none else
    if (a3 + (2 : Int32)) < 0 ∨ E.2.2.2.2.1 ≤ ((a3 + (2 : Int32))).toNatClampNeg then none else
    ob2 (fX10_border E a2 (E.2.2.2.2.2 ((a3 + (1 : Int32))).toNatClampNeg) (E.2.2.2.2.2 ((a3 + (2 : Int32))).toNatClampNeg) w263) fun v270 w269 =>
    if v264 = v270 then
      bL_law_1381 E (bL_law_18 E n) a1 a2 a3 w269
    else
    some ((0 : Int32), w269)
  else
  if ((E.2.2.2.2.2 (a3).toNatClampNeg) &&& (63 : Int32)) = 21 then
    if (a3 + (1 : Int32)) < 0 ∨ E.2.2.2.2.1 ≤ ((a3 + (1 : Int32))).toNatClampNeg then none else
    if (a3 + (2 : Int32)) < 0 ∨ E.2.2.2.2.1 ≤ ((a3 + (2 : Int32))).toNatClampNeg then none else
    if (a3 + (3 : Int32)) < 0 ∨ E.2.2.2.2.1 ≤ ((a3 + (3 : Int32))).toNatClampNeg then none else
    ob2 (fX9_letter E a1 (E.2.2.2.2.2 ((a3 + (1 : Int32))).toNatClampNeg) (E.2.2.2.2.2 ((a3 + (2 : Int32))).toNatClampNeg) (E.2.2.2.2.2 ((a3 + (3 : Int32))).toNatClampNeg) h) fun v279 w278 =>
    if (a3 + (1 : Int32)) < 0 ∨ E.2.2.2.2.1 ≤ ((a3 + (1 : Int32))).toNatClampNeg then none else
    if (a3 + (2 : Int32)) < 0 ∨ E.2.2.2.2.1 ≤ ((a3 + (2 : Int32))).toNatClampNeg then none else
    if (a3 + (3 : Int32)) < 0 ∨ E.2.2.2.2.1 ≤ ((a3 + (3 : Int32))).toNatClampNeg then none else
    ob2 (fX10_letter_ E a2 (E.2.2.2.2.2 ((a3 + (1 : Int32))).toNatClampNeg) (E.2.2.2.2.2 ((a3 + (2 : Int32))).toNatClampNeg) (E.2.2.2.2.2 ((a3 + (3 : Int32))).toNatClampNeg) w278) fun v286 w285 =>
    if v279 = v286 then
      bL_law_1381 E (bL_law_18 E n) a1 a2 a3 w285
    else
    some ((0 : Int32), w285)
  else
  if ((E.2.2.2.2.2 (a3).toNatClampNeg) &&& (63 : Int32)) = 22 then
    if (a3 + (1 : Int32)) < 0 ∨ E.2.2.2.2.1 ≤ ((a3 + (1 : Int32))).toNatClampNeg then none else
    if (a3 + (2 : Int32)) < 0 ∨ E.2.2.2.2.1 ≤ ((a3 + (2 : Int32))).toNatClampNeg then none else
    ob2 (fX9_met E a1 ((((E.2.2.2.2.2 ((a3 + (1 : Int32))).toNatClampNeg)).toInt64 <<< ((32 : Int32).toInt64 &&& 63)) ||| (((E.2.2.2.2.2 ((a3 + (2 : Int32))).toNatClampNeg)).toInt64 &&& (4294967295 : Int64))) h) fun v294 w293 =>
    if (a3 + (1 : Int32)) < 0 ∨ E.2.2.2.2.1 ≤ ((a3 + (1 : Int32))).toNatClampNeg then none else
    if (a3 + (2 : Int32)) < 0 ∨ E.2.2.2.2.1 ≤ ((a3 + (2 : Int32))).toNatClampNeg then none else
    ob2 (fX10_met E a2 ((((E.2.2.2.2.2 ((a3 + (1 : Int32))).toNatClampNeg)).toInt64 <<< ((32 : Int32).toInt64 &&& 63)) ||| (((E.2.2.2.2.2 ((a3 + (2 : Int32))).toNatClampNeg)).toInt64 &&& (4294967295 : Int64))) w293) fun v300 w299 =>
    if v294 = v300 then
      bL_law_1381 E (bL_law_18 E n) a1 a2 a3 w299
    else
    some ((0 : Int32), w299)
  else
  if ((E.2.2.2.2.2 (a3).toNatClampNeg) &&& (63 : Int32)) = 23 then
    ob2 (fX9_sync E a1 h) fun v306 w305 =>
    ob2 (fX10_sync E a2 w305) fun v310 w309 =>
    if v306 = v310 then
      bL_law_1381 E (bL_law_18 E n) a1 a2 a3 w309
    else
    some ((0 : Int32), w309)
  else
  if ((E.2.2.2.2.2 (a3).toNatClampNeg) &&& (63 : Int32)) = 24 then
    ob2 (fX9_picture E a1 h) fun v316 w315 =>
    ob2 (fX10_picture E a2 w315) fun v320 w319 =>
    if v316 = v320 then
      bL_law_1381 E (bL_law_18 E n) a1 a2 a3 w319
    else
    some ((0 : Int32), w319)
  else
  if ((E.2.2.2.2.2 (a3).toNatClampNeg) &&& (63 : Int32)) = 25 then
    if (a3 + (1 : Int32)) < 0 ∨ E.2.2.2.2.1 ≤ ((a3 + (1 : Int32))).toNatClampNeg then none else
    if (a3 + (2 : Int32)) < 0 ∨ E.2.2.2.2.1 ≤ ((a3 + (2 : Int32))).toNatClampNeg then none else
    if (a3 + (3 : Int32)) < 0 ∨ E.2.2.2.2.1 ≤ ((a3 + (3 : Int32))).toNatClampNeg then none else
    ob2 (fX9_look E a1 (E.2.2.2.2.2 ((a3 + (1 : Int32))).toNatClampNeg) ((((E.2.2.2.2.2 ((a3 + (2 : Int32))).toNatClampNeg)).toInt64 <<< ((32 : Int32).toInt64 &&& 63)) ||| (((E.2.2.2.2.2 ((a3 + (3 : Int32))).toNatClampNeg)).toInt64 &&& (4294967295 : Int64))) h) fun v329 w328 =>
    if (a3 + (1 : Int32)) < 0 ∨ E.2.2.2.2.1 ≤ ((a3 + (1 : Int32))).toNatClampNeg then none else
    if (a3 + (2 : Int32)) < 0 ∨ E.2.2.2.2.1 ≤ ((a3 + (2 : Int32))).toNatClampNeg then none else
    if (a3 + (3 : Int32)) < 0 ∨ E.2.2.2.2.1 ≤ ((a3 + (3 : Int32))).toNatClampNeg then none else
    ob2 (fX10_look E a2 (E.2.2.2.2.2 ((a3 + (1 : Int32))).toNatClampNeg) ((((E.2.2.2.2.2 ((a3 + (2 : Int32))).toNatClampNeg)).toInt64 <<< ((32 : Int32).toInt64 &&& 63)) ||| (((E.2.2.2.2.2 ((a3 + (3 : Int32))).toNatClampNeg)).toInt64 &&& (4294967295 : Int64))) w328) fun v336 w335 =>
    if v329 = v336 then
      bL_law_1381 E (bL_law_18 E n) a1 a2 a3 w335
    else
    some ((0 : Int32), w335)
  else
  if ((E.2.2.2.2.2 (a3).toNatClampNeg) &&& (63 : Int32)) = 26 then
    if (a3 + (1 : Int32)) < 0 ∨ E.2.2.2.2.1 ≤ ((a3 + (1 : Int32))).toNatClampNeg then none else
    ob2 (fX9_release E a1 (E.2.2.2.2.2 ((a3 + (1 : Int32))).toNatClampNeg) h) fun v343 w342 =>
    if (a3 + (1 : Int32)) < 0 ∨ E.2.2.2.2.1 ≤ ((a3 + (1 : Int32))).toNatClampNeg then none else
    ob2 (fX10_release E a2 (E.2.2.2.2.2 ((a3 + (1 : Int32))).toNatClampNeg) w342) fun v348 w347 =>
    if v343 = v348 then
      bL_law_1381 E (bL_law_18 E n) a1 a2 a3 w347
    else
    some ((0 : Int32), w347)
  else
  if ((E.2.2.2.2.2 (a3).toNatClampNeg) &&& (63 : Int32)) = 27 then
    if (a3 + (1 : Int32)) < 0 ∨ E.2.2.2.2.1 ≤ ((a3 + (1 : Int32))).toNatClampNeg then none else
    ob2 (fX9_pictured E a1 (E.2.2.2.2.2 ((a3 + (1 : Int32))).toNatClampNeg) h) fun v355 w354 =>
    if (a3 + (1 : Int32)) < 0 ∨ E.2.2.2.2.1 ≤ ((a3 + (1 : Int32))).toNatClampNeg then none else
    ob2 (fX10_pictured E a2 (E.2.2.2.2.2 ((a3 + (1 : Int32))).toNatClampNeg) w354) fun v360 w359 =>
    if v355 = v360 then
      bL_law_1381 E (bL_law_18 E n) a1 a2 a3 w359
    else
    some ((0 : Int32), w359)
  else
  if ((E.2.2.2.2.2 (a3).toNatClampNeg) &&& (63 : Int32)) = 28 then
    ob2 (fX9_free E a1 h) fun v366 w365 =>
    ob2 (fX10_free E a2 w365) fun v370 w369 =>
    if v366 = v370 then
      bL_law_1381 E (bL_law_18 E n) a1 a2 a3 w369
    else
    some ((0 : Int32), w369)
  else
  if ((E.2.2.2.2.2 (a3).toNatClampNeg) &&& (63 : Int32)) = 29 then
    if (a3 + (1 : Int32)) < 0 ∨ E.2.2.2.2.1 ≤ ((a3 + (1 : Int32))).toNatClampNeg then none else
    ob2 (fX9_fall E a1 (E.2.2.2.2.2 ((a3 + (1 : Int32))).toNatClampNeg) h) fun v377 w376 =>
    if (a3 + (1 : Int32)) < 0 ∨ E.2.2.2.2.1 ≤ ((a3 + (1 : Int32))).toNatClampNeg then none else
    ob2 (fX10_fall E a2 (E.2.2.2.2.2 ((a3 + (1 : Int32))).toNatClampNeg) w376) fun v382 w381 =>
    if v377 = v382 then
      bL_law_1381 E (bL_law_18 E n) a1 a2 a3 w381
    else
    some ((0 : Int32), w381)
  else
  if ((E.2.2.2.2.2 (a3).toNatClampNeg) &&& (63 : Int32)) = 30 then
    ob2 (fX9_crash E a1 h) fun v388 w387 =>
    ob2 (fX10_crash E a2 w387) fun v392 w391 =>
    if v388 = v392 then
      bL_law_1381 E (bL_law_18 E n) a1 a2 a3 w391
    else
    some ((0 : Int32), w391)
  else
  if ((E.2.2.2.2.2 (a3).toNatClampNeg) &&& (63 : Int32)) = 31 then
    ob2 (fX9_rise E a1 h) fun v398 w397 =>
    ob2 (fX10_rise E a2 w397) fun v402 w401 =>
    if v398 = v402 then
      bL_law_1381 E (bL_law_18 E n) a1 a2 a3 w401
    else
    some ((0 : Int32), w401)
  else
  if ((E.2.2.2.2.2 (a3).toNatClampNeg) &&& (63 : Int32)) = 32 then
    if (a3 + (1 : Int32)) < 0 ∨ E.2.2.2.2.1 ≤ ((a3 + (1 : Int32))).toNatClampNeg then none else
    if (a3 + (2 : Int32)) < 0 ∨ E.2.2.2.2.1 ≤ ((a3 + (2 : Int32))).toNatClampNeg then none else
    ob2 (fX9_disk E a1 (E.2.2.2.2.2 ((a3 + (1 : Int32))).toNatClampNeg) (E.2.2.2.2.2 ((a3 + (2 : Int32))).toNatClampNeg) h) fun v410 w409 =>
    if (a3 + (1 : Int32)) < 0 ∨ E.2.2.2.2.1 ≤ ((a3 + (1 : Int32))).toNatClampNeg then none else
    if (a3 + (2 : Int32)) < 0 ∨ E.2.2.2.2.1 ≤ ((a3 + (2 : Int32))).toNatClampNeg then none else
    ob2 (fX10_disk E a2 (E.2.2.2.2.2 ((a3 + (1 : Int32))).toNatClampNeg) (E.2.2.2.2.2 ((a3 + (2 : Int32))).toNatClampNeg) w409) fun v416 w415 =>
    if v410 = v416 then
      bL_law_1381 E (bL_law_18 E n) a1 a2 a3 w415
    else
    some ((0 : Int32), w415)
  else
  if ((E.2.2.2.2.2 (a3).toNatClampNeg) &&& (63 : Int32)) = 33 then
    if (a3 + (1 : Int32)) < 0 ∨ E.2.2.2.2.1 ≤ ((a3 + (1 : Int32))).toNatClampNeg then none else
    ob2 (fX9_bend E a1 (E.2.2.2.2.2 ((a3 + (1 : Int32))).toNatClampNeg) h) fun v423 w422 =>
    if (a3 + (1 : Int32)) < 0 ∨ E.2.2.2.2.1 ≤ ((a3 + (1 : Int32))).toNatClampNeg then none else
    ob2 (fX10_bend E a2 (E.2.2.2.2.2 ((a3 + (1 : Int32))).toNatClampNeg) w422) fun v428 w427 =>
    if v423 = v428 then
      bL_law_1381 E (bL_law_18 E n) a1 a2 a3 w427
    else
    some ((0 : Int32), w427)
  else
  if ((E.2.2.2.2.2 (a3).toNatClampNeg) &&& (63 : Int32)) = 34 then
    if (a3 + (1 : Int32)) < 0 ∨ E.2.2.2.2.1 ≤ ((a3 + (1 : Int32))).toNatClampNeg then none else
    ob2 (fX9_writes E a1 (E.2.2.2.2.2 ((a3 + (1 : Int32))).toNatClampNeg) h) fun v435 w434 =>
    if (a3 + (1 : Int32)) < 0 ∨ E.2.2.2.2.1 ≤ ((a3 + (1 : Int32))).toNatClampNeg then none else
    ob2 (fX10_writes E a2 (E.2.2.2.2.2 ((a3 + (1 : Int32))).toNatClampNeg) w434) fun v440 w439 =>
    if v435 = v440 then
      bL_law_1381 E (bL_law_18 E n) a1 a2 a3 w439
    else
    some ((0 : Int32), w439)
  else
  if ((E.2.2.2.2.2 (a3).toNatClampNeg) &&& (63 : Int32)) = 35 then
    if (a3 + (1 : Int32)) < 0 ∨ E.2.2.2.2.1 ≤ ((a3 + (1 : Int32))).toNatClampNeg then none else
    ob2 (fX9_number E a1 (E.2.2.2.2.2 ((a3 + (1 : Int32))).toNatClampNeg) h) fun v447 w446 =>
    if (a3 + (1 : Int32)) < 0 ∨ E.2.2.2.2.1 ≤ ((a3 + (1 : Int32))).toNatClampNeg then none else
    ob2 (fX10_number_ E a2 (E.2.2.2.2.2 ((a3 + (1 : Int32))).toNatClampNeg) w446) fun v452 w451 =>
    if v447 = v452 then
      bL_law_1381 E (bL_law_18 E n) a1 a2 a3 w451
    else
    some ((0 : Int32), w451)
  else
  bL_law_1381 E (bL_law_18 E n) a1 a2 a3 h
set_option maxRecDepth 20000 in
set_option maxHeartbeats 4000000 in
theorem rL_law_18 {X : ah_X} {d : Nat} (hd : 150 ≤ d) (n : Nat) : ∀ (a1 : Option Nat) (a2 : Option Nat) (a3 : Int32) (h : ah_H) (r : Int32) (h2 : ah_H), bL_law_18 X.2.2.2 n a1 a2 a3 h = some (r, h2) → Rt X yL_law cL_law 4 (d + 1) 18 [(0, va_rf (some X.2.2.2.2.2.2.1)), (1, va_rf a1), (2, va_rf a2), (3, .int a3)] [] h (some (.int r)) h2 := by
  induction n with
  | zero => intro a1 a2 a3 h r h2 hf; cases hf
  | succ n ih =>
  intro a1 a2 a3 h r h2 hf
  unfold bL_law_18 at hf
  refine rt_iload_n (pc := 18) (k0 := 3) (x := a3) 3 rfl dL_law_18 ?_
  refine rt_aload_n (pc := 19) (k0 := 0) (x := (some X.2.2.2.2.2.2.1)) 0 rfl dL_law_19 ?_
  refine rt_slen (pc := 20) rfl dL_law_20 ?_
  refine rt_iconst (pc := 21) (n := 5) (v := (5 : Int32)) (by decide) dL_law_21 ?_
  refine rt_isub (pc := 22) (x := (Int32.ofNat X.2.2.2.2.2.2.2.1)) (z := (5 : Int32)) dL_law_22 ?_
  by_cases c1 : ((Int32.ofNat X.2.2.2.2.2.2.2.1) - (5 : Int32)) < a3
  · rw [if_pos c1] at hf
    refine rt_icmp_gt_p (pc := 23) (x := a3) (z := ((Int32.ofNat X.2.2.2.2.2.2.2.1) - (5 : Int32))) (tgt := 1387) (by decide) dL_law_23 c1 ?_
    refine rt_iconst (pc := 1387) (n := 1) (v := (1 : Int32)) (by decide) dL_law_1387 ?_
    cases hf
    exact rt_ret (pc := 1388) dL_law_1388 rfl
  rw [if_neg c1] at hf
  refine rt_icmp_gt_n (pc := 23) (x := a3) (z := ((Int32.ofNat X.2.2.2.2.2.2.2.1) - (5 : Int32))) (tgt := 1387) (by decide) dL_law_23 c1 ?_
  refine rt_aload_n (pc := 26) (k0 := 0) (x := (some X.2.2.2.2.2.2.1)) 0 rfl dL_law_26 ?_
  refine rt_iload_n (pc := 27) (k0 := 3) (x := a3) 3 rfl dL_law_27 ?_
  by_cases c2 : a3 < 0 ∨ X.2.2.2.2.2.2.2.1 ≤ (a3).toNatClampNeg
  · rw [if_pos c2] at hf; cases hf
  rw [if_neg c2] at hf
  refine rt_sld (pc := 28) (i := a3) rfl dL_law_28 c2 ?_
  refine rt_bipush (pc := 29) (n := 63) (v := (63 : Int32)) (by decide) dL_law_29 ?_
  refine rt_iand (pc := 31) (x := (X.2.2.2.2.2.2.2.2 (a3).toNatClampNeg)) (z := (63 : Int32)) dL_law_31 ?_
  by_cases c3 : ((X.2.2.2.2.2.2.2.2 (a3).toNatClampNeg) &&& (63 : Int32)) = 0
  · rw [if_pos c3] at hf
    refine rt_tableIn (pc := 32) (x := ((X.2.2.2.2.2.2.2.2 (a3).toNatClampNeg) &&& (63 : Int32))) (off := 160) (tgt := 192) dL_law_32 (by rw [c3]; decide) (by rw [c3]; decide) (by rw [c3]; rfl) (by decide) ?_
    refine rt_aload_n (pc := 192) (k0 := 1) (x := a1) 1 rfl dL_law_192 ?_
    refine rt_aload_n (pc := 193) (k0 := 0) (x := (some X.2.2.2.2.2.2.1)) 0 rfl dL_law_193 ?_
    refine rt_iload_n (pc := 194) (k0 := 3) (x := a3) 3 rfl dL_law_194 ?_
    refine rt_iconst (pc := 195) (n := 1) (v := (1 : Int32)) (by decide) dL_law_195 ?_
    refine rt_iadd (pc := 196) (x := a3) (z := (1 : Int32)) dL_law_196 ?_
    by_cases c4 : (a3 + (1 : Int32)) < 0 ∨ X.2.2.2.2.2.2.2.1 ≤ ((a3 + (1 : Int32))).toNatClampNeg
    · rw [if_pos c4] at hf; cases hf
    rw [if_neg c4] at hf
    refine rt_sld (pc := 197) (i := (a3 + (1 : Int32))) rfl dL_law_197 c4 ?_
    refine rt_i2l (pc := 198) (x := (X.2.2.2.2.2.2.2.2 ((a3 + (1 : Int32))).toNatClampNeg)) dL_law_198 ?_
    refine rt_bipush (pc := 199) (n := 32) (v := (32 : Int32)) (by decide) dL_law_199 ?_
    refine rt_lshl (pc := 201) (x := ((X.2.2.2.2.2.2.2.2 ((a3 + (1 : Int32))).toNatClampNeg)).toInt64) (z := (32 : Int32)) dL_law_201 ?_
    refine rt_aload_n (pc := 202) (k0 := 0) (x := (some X.2.2.2.2.2.2.1)) 0 rfl dL_law_202 ?_
    refine rt_iload_n (pc := 203) (k0 := 3) (x := a3) 3 rfl dL_law_203 ?_
    refine rt_iconst (pc := 204) (n := 2) (v := (2 : Int32)) (by decide) dL_law_204 ?_
    refine rt_iadd (pc := 205) (x := a3) (z := (2 : Int32)) dL_law_205 ?_
    by_cases c5 : (a3 + (2 : Int32)) < 0 ∨ X.2.2.2.2.2.2.2.1 ≤ ((a3 + (2 : Int32))).toNatClampNeg
    · rw [if_pos c5] at hf; cases hf
    rw [if_neg c5] at hf
    refine rt_sld (pc := 206) (i := (a3 + (2 : Int32))) rfl dL_law_206 c5 ?_
    refine rt_i2l (pc := 207) (x := (X.2.2.2.2.2.2.2.2 ((a3 + (2 : Int32))).toNatClampNeg)) dL_law_207 ?_
    refine rt_ldc2 (pc := 208) wj_L_13 dL_law_208 ?_
    refine rt_land (pc := 211) (x := ((X.2.2.2.2.2.2.2.2 ((a3 + (2 : Int32))).toNatClampNeg)).toInt64) (z := (4294967295 : Int64)) dL_law_211 ?_
    refine rt_lor (pc := 212) (x := (((X.2.2.2.2.2.2.2.2 ((a3 + (1 : Int32))).toNatClampNeg)).toInt64 <<< ((32 : Int32).toInt64 &&& 63))) (z := (((X.2.2.2.2.2.2.2.2 ((a3 + (2 : Int32))).toNatClampNeg)).toInt64 &&& (4294967295 : Int64))) dL_law_212 ?_
    refine rt_aload_n (pc := 213) (k0 := 0) (x := (some X.2.2.2.2.2.2.1)) 0 rfl dL_law_213 ?_
    refine rt_iload_n (pc := 214) (k0 := 3) (x := a3) 3 rfl dL_law_214 ?_
    refine rt_iconst (pc := 215) (n := 3) (v := (3 : Int32)) (by decide) dL_law_215 ?_
    refine rt_iadd (pc := 216) (x := a3) (z := (3 : Int32)) dL_law_216 ?_
    by_cases c6 : (a3 + (3 : Int32)) < 0 ∨ X.2.2.2.2.2.2.2.1 ≤ ((a3 + (3 : Int32))).toNatClampNeg
    · rw [if_pos c6] at hf; cases hf
    rw [if_neg c6] at hf
    refine rt_sld (pc := 217) (i := (a3 + (3 : Int32))) rfl dL_law_217 c6 ?_
    obtain ⟨v9, w8, e7, hf⟩ := ob2_of hf
    have g10 := sX9_feed d (by omega) e7
    refine rt_callV (pc := 218) (As := [.long ((((X.2.2.2.2.2.2.2.2 ((a3 + (1 : Int32))).toNatClampNeg)).toInt64 <<< ((32 : Int32).toInt64 &&& 63)) ||| (((X.2.2.2.2.2.2.2.2 ((a3 + (2 : Int32))).toNatClampNeg)).toInt64 &&& (4294967295 : Int64))), .int (X.2.2.2.2.2.2.2.2 ((a3 + (3 : Int32))).toNatClampNeg)]) (st := []) me_X9_feed mi_X9_feed wl_L_15 dL_law_218 rfl (by decide) rfl g10.1 g10.2 ?_
    refine rt_aload_n (pc := 221) (k0 := 2) (x := a2) 2 rfl dL_law_221 ?_
    refine rt_aload_n (pc := 222) (k0 := 0) (x := (some X.2.2.2.2.2.2.1)) 0 rfl dL_law_222 ?_
    refine rt_iload_n (pc := 223) (k0 := 3) (x := a3) 3 rfl dL_law_223 ?_
    refine rt_iconst (pc := 224) (n := 1) (v := (1 : Int32)) (by decide) dL_law_224 ?_
    refine rt_iadd (pc := 225) (x := a3) (z := (1 : Int32)) dL_law_225 ?_
    by_cases c11 : (a3 + (1 : Int32)) < 0 ∨ X.2.2.2.2.2.2.2.1 ≤ ((a3 + (1 : Int32))).toNatClampNeg
    · rw [if_pos c11] at hf; cases hf
    rw [if_neg c11] at hf
    refine rt_sld (pc := 226) (i := (a3 + (1 : Int32))) rfl dL_law_226 c11 ?_
    refine rt_i2l (pc := 227) (x := (X.2.2.2.2.2.2.2.2 ((a3 + (1 : Int32))).toNatClampNeg)) dL_law_227 ?_
    refine rt_bipush (pc := 228) (n := 32) (v := (32 : Int32)) (by decide) dL_law_228 ?_
    refine rt_lshl (pc := 230) (x := ((X.2.2.2.2.2.2.2.2 ((a3 + (1 : Int32))).toNatClampNeg)).toInt64) (z := (32 : Int32)) dL_law_230 ?_
    refine rt_aload_n (pc := 231) (k0 := 0) (x := (some X.2.2.2.2.2.2.1)) 0 rfl dL_law_231 ?_
    refine rt_iload_n (pc := 232) (k0 := 3) (x := a3) 3 rfl dL_law_232 ?_
    refine rt_iconst (pc := 233) (n := 2) (v := (2 : Int32)) (by decide) dL_law_233 ?_
    refine rt_iadd (pc := 234) (x := a3) (z := (2 : Int32)) dL_law_234 ?_
    by_cases c12 : (a3 + (2 : Int32)) < 0 ∨ X.2.2.2.2.2.2.2.1 ≤ ((a3 + (2 : Int32))).toNatClampNeg
    · rw [if_pos c12] at hf; cases hf
    rw [if_neg c12] at hf
    refine rt_sld (pc := 235) (i := (a3 + (2 : Int32))) rfl dL_law_235 c12 ?_
    refine rt_i2l (pc := 236) (x := (X.2.2.2.2.2.2.2.2 ((a3 + (2 : Int32))).toNatClampNeg)) dL_law_236 ?_
    refine rt_ldc2 (pc := 237) wj_L_13 dL_law_237 ?_
    refine rt_land (pc := 240) (x := ((X.2.2.2.2.2.2.2.2 ((a3 + (2 : Int32))).toNatClampNeg)).toInt64) (z := (4294967295 : Int64)) dL_law_240 ?_
    refine rt_lor (pc := 241) (x := (((X.2.2.2.2.2.2.2.2 ((a3 + (1 : Int32))).toNatClampNeg)).toInt64 <<< ((32 : Int32).toInt64 &&& 63))) (z := (((X.2.2.2.2.2.2.2.2 ((a3 + (2 : Int32))).toNatClampNeg)).toInt64 &&& (4294967295 : Int64))) dL_law_241 ?_
    refine rt_aload_n (pc := 242) (k0 := 0) (x := (some X.2.2.2.2.2.2.1)) 0 rfl dL_law_242 ?_
    refine rt_iload_n (pc := 243) (k0 := 3) (x := a3) 3 rfl dL_law_243 ?_
    refine rt_iconst (pc := 244) (n := 3) (v := (3 : Int32)) (by decide) dL_law_244 ?_
    refine rt_iadd (pc := 245) (x := a3) (z := (3 : Int32)) dL_law_245 ?_
    by_cases c13 : (a3 + (3 : Int32)) < 0 ∨ X.2.2.2.2.2.2.2.1 ≤ ((a3 + (3 : Int32))).toNatClampNeg
    · rw [if_pos c13] at hf; cases hf
    rw [if_neg c13] at hf
    refine rt_sld (pc := 246) (i := (a3 + (3 : Int32))) rfl dL_law_246 c13 ?_
    obtain ⟨v16, w15, e14, hf⟩ := ob2_of hf
    have g17 := sX10_feed d (by omega) e14
    refine rt_callV (pc := 247) (As := [.long ((((X.2.2.2.2.2.2.2.2 ((a3 + (1 : Int32))).toNatClampNeg)).toInt64 <<< ((32 : Int32).toInt64 &&& 63)) ||| (((X.2.2.2.2.2.2.2.2 ((a3 + (2 : Int32))).toNatClampNeg)).toInt64 &&& (4294967295 : Int64))), .int (X.2.2.2.2.2.2.2.2 ((a3 + (3 : Int32))).toNatClampNeg)]) (st := [.int v9]) me_X10_feed mi_X10_feed wl_L_19 dL_law_247 rfl (by simp [rt_cat, cat_i, cat_l]) rfl g17.1 g17.2 ?_
    by_cases c18 : v9 = v16
    · rw [if_pos c18] at hf
      refine rt_icmp_eq_p (pc := 250) (x := v9) (z := v16) (tgt := 1381) (by decide) dL_law_250 c18 ?_
      exact rL_law_1381 hd ih hf
    rw [if_neg c18] at hf
    refine rt_icmp_eq_n (pc := 250) (x := v9) (z := v16) (tgt := 1381) (by decide) dL_law_250 c18 ?_
    refine rt_iconst (pc := 253) (n := 0) (v := (0 : Int32)) (by decide) dL_law_253 ?_
    cases hf
    exact rt_ret (pc := 254) dL_law_254 rfl
  rw [if_neg c3] at hf
  by_cases c19 : ((X.2.2.2.2.2.2.2.2 (a3).toNatClampNeg) &&& (63 : Int32)) = 1
  · rw [if_pos c19] at hf
    refine rt_tableIn (pc := 32) (x := ((X.2.2.2.2.2.2.2.2 (a3).toNatClampNeg) &&& (63 : Int32))) (off := 223) (tgt := 255) dL_law_32 (by rw [c19]; decide) (by rw [c19]; decide) (by rw [c19]; rfl) (by decide) ?_
    refine rt_aload_n (pc := 255) (k0 := 1) (x := a1) 1 rfl dL_law_255 ?_
    refine rt_aload_n (pc := 256) (k0 := 0) (x := (some X.2.2.2.2.2.2.1)) 0 rfl dL_law_256 ?_
    refine rt_iload_n (pc := 257) (k0 := 3) (x := a3) 3 rfl dL_law_257 ?_
    refine rt_iconst (pc := 258) (n := 1) (v := (1 : Int32)) (by decide) dL_law_258 ?_
    refine rt_iadd (pc := 259) (x := a3) (z := (1 : Int32)) dL_law_259 ?_
    by_cases c20 : (a3 + (1 : Int32)) < 0 ∨ X.2.2.2.2.2.2.2.1 ≤ ((a3 + (1 : Int32))).toNatClampNeg
    · rw [if_pos c20] at hf; cases hf
    rw [if_neg c20] at hf
    refine rt_sld (pc := 260) (i := (a3 + (1 : Int32))) rfl dL_law_260 c20 ?_
    obtain ⟨v23, w22, e21, hf⟩ := ob2_of hf
    have g24 := sX9_cut d (by omega) e21
    refine rt_callV (pc := 261) (As := [.int (X.2.2.2.2.2.2.2.2 ((a3 + (1 : Int32))).toNatClampNeg)]) (st := []) me_X9_cut mi_X9_cut wl_L_20 dL_law_261 rfl (by decide) rfl g24.1 g24.2 ?_
    refine rt_aload_n (pc := 264) (k0 := 2) (x := a2) 2 rfl dL_law_264 ?_
    refine rt_aload_n (pc := 265) (k0 := 0) (x := (some X.2.2.2.2.2.2.1)) 0 rfl dL_law_265 ?_
    refine rt_iload_n (pc := 266) (k0 := 3) (x := a3) 3 rfl dL_law_266 ?_
    refine rt_iconst (pc := 267) (n := 1) (v := (1 : Int32)) (by decide) dL_law_267 ?_
    refine rt_iadd (pc := 268) (x := a3) (z := (1 : Int32)) dL_law_268 ?_
    by_cases c25 : (a3 + (1 : Int32)) < 0 ∨ X.2.2.2.2.2.2.2.1 ≤ ((a3 + (1 : Int32))).toNatClampNeg
    · rw [if_pos c25] at hf; cases hf
    rw [if_neg c25] at hf
    refine rt_sld (pc := 269) (i := (a3 + (1 : Int32))) rfl dL_law_269 c25 ?_
    obtain ⟨v28, w27, e26, hf⟩ := ob2_of hf
    have g29 := sX10_cut d (by omega) e26
    refine rt_callV (pc := 270) (As := [.int (X.2.2.2.2.2.2.2.2 ((a3 + (1 : Int32))).toNatClampNeg)]) (st := [.int v23]) me_X10_cut mi_X10_cut wl_L_24 dL_law_270 rfl (by simp [rt_cat, cat_i, cat_l]) rfl g29.1 g29.2 ?_
    by_cases c30 : v23 = v28
    · rw [if_pos c30] at hf
      refine rt_icmp_eq_p (pc := 273) (x := v23) (z := v28) (tgt := 1381) (by decide) dL_law_273 c30 ?_
      exact rL_law_1381 hd ih hf
    rw [if_neg c30] at hf
    refine rt_icmp_eq_n (pc := 273) (x := v23) (z := v28) (tgt := 1381) (by decide) dL_law_273 c30 ?_
    refine rt_iconst (pc := 276) (n := 0) (v := (0 : Int32)) (by decide) dL_law_276 ?_
    cases hf
    exact rt_ret (pc := 277) dL_law_277 rfl
  rw [if_neg c19] at hf
  by_cases c31 : ((X.2.2.2.2.2.2.2.2 (a3).toNatClampNeg) &&& (63 : Int32)) = 2
  · rw [if_pos c31] at hf
    refine rt_tableIn (pc := 32) (x := ((X.2.2.2.2.2.2.2.2 (a3).toNatClampNeg) &&& (63 : Int32))) (off := 246) (tgt := 278) dL_law_32 (by rw [c31]; decide) (by rw [c31]; decide) (by rw [c31]; rfl) (by decide) ?_
    refine rt_aload_n (pc := 278) (k0 := 1) (x := a1) 1 rfl dL_law_278 ?_
    refine rt_aload_n (pc := 279) (k0 := 0) (x := (some X.2.2.2.2.2.2.1)) 0 rfl dL_law_279 ?_
    refine rt_iload_n (pc := 280) (k0 := 3) (x := a3) 3 rfl dL_law_280 ?_
    refine rt_iconst (pc := 281) (n := 1) (v := (1 : Int32)) (by decide) dL_law_281 ?_
    refine rt_iadd (pc := 282) (x := a3) (z := (1 : Int32)) dL_law_282 ?_
    by_cases c32 : (a3 + (1 : Int32)) < 0 ∨ X.2.2.2.2.2.2.2.1 ≤ ((a3 + (1 : Int32))).toNatClampNeg
    · rw [if_pos c32] at hf; cases hf
    rw [if_neg c32] at hf
    refine rt_sld (pc := 283) (i := (a3 + (1 : Int32))) rfl dL_law_283 c32 ?_
    obtain ⟨v35, w34, e33, hf⟩ := ob2_of hf
    have g36 := sX9_byteAt d (by omega) e33
    refine rt_callV (pc := 284) (As := [.int (X.2.2.2.2.2.2.2.2 ((a3 + (1 : Int32))).toNatClampNeg)]) (st := []) me_X9_byteAt mi_X9_byteAt wl_L_25 dL_law_284 rfl (by decide) rfl g36.1 g36.2 ?_
    refine rt_aload_n (pc := 287) (k0 := 2) (x := a2) 2 rfl dL_law_287 ?_
    refine rt_aload_n (pc := 288) (k0 := 0) (x := (some X.2.2.2.2.2.2.1)) 0 rfl dL_law_288 ?_
    refine rt_iload_n (pc := 289) (k0 := 3) (x := a3) 3 rfl dL_law_289 ?_
    refine rt_iconst (pc := 290) (n := 1) (v := (1 : Int32)) (by decide) dL_law_290 ?_
    refine rt_iadd (pc := 291) (x := a3) (z := (1 : Int32)) dL_law_291 ?_
    by_cases c37 : (a3 + (1 : Int32)) < 0 ∨ X.2.2.2.2.2.2.2.1 ≤ ((a3 + (1 : Int32))).toNatClampNeg
    · rw [if_pos c37] at hf; cases hf
    rw [if_neg c37] at hf
    refine rt_sld (pc := 292) (i := (a3 + (1 : Int32))) rfl dL_law_292 c37 ?_
    obtain ⟨v40, w39, e38, hf⟩ := ob2_of hf
    have g41 := sX10_byteAt d (by omega) e38
    refine rt_callV (pc := 293) (As := [.int (X.2.2.2.2.2.2.2.2 ((a3 + (1 : Int32))).toNatClampNeg)]) (st := [.int v35]) me_X10_byteAt mi_X10_byteAt wl_L_28 dL_law_293 rfl (by simp [rt_cat, cat_i, cat_l]) rfl g41.1 g41.2 ?_
    by_cases c42 : v35 = v40
    · rw [if_pos c42] at hf
      refine rt_icmp_eq_p (pc := 296) (x := v35) (z := v40) (tgt := 1381) (by decide) dL_law_296 c42 ?_
      exact rL_law_1381 hd ih hf
    rw [if_neg c42] at hf
    refine rt_icmp_eq_n (pc := 296) (x := v35) (z := v40) (tgt := 1381) (by decide) dL_law_296 c42 ?_
    refine rt_iconst (pc := 299) (n := 0) (v := (0 : Int32)) (by decide) dL_law_299 ?_
    cases hf
    exact rt_ret (pc := 300) dL_law_300 rfl
  rw [if_neg c31] at hf
  by_cases c43 : ((X.2.2.2.2.2.2.2.2 (a3).toNatClampNeg) &&& (63 : Int32)) = 3
  · rw [if_pos c43] at hf
    refine rt_tableIn (pc := 32) (x := ((X.2.2.2.2.2.2.2.2 (a3).toNatClampNeg) &&& (63 : Int32))) (off := 269) (tgt := 301) dL_law_32 (by rw [c43]; decide) (by rw [c43]; decide) (by rw [c43]; rfl) (by decide) ?_
    refine rt_aload_n (pc := 301) (k0 := 1) (x := a1) 1 rfl dL_law_301 ?_
    refine rt_aload_n (pc := 302) (k0 := 0) (x := (some X.2.2.2.2.2.2.1)) 0 rfl dL_law_302 ?_
    refine rt_iload_n (pc := 303) (k0 := 3) (x := a3) 3 rfl dL_law_303 ?_
    refine rt_iconst (pc := 304) (n := 1) (v := (1 : Int32)) (by decide) dL_law_304 ?_
    refine rt_iadd (pc := 305) (x := a3) (z := (1 : Int32)) dL_law_305 ?_
    by_cases c44 : (a3 + (1 : Int32)) < 0 ∨ X.2.2.2.2.2.2.2.1 ≤ ((a3 + (1 : Int32))).toNatClampNeg
    · rw [if_pos c44] at hf; cases hf
    rw [if_neg c44] at hf
    refine rt_sld (pc := 306) (i := (a3 + (1 : Int32))) rfl dL_law_306 c44 ?_
    refine rt_i2l (pc := 307) (x := (X.2.2.2.2.2.2.2.2 ((a3 + (1 : Int32))).toNatClampNeg)) dL_law_307 ?_
    refine rt_bipush (pc := 308) (n := 32) (v := (32 : Int32)) (by decide) dL_law_308 ?_
    refine rt_lshl (pc := 310) (x := ((X.2.2.2.2.2.2.2.2 ((a3 + (1 : Int32))).toNatClampNeg)).toInt64) (z := (32 : Int32)) dL_law_310 ?_
    refine rt_aload_n (pc := 311) (k0 := 0) (x := (some X.2.2.2.2.2.2.1)) 0 rfl dL_law_311 ?_
    refine rt_iload_n (pc := 312) (k0 := 3) (x := a3) 3 rfl dL_law_312 ?_
    refine rt_iconst (pc := 313) (n := 2) (v := (2 : Int32)) (by decide) dL_law_313 ?_
    refine rt_iadd (pc := 314) (x := a3) (z := (2 : Int32)) dL_law_314 ?_
    by_cases c45 : (a3 + (2 : Int32)) < 0 ∨ X.2.2.2.2.2.2.2.1 ≤ ((a3 + (2 : Int32))).toNatClampNeg
    · rw [if_pos c45] at hf; cases hf
    rw [if_neg c45] at hf
    refine rt_sld (pc := 315) (i := (a3 + (2 : Int32))) rfl dL_law_315 c45 ?_
    refine rt_i2l (pc := 316) (x := (X.2.2.2.2.2.2.2.2 ((a3 + (2 : Int32))).toNatClampNeg)) dL_law_316 ?_
    refine rt_ldc2 (pc := 317) wj_L_13 dL_law_317 ?_
    refine rt_land (pc := 320) (x := ((X.2.2.2.2.2.2.2.2 ((a3 + (2 : Int32))).toNatClampNeg)).toInt64) (z := (4294967295 : Int64)) dL_law_320 ?_
    refine rt_lor (pc := 321) (x := (((X.2.2.2.2.2.2.2.2 ((a3 + (1 : Int32))).toNatClampNeg)).toInt64 <<< ((32 : Int32).toInt64 &&& 63))) (z := (((X.2.2.2.2.2.2.2.2 ((a3 + (2 : Int32))).toNatClampNeg)).toInt64 &&& (4294967295 : Int64))) dL_law_321 ?_
    obtain ⟨v48, w47, e46, hf⟩ := ob2_of hf
    have g49 := sX9_put d (by omega) e46
    refine rt_callV (pc := 322) (As := [.long ((((X.2.2.2.2.2.2.2.2 ((a3 + (1 : Int32))).toNatClampNeg)).toInt64 <<< ((32 : Int32).toInt64 &&& 63)) ||| (((X.2.2.2.2.2.2.2.2 ((a3 + (2 : Int32))).toNatClampNeg)).toInt64 &&& (4294967295 : Int64)))]) (st := []) me_X9_put mi_X9_put wl_L_29 dL_law_322 rfl (by decide) rfl g49.1 g49.2 ?_
    refine rt_aload_n (pc := 325) (k0 := 2) (x := a2) 2 rfl dL_law_325 ?_
    refine rt_aload_n (pc := 326) (k0 := 0) (x := (some X.2.2.2.2.2.2.1)) 0 rfl dL_law_326 ?_
    refine rt_iload_n (pc := 327) (k0 := 3) (x := a3) 3 rfl dL_law_327 ?_
    refine rt_iconst (pc := 328) (n := 1) (v := (1 : Int32)) (by decide) dL_law_328 ?_
    refine rt_iadd (pc := 329) (x := a3) (z := (1 : Int32)) dL_law_329 ?_
    by_cases c50 : (a3 + (1 : Int32)) < 0 ∨ X.2.2.2.2.2.2.2.1 ≤ ((a3 + (1 : Int32))).toNatClampNeg
    · rw [if_pos c50] at hf; cases hf
    rw [if_neg c50] at hf
    refine rt_sld (pc := 330) (i := (a3 + (1 : Int32))) rfl dL_law_330 c50 ?_
    refine rt_i2l (pc := 331) (x := (X.2.2.2.2.2.2.2.2 ((a3 + (1 : Int32))).toNatClampNeg)) dL_law_331 ?_
    refine rt_bipush (pc := 332) (n := 32) (v := (32 : Int32)) (by decide) dL_law_332 ?_
    refine rt_lshl (pc := 334) (x := ((X.2.2.2.2.2.2.2.2 ((a3 + (1 : Int32))).toNatClampNeg)).toInt64) (z := (32 : Int32)) dL_law_334 ?_
    refine rt_aload_n (pc := 335) (k0 := 0) (x := (some X.2.2.2.2.2.2.1)) 0 rfl dL_law_335 ?_
    refine rt_iload_n (pc := 336) (k0 := 3) (x := a3) 3 rfl dL_law_336 ?_
    refine rt_iconst (pc := 337) (n := 2) (v := (2 : Int32)) (by decide) dL_law_337 ?_
    refine rt_iadd (pc := 338) (x := a3) (z := (2 : Int32)) dL_law_338 ?_
    by_cases c51 : (a3 + (2 : Int32)) < 0 ∨ X.2.2.2.2.2.2.2.1 ≤ ((a3 + (2 : Int32))).toNatClampNeg
    · rw [if_pos c51] at hf; cases hf
    rw [if_neg c51] at hf
    refine rt_sld (pc := 339) (i := (a3 + (2 : Int32))) rfl dL_law_339 c51 ?_
    refine rt_i2l (pc := 340) (x := (X.2.2.2.2.2.2.2.2 ((a3 + (2 : Int32))).toNatClampNeg)) dL_law_340 ?_
    refine rt_ldc2 (pc := 341) wj_L_13 dL_law_341 ?_
    refine rt_land (pc := 344) (x := ((X.2.2.2.2.2.2.2.2 ((a3 + (2 : Int32))).toNatClampNeg)).toInt64) (z := (4294967295 : Int64)) dL_law_344 ?_
    refine rt_lor (pc := 345) (x := (((X.2.2.2.2.2.2.2.2 ((a3 + (1 : Int32))).toNatClampNeg)).toInt64 <<< ((32 : Int32).toInt64 &&& 63))) (z := (((X.2.2.2.2.2.2.2.2 ((a3 + (2 : Int32))).toNatClampNeg)).toInt64 &&& (4294967295 : Int64))) dL_law_345 ?_
    obtain ⟨v54, w53, e52, hf⟩ := ob2_of hf
    have g55 := sX10_put d (by omega) e52
    refine rt_callV (pc := 346) (As := [.long ((((X.2.2.2.2.2.2.2.2 ((a3 + (1 : Int32))).toNatClampNeg)).toInt64 <<< ((32 : Int32).toInt64 &&& 63)) ||| (((X.2.2.2.2.2.2.2.2 ((a3 + (2 : Int32))).toNatClampNeg)).toInt64 &&& (4294967295 : Int64)))]) (st := [.int v48]) me_X10_put mi_X10_put wl_L_33 dL_law_346 rfl (by simp [rt_cat, cat_i, cat_l]) rfl g55.1 g55.2 ?_
    by_cases c56 : v48 = v54
    · rw [if_pos c56] at hf
      refine rt_icmp_eq_p (pc := 349) (x := v48) (z := v54) (tgt := 1381) (by decide) dL_law_349 c56 ?_
      exact rL_law_1381 hd ih hf
    rw [if_neg c56] at hf
    refine rt_icmp_eq_n (pc := 349) (x := v48) (z := v54) (tgt := 1381) (by decide) dL_law_349 c56 ?_
    refine rt_iconst (pc := 352) (n := 0) (v := (0 : Int32)) (by decide) dL_law_352 ?_
    cases hf
    exact rt_ret (pc := 353) dL_law_353 rfl
  rw [if_neg c43] at hf
  by_cases c57 : ((X.2.2.2.2.2.2.2.2 (a3).toNatClampNeg) &&& (63 : Int32)) = 4
  · rw [if_pos c57] at hf
    refine rt_tableIn (pc := 32) (x := ((X.2.2.2.2.2.2.2.2 (a3).toNatClampNeg) &&& (63 : Int32))) (off := 322) (tgt := 354) dL_law_32 (by rw [c57]; decide) (by rw [c57]; decide) (by rw [c57]; rfl) (by decide) ?_
    refine rt_aload_n (pc := 354) (k0 := 1) (x := a1) 1 rfl dL_law_354 ?_
    refine rt_aload_n (pc := 355) (k0 := 0) (x := (some X.2.2.2.2.2.2.1)) 0 rfl dL_law_355 ?_
    refine rt_iload_n (pc := 356) (k0 := 3) (x := a3) 3 rfl dL_law_356 ?_
    refine rt_iconst (pc := 357) (n := 1) (v := (1 : Int32)) (by decide) dL_law_357 ?_
    refine rt_iadd (pc := 358) (x := a3) (z := (1 : Int32)) dL_law_358 ?_
    by_cases c58 : (a3 + (1 : Int32)) < 0 ∨ X.2.2.2.2.2.2.2.1 ≤ ((a3 + (1 : Int32))).toNatClampNeg
    · rw [if_pos c58] at hf; cases hf
    rw [if_neg c58] at hf
    refine rt_sld (pc := 359) (i := (a3 + (1 : Int32))) rfl dL_law_359 c58 ?_
    refine rt_i2l (pc := 360) (x := (X.2.2.2.2.2.2.2.2 ((a3 + (1 : Int32))).toNatClampNeg)) dL_law_360 ?_
    refine rt_bipush (pc := 361) (n := 32) (v := (32 : Int32)) (by decide) dL_law_361 ?_
    refine rt_lshl (pc := 363) (x := ((X.2.2.2.2.2.2.2.2 ((a3 + (1 : Int32))).toNatClampNeg)).toInt64) (z := (32 : Int32)) dL_law_363 ?_
    refine rt_aload_n (pc := 364) (k0 := 0) (x := (some X.2.2.2.2.2.2.1)) 0 rfl dL_law_364 ?_
    refine rt_iload_n (pc := 365) (k0 := 3) (x := a3) 3 rfl dL_law_365 ?_
    refine rt_iconst (pc := 366) (n := 2) (v := (2 : Int32)) (by decide) dL_law_366 ?_
    refine rt_iadd (pc := 367) (x := a3) (z := (2 : Int32)) dL_law_367 ?_
    by_cases c59 : (a3 + (2 : Int32)) < 0 ∨ X.2.2.2.2.2.2.2.1 ≤ ((a3 + (2 : Int32))).toNatClampNeg
    · rw [if_pos c59] at hf; cases hf
    rw [if_neg c59] at hf
    refine rt_sld (pc := 368) (i := (a3 + (2 : Int32))) rfl dL_law_368 c59 ?_
    refine rt_i2l (pc := 369) (x := (X.2.2.2.2.2.2.2.2 ((a3 + (2 : Int32))).toNatClampNeg)) dL_law_369 ?_
    refine rt_ldc2 (pc := 370) wj_L_13 dL_law_370 ?_
    refine rt_land (pc := 373) (x := ((X.2.2.2.2.2.2.2.2 ((a3 + (2 : Int32))).toNatClampNeg)).toInt64) (z := (4294967295 : Int64)) dL_law_373 ?_
    refine rt_lor (pc := 374) (x := (((X.2.2.2.2.2.2.2.2 ((a3 + (1 : Int32))).toNatClampNeg)).toInt64 <<< ((32 : Int32).toInt64 &&& 63))) (z := (((X.2.2.2.2.2.2.2.2 ((a3 + (2 : Int32))).toNatClampNeg)).toInt64 &&& (4294967295 : Int64))) dL_law_374 ?_
    obtain ⟨v62, w61, e60, hf⟩ := ob2_of hf
    have g63 := sX9_append d (by omega) e60
    refine rt_callV (pc := 375) (As := [.long ((((X.2.2.2.2.2.2.2.2 ((a3 + (1 : Int32))).toNatClampNeg)).toInt64 <<< ((32 : Int32).toInt64 &&& 63)) ||| (((X.2.2.2.2.2.2.2.2 ((a3 + (2 : Int32))).toNatClampNeg)).toInt64 &&& (4294967295 : Int64)))]) (st := []) me_X9_append mi_X9_append wl_L_34 dL_law_375 rfl (by decide) rfl g63.1 g63.2 ?_
    refine rt_aload_n (pc := 378) (k0 := 2) (x := a2) 2 rfl dL_law_378 ?_
    refine rt_aload_n (pc := 379) (k0 := 0) (x := (some X.2.2.2.2.2.2.1)) 0 rfl dL_law_379 ?_
    refine rt_iload_n (pc := 380) (k0 := 3) (x := a3) 3 rfl dL_law_380 ?_
    refine rt_iconst (pc := 381) (n := 1) (v := (1 : Int32)) (by decide) dL_law_381 ?_
    refine rt_iadd (pc := 382) (x := a3) (z := (1 : Int32)) dL_law_382 ?_
    by_cases c64 : (a3 + (1 : Int32)) < 0 ∨ X.2.2.2.2.2.2.2.1 ≤ ((a3 + (1 : Int32))).toNatClampNeg
    · rw [if_pos c64] at hf; cases hf
    rw [if_neg c64] at hf
    refine rt_sld (pc := 383) (i := (a3 + (1 : Int32))) rfl dL_law_383 c64 ?_
    refine rt_i2l (pc := 384) (x := (X.2.2.2.2.2.2.2.2 ((a3 + (1 : Int32))).toNatClampNeg)) dL_law_384 ?_
    refine rt_bipush (pc := 385) (n := 32) (v := (32 : Int32)) (by decide) dL_law_385 ?_
    refine rt_lshl (pc := 387) (x := ((X.2.2.2.2.2.2.2.2 ((a3 + (1 : Int32))).toNatClampNeg)).toInt64) (z := (32 : Int32)) dL_law_387 ?_
    refine rt_aload_n (pc := 388) (k0 := 0) (x := (some X.2.2.2.2.2.2.1)) 0 rfl dL_law_388 ?_
    refine rt_iload_n (pc := 389) (k0 := 3) (x := a3) 3 rfl dL_law_389 ?_
    refine rt_iconst (pc := 390) (n := 2) (v := (2 : Int32)) (by decide) dL_law_390 ?_
    refine rt_iadd (pc := 391) (x := a3) (z := (2 : Int32)) dL_law_391 ?_
    by_cases c65 : (a3 + (2 : Int32)) < 0 ∨ X.2.2.2.2.2.2.2.1 ≤ ((a3 + (2 : Int32))).toNatClampNeg
    · rw [if_pos c65] at hf; cases hf
    rw [if_neg c65] at hf
    refine rt_sld (pc := 392) (i := (a3 + (2 : Int32))) rfl dL_law_392 c65 ?_
    refine rt_i2l (pc := 393) (x := (X.2.2.2.2.2.2.2.2 ((a3 + (2 : Int32))).toNatClampNeg)) dL_law_393 ?_
    refine rt_ldc2 (pc := 394) wj_L_13 dL_law_394 ?_
    refine rt_land (pc := 397) (x := ((X.2.2.2.2.2.2.2.2 ((a3 + (2 : Int32))).toNatClampNeg)).toInt64) (z := (4294967295 : Int64)) dL_law_397 ?_
    refine rt_lor (pc := 398) (x := (((X.2.2.2.2.2.2.2.2 ((a3 + (1 : Int32))).toNatClampNeg)).toInt64 <<< ((32 : Int32).toInt64 &&& 63))) (z := (((X.2.2.2.2.2.2.2.2 ((a3 + (2 : Int32))).toNatClampNeg)).toInt64 &&& (4294967295 : Int64))) dL_law_398 ?_
    obtain ⟨v68, w67, e66, hf⟩ := ob2_of hf
    have g69 := sX10_append d (by omega) e66
    refine rt_callV (pc := 399) (As := [.long ((((X.2.2.2.2.2.2.2.2 ((a3 + (1 : Int32))).toNatClampNeg)).toInt64 <<< ((32 : Int32).toInt64 &&& 63)) ||| (((X.2.2.2.2.2.2.2.2 ((a3 + (2 : Int32))).toNatClampNeg)).toInt64 &&& (4294967295 : Int64)))]) (st := [.int v62]) me_X10_append mi_X10_append wl_L_37 dL_law_399 rfl (by simp [rt_cat, cat_i, cat_l]) rfl g69.1 g69.2 ?_
    by_cases c70 : v62 = v68
    · rw [if_pos c70] at hf
      refine rt_icmp_eq_p (pc := 402) (x := v62) (z := v68) (tgt := 1381) (by decide) dL_law_402 c70 ?_
      exact rL_law_1381 hd ih hf
    rw [if_neg c70] at hf
    refine rt_icmp_eq_n (pc := 402) (x := v62) (z := v68) (tgt := 1381) (by decide) dL_law_402 c70 ?_
    refine rt_iconst (pc := 405) (n := 0) (v := (0 : Int32)) (by decide) dL_law_405 ?_
    cases hf
    exact rt_ret (pc := 406) dL_law_406 rfl
  rw [if_neg c57] at hf
  by_cases c71 : ((X.2.2.2.2.2.2.2.2 (a3).toNatClampNeg) &&& (63 : Int32)) = 5
  · rw [if_pos c71] at hf
    refine rt_tableIn (pc := 32) (x := ((X.2.2.2.2.2.2.2.2 (a3).toNatClampNeg) &&& (63 : Int32))) (off := 375) (tgt := 407) dL_law_32 (by rw [c71]; decide) (by rw [c71]; decide) (by rw [c71]; rfl) (by decide) ?_
    refine rt_aload_n (pc := 407) (k0 := 1) (x := a1) 1 rfl dL_law_407 ?_
    refine rt_aload_n (pc := 408) (k0 := 0) (x := (some X.2.2.2.2.2.2.1)) 0 rfl dL_law_408 ?_
    refine rt_iload_n (pc := 409) (k0 := 3) (x := a3) 3 rfl dL_law_409 ?_
    refine rt_iconst (pc := 410) (n := 1) (v := (1 : Int32)) (by decide) dL_law_410 ?_
    refine rt_iadd (pc := 411) (x := a3) (z := (1 : Int32)) dL_law_411 ?_
    by_cases c72 : (a3 + (1 : Int32)) < 0 ∨ X.2.2.2.2.2.2.2.1 ≤ ((a3 + (1 : Int32))).toNatClampNeg
    · rw [if_pos c72] at hf; cases hf
    rw [if_neg c72] at hf
    refine rt_sld (pc := 412) (i := (a3 + (1 : Int32))) rfl dL_law_412 c72 ?_
    refine rt_i2l (pc := 413) (x := (X.2.2.2.2.2.2.2.2 ((a3 + (1 : Int32))).toNatClampNeg)) dL_law_413 ?_
    refine rt_bipush (pc := 414) (n := 32) (v := (32 : Int32)) (by decide) dL_law_414 ?_
    refine rt_lshl (pc := 416) (x := ((X.2.2.2.2.2.2.2.2 ((a3 + (1 : Int32))).toNatClampNeg)).toInt64) (z := (32 : Int32)) dL_law_416 ?_
    refine rt_aload_n (pc := 417) (k0 := 0) (x := (some X.2.2.2.2.2.2.1)) 0 rfl dL_law_417 ?_
    refine rt_iload_n (pc := 418) (k0 := 3) (x := a3) 3 rfl dL_law_418 ?_
    refine rt_iconst (pc := 419) (n := 2) (v := (2 : Int32)) (by decide) dL_law_419 ?_
    refine rt_iadd (pc := 420) (x := a3) (z := (2 : Int32)) dL_law_420 ?_
    by_cases c73 : (a3 + (2 : Int32)) < 0 ∨ X.2.2.2.2.2.2.2.1 ≤ ((a3 + (2 : Int32))).toNatClampNeg
    · rw [if_pos c73] at hf; cases hf
    rw [if_neg c73] at hf
    refine rt_sld (pc := 421) (i := (a3 + (2 : Int32))) rfl dL_law_421 c73 ?_
    refine rt_i2l (pc := 422) (x := (X.2.2.2.2.2.2.2.2 ((a3 + (2 : Int32))).toNatClampNeg)) dL_law_422 ?_
    refine rt_ldc2 (pc := 423) wj_L_13 dL_law_423 ?_
    refine rt_land (pc := 426) (x := ((X.2.2.2.2.2.2.2.2 ((a3 + (2 : Int32))).toNatClampNeg)).toInt64) (z := (4294967295 : Int64)) dL_law_426 ?_
    refine rt_lor (pc := 427) (x := (((X.2.2.2.2.2.2.2.2 ((a3 + (1 : Int32))).toNatClampNeg)).toInt64 <<< ((32 : Int32).toInt64 &&& 63))) (z := (((X.2.2.2.2.2.2.2.2 ((a3 + (2 : Int32))).toNatClampNeg)).toInt64 &&& (4294967295 : Int64))) dL_law_427 ?_
    refine rt_aload_n (pc := 428) (k0 := 0) (x := (some X.2.2.2.2.2.2.1)) 0 rfl dL_law_428 ?_
    refine rt_iload_n (pc := 429) (k0 := 3) (x := a3) 3 rfl dL_law_429 ?_
    refine rt_iconst (pc := 430) (n := 3) (v := (3 : Int32)) (by decide) dL_law_430 ?_
    refine rt_iadd (pc := 431) (x := a3) (z := (3 : Int32)) dL_law_431 ?_
    by_cases c74 : (a3 + (3 : Int32)) < 0 ∨ X.2.2.2.2.2.2.2.1 ≤ ((a3 + (3 : Int32))).toNatClampNeg
    · rw [if_pos c74] at hf; cases hf
    rw [if_neg c74] at hf
    refine rt_sld (pc := 432) (i := (a3 + (3 : Int32))) rfl dL_law_432 c74 ?_
    obtain ⟨v77, w76, e75, hf⟩ := ob2_of hf
    have g78 := sX9_swap d (by omega) e75
    refine rt_callV (pc := 433) (As := [.long ((((X.2.2.2.2.2.2.2.2 ((a3 + (1 : Int32))).toNatClampNeg)).toInt64 <<< ((32 : Int32).toInt64 &&& 63)) ||| (((X.2.2.2.2.2.2.2.2 ((a3 + (2 : Int32))).toNatClampNeg)).toInt64 &&& (4294967295 : Int64))), .int (X.2.2.2.2.2.2.2.2 ((a3 + (3 : Int32))).toNatClampNeg)]) (st := []) me_X9_swap mi_X9_swap wl_L_38 dL_law_433 rfl (by decide) rfl g78.1 g78.2 ?_
    refine rt_aload_n (pc := 436) (k0 := 2) (x := a2) 2 rfl dL_law_436 ?_
    refine rt_aload_n (pc := 437) (k0 := 0) (x := (some X.2.2.2.2.2.2.1)) 0 rfl dL_law_437 ?_
    refine rt_iload_n (pc := 438) (k0 := 3) (x := a3) 3 rfl dL_law_438 ?_
    refine rt_iconst (pc := 439) (n := 1) (v := (1 : Int32)) (by decide) dL_law_439 ?_
    refine rt_iadd (pc := 440) (x := a3) (z := (1 : Int32)) dL_law_440 ?_
    by_cases c79 : (a3 + (1 : Int32)) < 0 ∨ X.2.2.2.2.2.2.2.1 ≤ ((a3 + (1 : Int32))).toNatClampNeg
    · rw [if_pos c79] at hf; cases hf
    rw [if_neg c79] at hf
    refine rt_sld (pc := 441) (i := (a3 + (1 : Int32))) rfl dL_law_441 c79 ?_
    refine rt_i2l (pc := 442) (x := (X.2.2.2.2.2.2.2.2 ((a3 + (1 : Int32))).toNatClampNeg)) dL_law_442 ?_
    refine rt_bipush (pc := 443) (n := 32) (v := (32 : Int32)) (by decide) dL_law_443 ?_
    refine rt_lshl (pc := 445) (x := ((X.2.2.2.2.2.2.2.2 ((a3 + (1 : Int32))).toNatClampNeg)).toInt64) (z := (32 : Int32)) dL_law_445 ?_
    refine rt_aload_n (pc := 446) (k0 := 0) (x := (some X.2.2.2.2.2.2.1)) 0 rfl dL_law_446 ?_
    refine rt_iload_n (pc := 447) (k0 := 3) (x := a3) 3 rfl dL_law_447 ?_
    refine rt_iconst (pc := 448) (n := 2) (v := (2 : Int32)) (by decide) dL_law_448 ?_
    refine rt_iadd (pc := 449) (x := a3) (z := (2 : Int32)) dL_law_449 ?_
    by_cases c80 : (a3 + (2 : Int32)) < 0 ∨ X.2.2.2.2.2.2.2.1 ≤ ((a3 + (2 : Int32))).toNatClampNeg
    · rw [if_pos c80] at hf; cases hf
    rw [if_neg c80] at hf
    refine rt_sld (pc := 450) (i := (a3 + (2 : Int32))) rfl dL_law_450 c80 ?_
    refine rt_i2l (pc := 451) (x := (X.2.2.2.2.2.2.2.2 ((a3 + (2 : Int32))).toNatClampNeg)) dL_law_451 ?_
    refine rt_ldc2 (pc := 452) wj_L_13 dL_law_452 ?_
    refine rt_land (pc := 455) (x := ((X.2.2.2.2.2.2.2.2 ((a3 + (2 : Int32))).toNatClampNeg)).toInt64) (z := (4294967295 : Int64)) dL_law_455 ?_
    refine rt_lor (pc := 456) (x := (((X.2.2.2.2.2.2.2.2 ((a3 + (1 : Int32))).toNatClampNeg)).toInt64 <<< ((32 : Int32).toInt64 &&& 63))) (z := (((X.2.2.2.2.2.2.2.2 ((a3 + (2 : Int32))).toNatClampNeg)).toInt64 &&& (4294967295 : Int64))) dL_law_456 ?_
    refine rt_aload_n (pc := 457) (k0 := 0) (x := (some X.2.2.2.2.2.2.1)) 0 rfl dL_law_457 ?_
    refine rt_iload_n (pc := 458) (k0 := 3) (x := a3) 3 rfl dL_law_458 ?_
    refine rt_iconst (pc := 459) (n := 3) (v := (3 : Int32)) (by decide) dL_law_459 ?_
    refine rt_iadd (pc := 460) (x := a3) (z := (3 : Int32)) dL_law_460 ?_
    by_cases c81 : (a3 + (3 : Int32)) < 0 ∨ X.2.2.2.2.2.2.2.1 ≤ ((a3 + (3 : Int32))).toNatClampNeg
    · rw [if_pos c81] at hf; cases hf
    rw [if_neg c81] at hf
    refine rt_sld (pc := 461) (i := (a3 + (3 : Int32))) rfl dL_law_461 c81 ?_
    obtain ⟨v84, w83, e82, hf⟩ := ob2_of hf
    have g85 := sX10_swap d (by omega) e82
    refine rt_callV (pc := 462) (As := [.long ((((X.2.2.2.2.2.2.2.2 ((a3 + (1 : Int32))).toNatClampNeg)).toInt64 <<< ((32 : Int32).toInt64 &&& 63)) ||| (((X.2.2.2.2.2.2.2.2 ((a3 + (2 : Int32))).toNatClampNeg)).toInt64 &&& (4294967295 : Int64))), .int (X.2.2.2.2.2.2.2.2 ((a3 + (3 : Int32))).toNatClampNeg)]) (st := [.int v77]) me_X10_swap mi_X10_swap wl_L_41 dL_law_462 rfl (by simp [rt_cat, cat_i, cat_l]) rfl g85.1 g85.2 ?_
    by_cases c86 : v77 = v84
    · rw [if_pos c86] at hf
      refine rt_icmp_eq_p (pc := 465) (x := v77) (z := v84) (tgt := 1381) (by decide) dL_law_465 c86 ?_
      exact rL_law_1381 hd ih hf
    rw [if_neg c86] at hf
    refine rt_icmp_eq_n (pc := 465) (x := v77) (z := v84) (tgt := 1381) (by decide) dL_law_465 c86 ?_
    refine rt_iconst (pc := 468) (n := 0) (v := (0 : Int32)) (by decide) dL_law_468 ?_
    cases hf
    exact rt_ret (pc := 469) dL_law_469 rfl
  rw [if_neg c71] at hf
  by_cases c87 : ((X.2.2.2.2.2.2.2.2 (a3).toNatClampNeg) &&& (63 : Int32)) = 6
  · rw [if_pos c87] at hf
    refine rt_tableIn (pc := 32) (x := ((X.2.2.2.2.2.2.2.2 (a3).toNatClampNeg) &&& (63 : Int32))) (off := 438) (tgt := 470) dL_law_32 (by rw [c87]; decide) (by rw [c87]; decide) (by rw [c87]; rfl) (by decide) ?_
    refine rt_aload_n (pc := 470) (k0 := 1) (x := a1) 1 rfl dL_law_470 ?_
    refine rt_aload_n (pc := 471) (k0 := 0) (x := (some X.2.2.2.2.2.2.1)) 0 rfl dL_law_471 ?_
    refine rt_iload_n (pc := 472) (k0 := 3) (x := a3) 3 rfl dL_law_472 ?_
    refine rt_iconst (pc := 473) (n := 1) (v := (1 : Int32)) (by decide) dL_law_473 ?_
    refine rt_iadd (pc := 474) (x := a3) (z := (1 : Int32)) dL_law_474 ?_
    by_cases c88 : (a3 + (1 : Int32)) < 0 ∨ X.2.2.2.2.2.2.2.1 ≤ ((a3 + (1 : Int32))).toNatClampNeg
    · rw [if_pos c88] at hf; cases hf
    rw [if_neg c88] at hf
    refine rt_sld (pc := 475) (i := (a3 + (1 : Int32))) rfl dL_law_475 c88 ?_
    refine rt_i2l (pc := 476) (x := (X.2.2.2.2.2.2.2.2 ((a3 + (1 : Int32))).toNatClampNeg)) dL_law_476 ?_
    refine rt_bipush (pc := 477) (n := 32) (v := (32 : Int32)) (by decide) dL_law_477 ?_
    refine rt_lshl (pc := 479) (x := ((X.2.2.2.2.2.2.2.2 ((a3 + (1 : Int32))).toNatClampNeg)).toInt64) (z := (32 : Int32)) dL_law_479 ?_
    refine rt_aload_n (pc := 480) (k0 := 0) (x := (some X.2.2.2.2.2.2.1)) 0 rfl dL_law_480 ?_
    refine rt_iload_n (pc := 481) (k0 := 3) (x := a3) 3 rfl dL_law_481 ?_
    refine rt_iconst (pc := 482) (n := 2) (v := (2 : Int32)) (by decide) dL_law_482 ?_
    refine rt_iadd (pc := 483) (x := a3) (z := (2 : Int32)) dL_law_483 ?_
    by_cases c89 : (a3 + (2 : Int32)) < 0 ∨ X.2.2.2.2.2.2.2.1 ≤ ((a3 + (2 : Int32))).toNatClampNeg
    · rw [if_pos c89] at hf; cases hf
    rw [if_neg c89] at hf
    refine rt_sld (pc := 484) (i := (a3 + (2 : Int32))) rfl dL_law_484 c89 ?_
    refine rt_i2l (pc := 485) (x := (X.2.2.2.2.2.2.2.2 ((a3 + (2 : Int32))).toNatClampNeg)) dL_law_485 ?_
    refine rt_ldc2 (pc := 486) wj_L_13 dL_law_486 ?_
    refine rt_land (pc := 489) (x := ((X.2.2.2.2.2.2.2.2 ((a3 + (2 : Int32))).toNatClampNeg)).toInt64) (z := (4294967295 : Int64)) dL_law_489 ?_
    refine rt_lor (pc := 490) (x := (((X.2.2.2.2.2.2.2.2 ((a3 + (1 : Int32))).toNatClampNeg)).toInt64 <<< ((32 : Int32).toInt64 &&& 63))) (z := (((X.2.2.2.2.2.2.2.2 ((a3 + (2 : Int32))).toNatClampNeg)).toInt64 &&& (4294967295 : Int64))) dL_law_490 ?_
    obtain ⟨v92, w91, e90, hf⟩ := ob2_of hf
    have g93 := sX9_drop d (by omega) e90
    refine rt_callV (pc := 491) (As := [.long ((((X.2.2.2.2.2.2.2.2 ((a3 + (1 : Int32))).toNatClampNeg)).toInt64 <<< ((32 : Int32).toInt64 &&& 63)) ||| (((X.2.2.2.2.2.2.2.2 ((a3 + (2 : Int32))).toNatClampNeg)).toInt64 &&& (4294967295 : Int64)))]) (st := []) me_X9_drop mi_X9_drop wl_L_42 dL_law_491 rfl (by decide) rfl g93.1 g93.2 ?_
    refine rt_aload_n (pc := 494) (k0 := 2) (x := a2) 2 rfl dL_law_494 ?_
    refine rt_aload_n (pc := 495) (k0 := 0) (x := (some X.2.2.2.2.2.2.1)) 0 rfl dL_law_495 ?_
    refine rt_iload_n (pc := 496) (k0 := 3) (x := a3) 3 rfl dL_law_496 ?_
    refine rt_iconst (pc := 497) (n := 1) (v := (1 : Int32)) (by decide) dL_law_497 ?_
    refine rt_iadd (pc := 498) (x := a3) (z := (1 : Int32)) dL_law_498 ?_
    by_cases c94 : (a3 + (1 : Int32)) < 0 ∨ X.2.2.2.2.2.2.2.1 ≤ ((a3 + (1 : Int32))).toNatClampNeg
    · rw [if_pos c94] at hf; cases hf
    rw [if_neg c94] at hf
    refine rt_sld (pc := 499) (i := (a3 + (1 : Int32))) rfl dL_law_499 c94 ?_
    refine rt_i2l (pc := 500) (x := (X.2.2.2.2.2.2.2.2 ((a3 + (1 : Int32))).toNatClampNeg)) dL_law_500 ?_
    refine rt_bipush (pc := 501) (n := 32) (v := (32 : Int32)) (by decide) dL_law_501 ?_
    refine rt_lshl (pc := 503) (x := ((X.2.2.2.2.2.2.2.2 ((a3 + (1 : Int32))).toNatClampNeg)).toInt64) (z := (32 : Int32)) dL_law_503 ?_
    refine rt_aload_n (pc := 504) (k0 := 0) (x := (some X.2.2.2.2.2.2.1)) 0 rfl dL_law_504 ?_
    refine rt_iload_n (pc := 505) (k0 := 3) (x := a3) 3 rfl dL_law_505 ?_
    refine rt_iconst (pc := 506) (n := 2) (v := (2 : Int32)) (by decide) dL_law_506 ?_
    refine rt_iadd (pc := 507) (x := a3) (z := (2 : Int32)) dL_law_507 ?_
    by_cases c95 : (a3 + (2 : Int32)) < 0 ∨ X.2.2.2.2.2.2.2.1 ≤ ((a3 + (2 : Int32))).toNatClampNeg
    · rw [if_pos c95] at hf; cases hf
    rw [if_neg c95] at hf
    refine rt_sld (pc := 508) (i := (a3 + (2 : Int32))) rfl dL_law_508 c95 ?_
    refine rt_i2l (pc := 509) (x := (X.2.2.2.2.2.2.2.2 ((a3 + (2 : Int32))).toNatClampNeg)) dL_law_509 ?_
    refine rt_ldc2 (pc := 510) wj_L_13 dL_law_510 ?_
    refine rt_land (pc := 513) (x := ((X.2.2.2.2.2.2.2.2 ((a3 + (2 : Int32))).toNatClampNeg)).toInt64) (z := (4294967295 : Int64)) dL_law_513 ?_
    refine rt_lor (pc := 514) (x := (((X.2.2.2.2.2.2.2.2 ((a3 + (1 : Int32))).toNatClampNeg)).toInt64 <<< ((32 : Int32).toInt64 &&& 63))) (z := (((X.2.2.2.2.2.2.2.2 ((a3 + (2 : Int32))).toNatClampNeg)).toInt64 &&& (4294967295 : Int64))) dL_law_514 ?_
    obtain ⟨v98, w97, e96, hf⟩ := ob2_of hf
    have g99 := sX10_drop d (by omega) e96
    refine rt_callV (pc := 515) (As := [.long ((((X.2.2.2.2.2.2.2.2 ((a3 + (1 : Int32))).toNatClampNeg)).toInt64 <<< ((32 : Int32).toInt64 &&& 63)) ||| (((X.2.2.2.2.2.2.2.2 ((a3 + (2 : Int32))).toNatClampNeg)).toInt64 &&& (4294967295 : Int64)))]) (st := [.int v92]) me_X10_drop mi_X10_drop wl_L_45 dL_law_515 rfl (by simp [rt_cat, cat_i, cat_l]) rfl g99.1 g99.2 ?_
    by_cases c100 : v92 = v98
    · rw [if_pos c100] at hf
      refine rt_icmp_eq_p (pc := 518) (x := v92) (z := v98) (tgt := 1381) (by decide) dL_law_518 c100 ?_
      exact rL_law_1381 hd ih hf
    rw [if_neg c100] at hf
    refine rt_icmp_eq_n (pc := 518) (x := v92) (z := v98) (tgt := 1381) (by decide) dL_law_518 c100 ?_
    refine rt_iconst (pc := 521) (n := 0) (v := (0 : Int32)) (by decide) dL_law_521 ?_
    cases hf
    exact rt_ret (pc := 522) dL_law_522 rfl
  rw [if_neg c87] at hf
  by_cases c101 : ((X.2.2.2.2.2.2.2.2 (a3).toNatClampNeg) &&& (63 : Int32)) = 7
  · rw [if_pos c101] at hf
    refine rt_tableIn (pc := 32) (x := ((X.2.2.2.2.2.2.2.2 (a3).toNatClampNeg) &&& (63 : Int32))) (off := 491) (tgt := 523) dL_law_32 (by rw [c101]; decide) (by rw [c101]; decide) (by rw [c101]; rfl) (by decide) ?_
    refine rt_aload_n (pc := 523) (k0 := 1) (x := a1) 1 rfl dL_law_523 ?_
    refine rt_aload_n (pc := 524) (k0 := 0) (x := (some X.2.2.2.2.2.2.1)) 0 rfl dL_law_524 ?_
    refine rt_iload_n (pc := 525) (k0 := 3) (x := a3) 3 rfl dL_law_525 ?_
    refine rt_iconst (pc := 526) (n := 1) (v := (1 : Int32)) (by decide) dL_law_526 ?_
    refine rt_iadd (pc := 527) (x := a3) (z := (1 : Int32)) dL_law_527 ?_
    by_cases c102 : (a3 + (1 : Int32)) < 0 ∨ X.2.2.2.2.2.2.2.1 ≤ ((a3 + (1 : Int32))).toNatClampNeg
    · rw [if_pos c102] at hf; cases hf
    rw [if_neg c102] at hf
    refine rt_sld (pc := 528) (i := (a3 + (1 : Int32))) rfl dL_law_528 c102 ?_
    refine rt_i2l (pc := 529) (x := (X.2.2.2.2.2.2.2.2 ((a3 + (1 : Int32))).toNatClampNeg)) dL_law_529 ?_
    refine rt_bipush (pc := 530) (n := 32) (v := (32 : Int32)) (by decide) dL_law_530 ?_
    refine rt_lshl (pc := 532) (x := ((X.2.2.2.2.2.2.2.2 ((a3 + (1 : Int32))).toNatClampNeg)).toInt64) (z := (32 : Int32)) dL_law_532 ?_
    refine rt_aload_n (pc := 533) (k0 := 0) (x := (some X.2.2.2.2.2.2.1)) 0 rfl dL_law_533 ?_
    refine rt_iload_n (pc := 534) (k0 := 3) (x := a3) 3 rfl dL_law_534 ?_
    refine rt_iconst (pc := 535) (n := 2) (v := (2 : Int32)) (by decide) dL_law_535 ?_
    refine rt_iadd (pc := 536) (x := a3) (z := (2 : Int32)) dL_law_536 ?_
    by_cases c103 : (a3 + (2 : Int32)) < 0 ∨ X.2.2.2.2.2.2.2.1 ≤ ((a3 + (2 : Int32))).toNatClampNeg
    · rw [if_pos c103] at hf; cases hf
    rw [if_neg c103] at hf
    refine rt_sld (pc := 537) (i := (a3 + (2 : Int32))) rfl dL_law_537 c103 ?_
    refine rt_i2l (pc := 538) (x := (X.2.2.2.2.2.2.2.2 ((a3 + (2 : Int32))).toNatClampNeg)) dL_law_538 ?_
    refine rt_ldc2 (pc := 539) wj_L_13 dL_law_539 ?_
    refine rt_land (pc := 542) (x := ((X.2.2.2.2.2.2.2.2 ((a3 + (2 : Int32))).toNatClampNeg)).toInt64) (z := (4294967295 : Int64)) dL_law_542 ?_
    refine rt_lor (pc := 543) (x := (((X.2.2.2.2.2.2.2.2 ((a3 + (1 : Int32))).toNatClampNeg)).toInt64 <<< ((32 : Int32).toInt64 &&& 63))) (z := (((X.2.2.2.2.2.2.2.2 ((a3 + (2 : Int32))).toNatClampNeg)).toInt64 &&& (4294967295 : Int64))) dL_law_543 ?_
    refine rt_aload_n (pc := 544) (k0 := 0) (x := (some X.2.2.2.2.2.2.1)) 0 rfl dL_law_544 ?_
    refine rt_iload_n (pc := 545) (k0 := 3) (x := a3) 3 rfl dL_law_545 ?_
    refine rt_iconst (pc := 546) (n := 3) (v := (3 : Int32)) (by decide) dL_law_546 ?_
    refine rt_iadd (pc := 547) (x := a3) (z := (3 : Int32)) dL_law_547 ?_
    by_cases c104 : (a3 + (3 : Int32)) < 0 ∨ X.2.2.2.2.2.2.2.1 ≤ ((a3 + (3 : Int32))).toNatClampNeg
    · rw [if_pos c104] at hf; cases hf
    rw [if_neg c104] at hf
    refine rt_sld (pc := 548) (i := (a3 + (3 : Int32))) rfl dL_law_548 c104 ?_
    refine rt_i2l (pc := 549) (x := (X.2.2.2.2.2.2.2.2 ((a3 + (3 : Int32))).toNatClampNeg)) dL_law_549 ?_
    refine rt_bipush (pc := 550) (n := 32) (v := (32 : Int32)) (by decide) dL_law_550 ?_
    refine rt_lshl (pc := 552) (x := ((X.2.2.2.2.2.2.2.2 ((a3 + (3 : Int32))).toNatClampNeg)).toInt64) (z := (32 : Int32)) dL_law_552 ?_
    refine rt_aload_n (pc := 553) (k0 := 0) (x := (some X.2.2.2.2.2.2.1)) 0 rfl dL_law_553 ?_
    refine rt_iload_n (pc := 554) (k0 := 3) (x := a3) 3 rfl dL_law_554 ?_
    refine rt_iconst (pc := 555) (n := 4) (v := (4 : Int32)) (by decide) dL_law_555 ?_
    refine rt_iadd (pc := 556) (x := a3) (z := (4 : Int32)) dL_law_556 ?_
    by_cases c105 : (a3 + (4 : Int32)) < 0 ∨ X.2.2.2.2.2.2.2.1 ≤ ((a3 + (4 : Int32))).toNatClampNeg
    · rw [if_pos c105] at hf; cases hf
    rw [if_neg c105] at hf
    refine rt_sld (pc := 557) (i := (a3 + (4 : Int32))) rfl dL_law_557 c105 ?_
    refine rt_i2l (pc := 558) (x := (X.2.2.2.2.2.2.2.2 ((a3 + (4 : Int32))).toNatClampNeg)) dL_law_558 ?_
    refine rt_ldc2 (pc := 559) wj_L_13 dL_law_559 ?_
    refine rt_land (pc := 562) (x := ((X.2.2.2.2.2.2.2.2 ((a3 + (4 : Int32))).toNatClampNeg)).toInt64) (z := (4294967295 : Int64)) dL_law_562 ?_
    refine rt_lor (pc := 563) (x := (((X.2.2.2.2.2.2.2.2 ((a3 + (3 : Int32))).toNatClampNeg)).toInt64 <<< ((32 : Int32).toInt64 &&& 63))) (z := (((X.2.2.2.2.2.2.2.2 ((a3 + (4 : Int32))).toNatClampNeg)).toInt64 &&& (4294967295 : Int64))) dL_law_563 ?_
    obtain ⟨v108, w107, e106, hf⟩ := ob2_of hf
    have g109 := sX9_sweep d (by omega) e106
    refine rt_callV (pc := 564) (As := [.long ((((X.2.2.2.2.2.2.2.2 ((a3 + (1 : Int32))).toNatClampNeg)).toInt64 <<< ((32 : Int32).toInt64 &&& 63)) ||| (((X.2.2.2.2.2.2.2.2 ((a3 + (2 : Int32))).toNatClampNeg)).toInt64 &&& (4294967295 : Int64))), .long ((((X.2.2.2.2.2.2.2.2 ((a3 + (3 : Int32))).toNatClampNeg)).toInt64 <<< ((32 : Int32).toInt64 &&& 63)) ||| (((X.2.2.2.2.2.2.2.2 ((a3 + (4 : Int32))).toNatClampNeg)).toInt64 &&& (4294967295 : Int64)))]) (st := []) me_X9_sweep mi_X9_sweep wl_L_46 dL_law_564 rfl (by decide) rfl g109.1 g109.2 ?_
    refine rt_aload_n (pc := 567) (k0 := 2) (x := a2) 2 rfl dL_law_567 ?_
    refine rt_aload_n (pc := 568) (k0 := 0) (x := (some X.2.2.2.2.2.2.1)) 0 rfl dL_law_568 ?_
    refine rt_iload_n (pc := 569) (k0 := 3) (x := a3) 3 rfl dL_law_569 ?_
    refine rt_iconst (pc := 570) (n := 1) (v := (1 : Int32)) (by decide) dL_law_570 ?_
    refine rt_iadd (pc := 571) (x := a3) (z := (1 : Int32)) dL_law_571 ?_
    by_cases c110 : (a3 + (1 : Int32)) < 0 ∨ X.2.2.2.2.2.2.2.1 ≤ ((a3 + (1 : Int32))).toNatClampNeg
    · rw [if_pos c110] at hf; cases hf
    rw [if_neg c110] at hf
    refine rt_sld (pc := 572) (i := (a3 + (1 : Int32))) rfl dL_law_572 c110 ?_
    refine rt_i2l (pc := 573) (x := (X.2.2.2.2.2.2.2.2 ((a3 + (1 : Int32))).toNatClampNeg)) dL_law_573 ?_
    refine rt_bipush (pc := 574) (n := 32) (v := (32 : Int32)) (by decide) dL_law_574 ?_
    refine rt_lshl (pc := 576) (x := ((X.2.2.2.2.2.2.2.2 ((a3 + (1 : Int32))).toNatClampNeg)).toInt64) (z := (32 : Int32)) dL_law_576 ?_
    refine rt_aload_n (pc := 577) (k0 := 0) (x := (some X.2.2.2.2.2.2.1)) 0 rfl dL_law_577 ?_
    refine rt_iload_n (pc := 578) (k0 := 3) (x := a3) 3 rfl dL_law_578 ?_
    refine rt_iconst (pc := 579) (n := 2) (v := (2 : Int32)) (by decide) dL_law_579 ?_
    refine rt_iadd (pc := 580) (x := a3) (z := (2 : Int32)) dL_law_580 ?_
    by_cases c111 : (a3 + (2 : Int32)) < 0 ∨ X.2.2.2.2.2.2.2.1 ≤ ((a3 + (2 : Int32))).toNatClampNeg
    · rw [if_pos c111] at hf; cases hf
    rw [if_neg c111] at hf
    refine rt_sld (pc := 581) (i := (a3 + (2 : Int32))) rfl dL_law_581 c111 ?_
    refine rt_i2l (pc := 582) (x := (X.2.2.2.2.2.2.2.2 ((a3 + (2 : Int32))).toNatClampNeg)) dL_law_582 ?_
    refine rt_ldc2 (pc := 583) wj_L_13 dL_law_583 ?_
    refine rt_land (pc := 586) (x := ((X.2.2.2.2.2.2.2.2 ((a3 + (2 : Int32))).toNatClampNeg)).toInt64) (z := (4294967295 : Int64)) dL_law_586 ?_
    refine rt_lor (pc := 587) (x := (((X.2.2.2.2.2.2.2.2 ((a3 + (1 : Int32))).toNatClampNeg)).toInt64 <<< ((32 : Int32).toInt64 &&& 63))) (z := (((X.2.2.2.2.2.2.2.2 ((a3 + (2 : Int32))).toNatClampNeg)).toInt64 &&& (4294967295 : Int64))) dL_law_587 ?_
    refine rt_aload_n (pc := 588) (k0 := 0) (x := (some X.2.2.2.2.2.2.1)) 0 rfl dL_law_588 ?_
    refine rt_iload_n (pc := 589) (k0 := 3) (x := a3) 3 rfl dL_law_589 ?_
    refine rt_iconst (pc := 590) (n := 3) (v := (3 : Int32)) (by decide) dL_law_590 ?_
    refine rt_iadd (pc := 591) (x := a3) (z := (3 : Int32)) dL_law_591 ?_
    by_cases c112 : (a3 + (3 : Int32)) < 0 ∨ X.2.2.2.2.2.2.2.1 ≤ ((a3 + (3 : Int32))).toNatClampNeg
    · rw [if_pos c112] at hf; cases hf
    rw [if_neg c112] at hf
    refine rt_sld (pc := 592) (i := (a3 + (3 : Int32))) rfl dL_law_592 c112 ?_
    refine rt_i2l (pc := 593) (x := (X.2.2.2.2.2.2.2.2 ((a3 + (3 : Int32))).toNatClampNeg)) dL_law_593 ?_
    refine rt_bipush (pc := 594) (n := 32) (v := (32 : Int32)) (by decide) dL_law_594 ?_
    refine rt_lshl (pc := 596) (x := ((X.2.2.2.2.2.2.2.2 ((a3 + (3 : Int32))).toNatClampNeg)).toInt64) (z := (32 : Int32)) dL_law_596 ?_
    refine rt_aload_n (pc := 597) (k0 := 0) (x := (some X.2.2.2.2.2.2.1)) 0 rfl dL_law_597 ?_
    refine rt_iload_n (pc := 598) (k0 := 3) (x := a3) 3 rfl dL_law_598 ?_
    refine rt_iconst (pc := 599) (n := 4) (v := (4 : Int32)) (by decide) dL_law_599 ?_
    refine rt_iadd (pc := 600) (x := a3) (z := (4 : Int32)) dL_law_600 ?_
    by_cases c113 : (a3 + (4 : Int32)) < 0 ∨ X.2.2.2.2.2.2.2.1 ≤ ((a3 + (4 : Int32))).toNatClampNeg
    · rw [if_pos c113] at hf; cases hf
    rw [if_neg c113] at hf
    refine rt_sld (pc := 601) (i := (a3 + (4 : Int32))) rfl dL_law_601 c113 ?_
    refine rt_i2l (pc := 602) (x := (X.2.2.2.2.2.2.2.2 ((a3 + (4 : Int32))).toNatClampNeg)) dL_law_602 ?_
    refine rt_ldc2 (pc := 603) wj_L_13 dL_law_603 ?_
    refine rt_land (pc := 606) (x := ((X.2.2.2.2.2.2.2.2 ((a3 + (4 : Int32))).toNatClampNeg)).toInt64) (z := (4294967295 : Int64)) dL_law_606 ?_
    refine rt_lor (pc := 607) (x := (((X.2.2.2.2.2.2.2.2 ((a3 + (3 : Int32))).toNatClampNeg)).toInt64 <<< ((32 : Int32).toInt64 &&& 63))) (z := (((X.2.2.2.2.2.2.2.2 ((a3 + (4 : Int32))).toNatClampNeg)).toInt64 &&& (4294967295 : Int64))) dL_law_607 ?_
    obtain ⟨v116, w115, e114, hf⟩ := ob2_of hf
    have g117 := sX10_sweep d (by omega) e114
    refine rt_callV (pc := 608) (As := [.long ((((X.2.2.2.2.2.2.2.2 ((a3 + (1 : Int32))).toNatClampNeg)).toInt64 <<< ((32 : Int32).toInt64 &&& 63)) ||| (((X.2.2.2.2.2.2.2.2 ((a3 + (2 : Int32))).toNatClampNeg)).toInt64 &&& (4294967295 : Int64))), .long ((((X.2.2.2.2.2.2.2.2 ((a3 + (3 : Int32))).toNatClampNeg)).toInt64 <<< ((32 : Int32).toInt64 &&& 63)) ||| (((X.2.2.2.2.2.2.2.2 ((a3 + (4 : Int32))).toNatClampNeg)).toInt64 &&& (4294967295 : Int64)))]) (st := [.int v108]) me_X10_sweep mi_X10_sweep wl_L_50 dL_law_608 rfl (by simp [rt_cat, cat_i, cat_l]) rfl g117.1 g117.2 ?_
    by_cases c118 : v108 = v116
    · rw [if_pos c118] at hf
      refine rt_icmp_eq_p (pc := 611) (x := v108) (z := v116) (tgt := 1381) (by decide) dL_law_611 c118 ?_
      exact rL_law_1381 hd ih hf
    rw [if_neg c118] at hf
    refine rt_icmp_eq_n (pc := 611) (x := v108) (z := v116) (tgt := 1381) (by decide) dL_law_611 c118 ?_
    refine rt_iconst (pc := 614) (n := 0) (v := (0 : Int32)) (by decide) dL_law_614 ?_
    cases hf
    exact rt_ret (pc := 615) dL_law_615 rfl
  rw [if_neg c101] at hf
  by_cases c119 : ((X.2.2.2.2.2.2.2.2 (a3).toNatClampNeg) &&& (63 : Int32)) = 8
  · rw [if_pos c119] at hf
    refine rt_tableIn (pc := 32) (x := ((X.2.2.2.2.2.2.2.2 (a3).toNatClampNeg) &&& (63 : Int32))) (off := 584) (tgt := 616) dL_law_32 (by rw [c119]; decide) (by rw [c119]; decide) (by rw [c119]; rfl) (by decide) ?_
    refine rt_aload_n (pc := 616) (k0 := 1) (x := a1) 1 rfl dL_law_616 ?_
    refine rt_aload_n (pc := 617) (k0 := 0) (x := (some X.2.2.2.2.2.2.1)) 0 rfl dL_law_617 ?_
    refine rt_iload_n (pc := 618) (k0 := 3) (x := a3) 3 rfl dL_law_618 ?_
    refine rt_iconst (pc := 619) (n := 1) (v := (1 : Int32)) (by decide) dL_law_619 ?_
    refine rt_iadd (pc := 620) (x := a3) (z := (1 : Int32)) dL_law_620 ?_
    by_cases c120 : (a3 + (1 : Int32)) < 0 ∨ X.2.2.2.2.2.2.2.1 ≤ ((a3 + (1 : Int32))).toNatClampNeg
    · rw [if_pos c120] at hf; cases hf
    rw [if_neg c120] at hf
    refine rt_sld (pc := 621) (i := (a3 + (1 : Int32))) rfl dL_law_621 c120 ?_
    refine rt_i2l (pc := 622) (x := (X.2.2.2.2.2.2.2.2 ((a3 + (1 : Int32))).toNatClampNeg)) dL_law_622 ?_
    refine rt_bipush (pc := 623) (n := 32) (v := (32 : Int32)) (by decide) dL_law_623 ?_
    refine rt_lshl (pc := 625) (x := ((X.2.2.2.2.2.2.2.2 ((a3 + (1 : Int32))).toNatClampNeg)).toInt64) (z := (32 : Int32)) dL_law_625 ?_
    refine rt_aload_n (pc := 626) (k0 := 0) (x := (some X.2.2.2.2.2.2.1)) 0 rfl dL_law_626 ?_
    refine rt_iload_n (pc := 627) (k0 := 3) (x := a3) 3 rfl dL_law_627 ?_
    refine rt_iconst (pc := 628) (n := 2) (v := (2 : Int32)) (by decide) dL_law_628 ?_
    refine rt_iadd (pc := 629) (x := a3) (z := (2 : Int32)) dL_law_629 ?_
    by_cases c121 : (a3 + (2 : Int32)) < 0 ∨ X.2.2.2.2.2.2.2.1 ≤ ((a3 + (2 : Int32))).toNatClampNeg
    · rw [if_pos c121] at hf; cases hf
    rw [if_neg c121] at hf
    refine rt_sld (pc := 630) (i := (a3 + (2 : Int32))) rfl dL_law_630 c121 ?_
    refine rt_i2l (pc := 631) (x := (X.2.2.2.2.2.2.2.2 ((a3 + (2 : Int32))).toNatClampNeg)) dL_law_631 ?_
    refine rt_ldc2 (pc := 632) wj_L_13 dL_law_632 ?_
    refine rt_land (pc := 635) (x := ((X.2.2.2.2.2.2.2.2 ((a3 + (2 : Int32))).toNatClampNeg)).toInt64) (z := (4294967295 : Int64)) dL_law_635 ?_
    refine rt_lor (pc := 636) (x := (((X.2.2.2.2.2.2.2.2 ((a3 + (1 : Int32))).toNatClampNeg)).toInt64 <<< ((32 : Int32).toInt64 &&& 63))) (z := (((X.2.2.2.2.2.2.2.2 ((a3 + (2 : Int32))).toNatClampNeg)).toInt64 &&& (4294967295 : Int64))) dL_law_636 ?_
    obtain ⟨v124, w123, e122, hf⟩ := ob2_of hf
    have g125 := sX9_get d (by omega) e122
    refine rt_callV (pc := 637) (As := [.long ((((X.2.2.2.2.2.2.2.2 ((a3 + (1 : Int32))).toNatClampNeg)).toInt64 <<< ((32 : Int32).toInt64 &&& 63)) ||| (((X.2.2.2.2.2.2.2.2 ((a3 + (2 : Int32))).toNatClampNeg)).toInt64 &&& (4294967295 : Int64)))]) (st := []) me_X9_get mi_X9_get wl_L_51 dL_law_637 rfl (by decide) rfl g125.1 g125.2 ?_
    refine rt_aload_n (pc := 640) (k0 := 2) (x := a2) 2 rfl dL_law_640 ?_
    refine rt_aload_n (pc := 641) (k0 := 0) (x := (some X.2.2.2.2.2.2.1)) 0 rfl dL_law_641 ?_
    refine rt_iload_n (pc := 642) (k0 := 3) (x := a3) 3 rfl dL_law_642 ?_
    refine rt_iconst (pc := 643) (n := 1) (v := (1 : Int32)) (by decide) dL_law_643 ?_
    refine rt_iadd (pc := 644) (x := a3) (z := (1 : Int32)) dL_law_644 ?_
    by_cases c126 : (a3 + (1 : Int32)) < 0 ∨ X.2.2.2.2.2.2.2.1 ≤ ((a3 + (1 : Int32))).toNatClampNeg
    · rw [if_pos c126] at hf; cases hf
    rw [if_neg c126] at hf
    refine rt_sld (pc := 645) (i := (a3 + (1 : Int32))) rfl dL_law_645 c126 ?_
    refine rt_i2l (pc := 646) (x := (X.2.2.2.2.2.2.2.2 ((a3 + (1 : Int32))).toNatClampNeg)) dL_law_646 ?_
    refine rt_bipush (pc := 647) (n := 32) (v := (32 : Int32)) (by decide) dL_law_647 ?_
    refine rt_lshl (pc := 649) (x := ((X.2.2.2.2.2.2.2.2 ((a3 + (1 : Int32))).toNatClampNeg)).toInt64) (z := (32 : Int32)) dL_law_649 ?_
    refine rt_aload_n (pc := 650) (k0 := 0) (x := (some X.2.2.2.2.2.2.1)) 0 rfl dL_law_650 ?_
    refine rt_iload_n (pc := 651) (k0 := 3) (x := a3) 3 rfl dL_law_651 ?_
    refine rt_iconst (pc := 652) (n := 2) (v := (2 : Int32)) (by decide) dL_law_652 ?_
    refine rt_iadd (pc := 653) (x := a3) (z := (2 : Int32)) dL_law_653 ?_
    by_cases c127 : (a3 + (2 : Int32)) < 0 ∨ X.2.2.2.2.2.2.2.1 ≤ ((a3 + (2 : Int32))).toNatClampNeg
    · rw [if_pos c127] at hf; cases hf
    rw [if_neg c127] at hf
    refine rt_sld (pc := 654) (i := (a3 + (2 : Int32))) rfl dL_law_654 c127 ?_
    refine rt_i2l (pc := 655) (x := (X.2.2.2.2.2.2.2.2 ((a3 + (2 : Int32))).toNatClampNeg)) dL_law_655 ?_
    refine rt_ldc2 (pc := 656) wj_L_13 dL_law_656 ?_
    refine rt_land (pc := 659) (x := ((X.2.2.2.2.2.2.2.2 ((a3 + (2 : Int32))).toNatClampNeg)).toInt64) (z := (4294967295 : Int64)) dL_law_659 ?_
    refine rt_lor (pc := 660) (x := (((X.2.2.2.2.2.2.2.2 ((a3 + (1 : Int32))).toNatClampNeg)).toInt64 <<< ((32 : Int32).toInt64 &&& 63))) (z := (((X.2.2.2.2.2.2.2.2 ((a3 + (2 : Int32))).toNatClampNeg)).toInt64 &&& (4294967295 : Int64))) dL_law_660 ?_
    obtain ⟨v130, w129, e128, hf⟩ := ob2_of hf
    have g131 := sX10_get d (by omega) e128
    refine rt_callV (pc := 661) (As := [.long ((((X.2.2.2.2.2.2.2.2 ((a3 + (1 : Int32))).toNatClampNeg)).toInt64 <<< ((32 : Int32).toInt64 &&& 63)) ||| (((X.2.2.2.2.2.2.2.2 ((a3 + (2 : Int32))).toNatClampNeg)).toInt64 &&& (4294967295 : Int64)))]) (st := [.int v124]) me_X10_get mi_X10_get wl_L_54 dL_law_661 rfl (by simp [rt_cat, cat_i, cat_l]) rfl g131.1 g131.2 ?_
    by_cases c132 : v124 = v130
    · rw [if_pos c132] at hf
      refine rt_icmp_eq_p (pc := 664) (x := v124) (z := v130) (tgt := 1381) (by decide) dL_law_664 c132 ?_
      exact rL_law_1381 hd ih hf
    rw [if_neg c132] at hf
    refine rt_icmp_eq_n (pc := 664) (x := v124) (z := v130) (tgt := 1381) (by decide) dL_law_664 c132 ?_
    refine rt_iconst (pc := 667) (n := 0) (v := (0 : Int32)) (by decide) dL_law_667 ?_
    cases hf
    exact rt_ret (pc := 668) dL_law_668 rfl
  rw [if_neg c119] at hf
  by_cases c133 : ((X.2.2.2.2.2.2.2.2 (a3).toNatClampNeg) &&& (63 : Int32)) = 9
  · rw [if_pos c133] at hf
    refine rt_tableIn (pc := 32) (x := ((X.2.2.2.2.2.2.2.2 (a3).toNatClampNeg) &&& (63 : Int32))) (off := 637) (tgt := 669) dL_law_32 (by rw [c133]; decide) (by rw [c133]; decide) (by rw [c133]; rfl) (by decide) ?_
    refine rt_aload_n (pc := 669) (k0 := 1) (x := a1) 1 rfl dL_law_669 ?_
    refine rt_aload_n (pc := 670) (k0 := 0) (x := (some X.2.2.2.2.2.2.1)) 0 rfl dL_law_670 ?_
    refine rt_iload_n (pc := 671) (k0 := 3) (x := a3) 3 rfl dL_law_671 ?_
    refine rt_iconst (pc := 672) (n := 1) (v := (1 : Int32)) (by decide) dL_law_672 ?_
    refine rt_iadd (pc := 673) (x := a3) (z := (1 : Int32)) dL_law_673 ?_
    by_cases c134 : (a3 + (1 : Int32)) < 0 ∨ X.2.2.2.2.2.2.2.1 ≤ ((a3 + (1 : Int32))).toNatClampNeg
    · rw [if_pos c134] at hf; cases hf
    rw [if_neg c134] at hf
    refine rt_sld (pc := 674) (i := (a3 + (1 : Int32))) rfl dL_law_674 c134 ?_
    refine rt_i2l (pc := 675) (x := (X.2.2.2.2.2.2.2.2 ((a3 + (1 : Int32))).toNatClampNeg)) dL_law_675 ?_
    refine rt_bipush (pc := 676) (n := 32) (v := (32 : Int32)) (by decide) dL_law_676 ?_
    refine rt_lshl (pc := 678) (x := ((X.2.2.2.2.2.2.2.2 ((a3 + (1 : Int32))).toNatClampNeg)).toInt64) (z := (32 : Int32)) dL_law_678 ?_
    refine rt_aload_n (pc := 679) (k0 := 0) (x := (some X.2.2.2.2.2.2.1)) 0 rfl dL_law_679 ?_
    refine rt_iload_n (pc := 680) (k0 := 3) (x := a3) 3 rfl dL_law_680 ?_
    refine rt_iconst (pc := 681) (n := 2) (v := (2 : Int32)) (by decide) dL_law_681 ?_
    refine rt_iadd (pc := 682) (x := a3) (z := (2 : Int32)) dL_law_682 ?_
    by_cases c135 : (a3 + (2 : Int32)) < 0 ∨ X.2.2.2.2.2.2.2.1 ≤ ((a3 + (2 : Int32))).toNatClampNeg
    · rw [if_pos c135] at hf; cases hf
    rw [if_neg c135] at hf
    refine rt_sld (pc := 683) (i := (a3 + (2 : Int32))) rfl dL_law_683 c135 ?_
    refine rt_i2l (pc := 684) (x := (X.2.2.2.2.2.2.2.2 ((a3 + (2 : Int32))).toNatClampNeg)) dL_law_684 ?_
    refine rt_ldc2 (pc := 685) wj_L_13 dL_law_685 ?_
    refine rt_land (pc := 688) (x := ((X.2.2.2.2.2.2.2.2 ((a3 + (2 : Int32))).toNatClampNeg)).toInt64) (z := (4294967295 : Int64)) dL_law_688 ?_
    refine rt_lor (pc := 689) (x := (((X.2.2.2.2.2.2.2.2 ((a3 + (1 : Int32))).toNatClampNeg)).toInt64 <<< ((32 : Int32).toInt64 &&& 63))) (z := (((X.2.2.2.2.2.2.2.2 ((a3 + (2 : Int32))).toNatClampNeg)).toInt64 &&& (4294967295 : Int64))) dL_law_689 ?_
    obtain ⟨v138, w137, e136, hf⟩ := ob2_of hf
    have g139 := sX9_has d (by omega) e136
    refine rt_callV (pc := 690) (As := [.long ((((X.2.2.2.2.2.2.2.2 ((a3 + (1 : Int32))).toNatClampNeg)).toInt64 <<< ((32 : Int32).toInt64 &&& 63)) ||| (((X.2.2.2.2.2.2.2.2 ((a3 + (2 : Int32))).toNatClampNeg)).toInt64 &&& (4294967295 : Int64)))]) (st := []) me_X9_has mi_X9_has wl_L_55 dL_law_690 rfl (by decide) rfl g139.1 g139.2 ?_
    refine rt_aload_n (pc := 693) (k0 := 2) (x := a2) 2 rfl dL_law_693 ?_
    refine rt_aload_n (pc := 694) (k0 := 0) (x := (some X.2.2.2.2.2.2.1)) 0 rfl dL_law_694 ?_
    refine rt_iload_n (pc := 695) (k0 := 3) (x := a3) 3 rfl dL_law_695 ?_
    refine rt_iconst (pc := 696) (n := 1) (v := (1 : Int32)) (by decide) dL_law_696 ?_
    refine rt_iadd (pc := 697) (x := a3) (z := (1 : Int32)) dL_law_697 ?_
    by_cases c140 : (a3 + (1 : Int32)) < 0 ∨ X.2.2.2.2.2.2.2.1 ≤ ((a3 + (1 : Int32))).toNatClampNeg
    · rw [if_pos c140] at hf; cases hf
    rw [if_neg c140] at hf
    refine rt_sld (pc := 698) (i := (a3 + (1 : Int32))) rfl dL_law_698 c140 ?_
    refine rt_i2l (pc := 699) (x := (X.2.2.2.2.2.2.2.2 ((a3 + (1 : Int32))).toNatClampNeg)) dL_law_699 ?_
    refine rt_bipush (pc := 700) (n := 32) (v := (32 : Int32)) (by decide) dL_law_700 ?_
    refine rt_lshl (pc := 702) (x := ((X.2.2.2.2.2.2.2.2 ((a3 + (1 : Int32))).toNatClampNeg)).toInt64) (z := (32 : Int32)) dL_law_702 ?_
    refine rt_aload_n (pc := 703) (k0 := 0) (x := (some X.2.2.2.2.2.2.1)) 0 rfl dL_law_703 ?_
    refine rt_iload_n (pc := 704) (k0 := 3) (x := a3) 3 rfl dL_law_704 ?_
    refine rt_iconst (pc := 705) (n := 2) (v := (2 : Int32)) (by decide) dL_law_705 ?_
    refine rt_iadd (pc := 706) (x := a3) (z := (2 : Int32)) dL_law_706 ?_
    by_cases c141 : (a3 + (2 : Int32)) < 0 ∨ X.2.2.2.2.2.2.2.1 ≤ ((a3 + (2 : Int32))).toNatClampNeg
    · rw [if_pos c141] at hf; cases hf
    rw [if_neg c141] at hf
    refine rt_sld (pc := 707) (i := (a3 + (2 : Int32))) rfl dL_law_707 c141 ?_
    refine rt_i2l (pc := 708) (x := (X.2.2.2.2.2.2.2.2 ((a3 + (2 : Int32))).toNatClampNeg)) dL_law_708 ?_
    refine rt_ldc2 (pc := 709) wj_L_13 dL_law_709 ?_
    refine rt_land (pc := 712) (x := ((X.2.2.2.2.2.2.2.2 ((a3 + (2 : Int32))).toNatClampNeg)).toInt64) (z := (4294967295 : Int64)) dL_law_712 ?_
    refine rt_lor (pc := 713) (x := (((X.2.2.2.2.2.2.2.2 ((a3 + (1 : Int32))).toNatClampNeg)).toInt64 <<< ((32 : Int32).toInt64 &&& 63))) (z := (((X.2.2.2.2.2.2.2.2 ((a3 + (2 : Int32))).toNatClampNeg)).toInt64 &&& (4294967295 : Int64))) dL_law_713 ?_
    obtain ⟨v144, w143, e142, hf⟩ := ob2_of hf
    have g145 := sX10_has d (by omega) e142
    refine rt_callV (pc := 714) (As := [.long ((((X.2.2.2.2.2.2.2.2 ((a3 + (1 : Int32))).toNatClampNeg)).toInt64 <<< ((32 : Int32).toInt64 &&& 63)) ||| (((X.2.2.2.2.2.2.2.2 ((a3 + (2 : Int32))).toNatClampNeg)).toInt64 &&& (4294967295 : Int64)))]) (st := [.int v138]) me_X10_has mi_X10_has wl_L_58 dL_law_714 rfl (by simp [rt_cat, cat_i, cat_l]) rfl g145.1 g145.2 ?_
    by_cases c146 : v138 = v144
    · rw [if_pos c146] at hf
      refine rt_icmp_eq_p (pc := 717) (x := v138) (z := v144) (tgt := 1381) (by decide) dL_law_717 c146 ?_
      exact rL_law_1381 hd ih hf
    rw [if_neg c146] at hf
    refine rt_icmp_eq_n (pc := 717) (x := v138) (z := v144) (tgt := 1381) (by decide) dL_law_717 c146 ?_
    refine rt_iconst (pc := 720) (n := 0) (v := (0 : Int32)) (by decide) dL_law_720 ?_
    cases hf
    exact rt_ret (pc := 721) dL_law_721 rfl
  rw [if_neg c133] at hf
  by_cases c147 : ((X.2.2.2.2.2.2.2.2 (a3).toNatClampNeg) &&& (63 : Int32)) = 10
  · rw [if_pos c147] at hf
    refine rt_tableIn (pc := 32) (x := ((X.2.2.2.2.2.2.2.2 (a3).toNatClampNeg) &&& (63 : Int32))) (off := 690) (tgt := 722) dL_law_32 (by rw [c147]; decide) (by rw [c147]; decide) (by rw [c147]; rfl) (by decide) ?_
    refine rt_aload_n (pc := 722) (k0 := 1) (x := a1) 1 rfl dL_law_722 ?_
    refine rt_aload_n (pc := 723) (k0 := 0) (x := (some X.2.2.2.2.2.2.1)) 0 rfl dL_law_723 ?_
    refine rt_iload_n (pc := 724) (k0 := 3) (x := a3) 3 rfl dL_law_724 ?_
    refine rt_iconst (pc := 725) (n := 1) (v := (1 : Int32)) (by decide) dL_law_725 ?_
    refine rt_iadd (pc := 726) (x := a3) (z := (1 : Int32)) dL_law_726 ?_
    by_cases c148 : (a3 + (1 : Int32)) < 0 ∨ X.2.2.2.2.2.2.2.1 ≤ ((a3 + (1 : Int32))).toNatClampNeg
    · rw [if_pos c148] at hf; cases hf
    rw [if_neg c148] at hf
    refine rt_sld (pc := 727) (i := (a3 + (1 : Int32))) rfl dL_law_727 c148 ?_
    refine rt_i2l (pc := 728) (x := (X.2.2.2.2.2.2.2.2 ((a3 + (1 : Int32))).toNatClampNeg)) dL_law_728 ?_
    refine rt_bipush (pc := 729) (n := 32) (v := (32 : Int32)) (by decide) dL_law_729 ?_
    refine rt_lshl (pc := 731) (x := ((X.2.2.2.2.2.2.2.2 ((a3 + (1 : Int32))).toNatClampNeg)).toInt64) (z := (32 : Int32)) dL_law_731 ?_
    refine rt_aload_n (pc := 732) (k0 := 0) (x := (some X.2.2.2.2.2.2.1)) 0 rfl dL_law_732 ?_
    refine rt_iload_n (pc := 733) (k0 := 3) (x := a3) 3 rfl dL_law_733 ?_
    refine rt_iconst (pc := 734) (n := 2) (v := (2 : Int32)) (by decide) dL_law_734 ?_
    refine rt_iadd (pc := 735) (x := a3) (z := (2 : Int32)) dL_law_735 ?_
    by_cases c149 : (a3 + (2 : Int32)) < 0 ∨ X.2.2.2.2.2.2.2.1 ≤ ((a3 + (2 : Int32))).toNatClampNeg
    · rw [if_pos c149] at hf; cases hf
    rw [if_neg c149] at hf
    refine rt_sld (pc := 736) (i := (a3 + (2 : Int32))) rfl dL_law_736 c149 ?_
    refine rt_i2l (pc := 737) (x := (X.2.2.2.2.2.2.2.2 ((a3 + (2 : Int32))).toNatClampNeg)) dL_law_737 ?_
    refine rt_ldc2 (pc := 738) wj_L_13 dL_law_738 ?_
    refine rt_land (pc := 741) (x := ((X.2.2.2.2.2.2.2.2 ((a3 + (2 : Int32))).toNatClampNeg)).toInt64) (z := (4294967295 : Int64)) dL_law_741 ?_
    refine rt_lor (pc := 742) (x := (((X.2.2.2.2.2.2.2.2 ((a3 + (1 : Int32))).toNatClampNeg)).toInt64 <<< ((32 : Int32).toInt64 &&& 63))) (z := (((X.2.2.2.2.2.2.2.2 ((a3 + (2 : Int32))).toNatClampNeg)).toInt64 &&& (4294967295 : Int64))) dL_law_742 ?_
    obtain ⟨v152, w151, e150, hf⟩ := ob2_of hf
    have g153 := sX9_next d (by omega) e150
    refine rt_callV (pc := 743) (As := [.long ((((X.2.2.2.2.2.2.2.2 ((a3 + (1 : Int32))).toNatClampNeg)).toInt64 <<< ((32 : Int32).toInt64 &&& 63)) ||| (((X.2.2.2.2.2.2.2.2 ((a3 + (2 : Int32))).toNatClampNeg)).toInt64 &&& (4294967295 : Int64)))]) (st := []) me_X9_next mi_X9_next wl_L_59 dL_law_743 rfl (by decide) rfl g153.1 g153.2 ?_
    refine rt_aload_n (pc := 746) (k0 := 2) (x := a2) 2 rfl dL_law_746 ?_
    refine rt_aload_n (pc := 747) (k0 := 0) (x := (some X.2.2.2.2.2.2.1)) 0 rfl dL_law_747 ?_
    refine rt_iload_n (pc := 748) (k0 := 3) (x := a3) 3 rfl dL_law_748 ?_
    refine rt_iconst (pc := 749) (n := 1) (v := (1 : Int32)) (by decide) dL_law_749 ?_
    refine rt_iadd (pc := 750) (x := a3) (z := (1 : Int32)) dL_law_750 ?_
    by_cases c154 : (a3 + (1 : Int32)) < 0 ∨ X.2.2.2.2.2.2.2.1 ≤ ((a3 + (1 : Int32))).toNatClampNeg
    · rw [if_pos c154] at hf; cases hf
    rw [if_neg c154] at hf
    refine rt_sld (pc := 751) (i := (a3 + (1 : Int32))) rfl dL_law_751 c154 ?_
    refine rt_i2l (pc := 752) (x := (X.2.2.2.2.2.2.2.2 ((a3 + (1 : Int32))).toNatClampNeg)) dL_law_752 ?_
    refine rt_bipush (pc := 753) (n := 32) (v := (32 : Int32)) (by decide) dL_law_753 ?_
    refine rt_lshl (pc := 755) (x := ((X.2.2.2.2.2.2.2.2 ((a3 + (1 : Int32))).toNatClampNeg)).toInt64) (z := (32 : Int32)) dL_law_755 ?_
    refine rt_aload_n (pc := 756) (k0 := 0) (x := (some X.2.2.2.2.2.2.1)) 0 rfl dL_law_756 ?_
    refine rt_iload_n (pc := 757) (k0 := 3) (x := a3) 3 rfl dL_law_757 ?_
    refine rt_iconst (pc := 758) (n := 2) (v := (2 : Int32)) (by decide) dL_law_758 ?_
    refine rt_iadd (pc := 759) (x := a3) (z := (2 : Int32)) dL_law_759 ?_
    by_cases c155 : (a3 + (2 : Int32)) < 0 ∨ X.2.2.2.2.2.2.2.1 ≤ ((a3 + (2 : Int32))).toNatClampNeg
    · rw [if_pos c155] at hf; cases hf
    rw [if_neg c155] at hf
    refine rt_sld (pc := 760) (i := (a3 + (2 : Int32))) rfl dL_law_760 c155 ?_
    refine rt_i2l (pc := 761) (x := (X.2.2.2.2.2.2.2.2 ((a3 + (2 : Int32))).toNatClampNeg)) dL_law_761 ?_
    refine rt_ldc2 (pc := 762) wj_L_13 dL_law_762 ?_
    refine rt_land (pc := 765) (x := ((X.2.2.2.2.2.2.2.2 ((a3 + (2 : Int32))).toNatClampNeg)).toInt64) (z := (4294967295 : Int64)) dL_law_765 ?_
    refine rt_lor (pc := 766) (x := (((X.2.2.2.2.2.2.2.2 ((a3 + (1 : Int32))).toNatClampNeg)).toInt64 <<< ((32 : Int32).toInt64 &&& 63))) (z := (((X.2.2.2.2.2.2.2.2 ((a3 + (2 : Int32))).toNatClampNeg)).toInt64 &&& (4294967295 : Int64))) dL_law_766 ?_
    obtain ⟨v158, w157, e156, hf⟩ := ob2_of hf
    have g159 := sX10_next d (by omega) e156
    refine rt_callV (pc := 767) (As := [.long ((((X.2.2.2.2.2.2.2.2 ((a3 + (1 : Int32))).toNatClampNeg)).toInt64 <<< ((32 : Int32).toInt64 &&& 63)) ||| (((X.2.2.2.2.2.2.2.2 ((a3 + (2 : Int32))).toNatClampNeg)).toInt64 &&& (4294967295 : Int64)))]) (st := [.int v152]) me_X10_next mi_X10_next wl_L_62 dL_law_767 rfl (by simp [rt_cat, cat_i, cat_l]) rfl g159.1 g159.2 ?_
    by_cases c160 : v152 = v158
    · rw [if_pos c160] at hf
      refine rt_icmp_eq_p (pc := 770) (x := v152) (z := v158) (tgt := 1381) (by decide) dL_law_770 c160 ?_
      exact rL_law_1381 hd ih hf
    rw [if_neg c160] at hf
    refine rt_icmp_eq_n (pc := 770) (x := v152) (z := v158) (tgt := 1381) (by decide) dL_law_770 c160 ?_
    refine rt_iconst (pc := 773) (n := 0) (v := (0 : Int32)) (by decide) dL_law_773 ?_
    cases hf
    exact rt_ret (pc := 774) dL_law_774 rfl
  rw [if_neg c147] at hf
  by_cases c161 : ((X.2.2.2.2.2.2.2.2 (a3).toNatClampNeg) &&& (63 : Int32)) = 11
  · rw [if_pos c161] at hf
    refine rt_tableIn (pc := 32) (x := ((X.2.2.2.2.2.2.2.2 (a3).toNatClampNeg) &&& (63 : Int32))) (off := 743) (tgt := 775) dL_law_32 (by rw [c161]; decide) (by rw [c161]; decide) (by rw [c161]; rfl) (by decide) ?_
    refine rt_aload_n (pc := 775) (k0 := 1) (x := a1) 1 rfl dL_law_775 ?_
    refine rt_aload_n (pc := 776) (k0 := 0) (x := (some X.2.2.2.2.2.2.1)) 0 rfl dL_law_776 ?_
    refine rt_iload_n (pc := 777) (k0 := 3) (x := a3) 3 rfl dL_law_777 ?_
    refine rt_iconst (pc := 778) (n := 1) (v := (1 : Int32)) (by decide) dL_law_778 ?_
    refine rt_iadd (pc := 779) (x := a3) (z := (1 : Int32)) dL_law_779 ?_
    by_cases c162 : (a3 + (1 : Int32)) < 0 ∨ X.2.2.2.2.2.2.2.1 ≤ ((a3 + (1 : Int32))).toNatClampNeg
    · rw [if_pos c162] at hf; cases hf
    rw [if_neg c162] at hf
    refine rt_sld (pc := 780) (i := (a3 + (1 : Int32))) rfl dL_law_780 c162 ?_
    refine rt_i2l (pc := 781) (x := (X.2.2.2.2.2.2.2.2 ((a3 + (1 : Int32))).toNatClampNeg)) dL_law_781 ?_
    refine rt_bipush (pc := 782) (n := 32) (v := (32 : Int32)) (by decide) dL_law_782 ?_
    refine rt_lshl (pc := 784) (x := ((X.2.2.2.2.2.2.2.2 ((a3 + (1 : Int32))).toNatClampNeg)).toInt64) (z := (32 : Int32)) dL_law_784 ?_
    refine rt_aload_n (pc := 785) (k0 := 0) (x := (some X.2.2.2.2.2.2.1)) 0 rfl dL_law_785 ?_
    refine rt_iload_n (pc := 786) (k0 := 3) (x := a3) 3 rfl dL_law_786 ?_
    refine rt_iconst (pc := 787) (n := 2) (v := (2 : Int32)) (by decide) dL_law_787 ?_
    refine rt_iadd (pc := 788) (x := a3) (z := (2 : Int32)) dL_law_788 ?_
    by_cases c163 : (a3 + (2 : Int32)) < 0 ∨ X.2.2.2.2.2.2.2.1 ≤ ((a3 + (2 : Int32))).toNatClampNeg
    · rw [if_pos c163] at hf; cases hf
    rw [if_neg c163] at hf
    refine rt_sld (pc := 789) (i := (a3 + (2 : Int32))) rfl dL_law_789 c163 ?_
    refine rt_i2l (pc := 790) (x := (X.2.2.2.2.2.2.2.2 ((a3 + (2 : Int32))).toNatClampNeg)) dL_law_790 ?_
    refine rt_ldc2 (pc := 791) wj_L_13 dL_law_791 ?_
    refine rt_land (pc := 794) (x := ((X.2.2.2.2.2.2.2.2 ((a3 + (2 : Int32))).toNatClampNeg)).toInt64) (z := (4294967295 : Int64)) dL_law_794 ?_
    refine rt_lor (pc := 795) (x := (((X.2.2.2.2.2.2.2.2 ((a3 + (1 : Int32))).toNatClampNeg)).toInt64 <<< ((32 : Int32).toInt64 &&& 63))) (z := (((X.2.2.2.2.2.2.2.2 ((a3 + (2 : Int32))).toNatClampNeg)).toInt64 &&& (4294967295 : Int64))) dL_law_795 ?_
    obtain ⟨v166, w165, e164, hf⟩ := ob2_of hf
    have g167 := sX9_prior d (by omega) e164
    refine rt_callV (pc := 796) (As := [.long ((((X.2.2.2.2.2.2.2.2 ((a3 + (1 : Int32))).toNatClampNeg)).toInt64 <<< ((32 : Int32).toInt64 &&& 63)) ||| (((X.2.2.2.2.2.2.2.2 ((a3 + (2 : Int32))).toNatClampNeg)).toInt64 &&& (4294967295 : Int64)))]) (st := []) me_X9_prior mi_X9_prior wl_L_63 dL_law_796 rfl (by decide) rfl g167.1 g167.2 ?_
    refine rt_aload_n (pc := 799) (k0 := 2) (x := a2) 2 rfl dL_law_799 ?_
    refine rt_aload_n (pc := 800) (k0 := 0) (x := (some X.2.2.2.2.2.2.1)) 0 rfl dL_law_800 ?_
    refine rt_iload_n (pc := 801) (k0 := 3) (x := a3) 3 rfl dL_law_801 ?_
    refine rt_iconst (pc := 802) (n := 1) (v := (1 : Int32)) (by decide) dL_law_802 ?_
    refine rt_iadd (pc := 803) (x := a3) (z := (1 : Int32)) dL_law_803 ?_
    by_cases c168 : (a3 + (1 : Int32)) < 0 ∨ X.2.2.2.2.2.2.2.1 ≤ ((a3 + (1 : Int32))).toNatClampNeg
    · rw [if_pos c168] at hf; cases hf
    rw [if_neg c168] at hf
    refine rt_sld (pc := 804) (i := (a3 + (1 : Int32))) rfl dL_law_804 c168 ?_
    refine rt_i2l (pc := 805) (x := (X.2.2.2.2.2.2.2.2 ((a3 + (1 : Int32))).toNatClampNeg)) dL_law_805 ?_
    refine rt_bipush (pc := 806) (n := 32) (v := (32 : Int32)) (by decide) dL_law_806 ?_
    refine rt_lshl (pc := 808) (x := ((X.2.2.2.2.2.2.2.2 ((a3 + (1 : Int32))).toNatClampNeg)).toInt64) (z := (32 : Int32)) dL_law_808 ?_
    refine rt_aload_n (pc := 809) (k0 := 0) (x := (some X.2.2.2.2.2.2.1)) 0 rfl dL_law_809 ?_
    refine rt_iload_n (pc := 810) (k0 := 3) (x := a3) 3 rfl dL_law_810 ?_
    refine rt_iconst (pc := 811) (n := 2) (v := (2 : Int32)) (by decide) dL_law_811 ?_
    refine rt_iadd (pc := 812) (x := a3) (z := (2 : Int32)) dL_law_812 ?_
    by_cases c169 : (a3 + (2 : Int32)) < 0 ∨ X.2.2.2.2.2.2.2.1 ≤ ((a3 + (2 : Int32))).toNatClampNeg
    · rw [if_pos c169] at hf; cases hf
    rw [if_neg c169] at hf
    refine rt_sld (pc := 813) (i := (a3 + (2 : Int32))) rfl dL_law_813 c169 ?_
    refine rt_i2l (pc := 814) (x := (X.2.2.2.2.2.2.2.2 ((a3 + (2 : Int32))).toNatClampNeg)) dL_law_814 ?_
    refine rt_ldc2 (pc := 815) wj_L_13 dL_law_815 ?_
    refine rt_land (pc := 818) (x := ((X.2.2.2.2.2.2.2.2 ((a3 + (2 : Int32))).toNatClampNeg)).toInt64) (z := (4294967295 : Int64)) dL_law_818 ?_
    refine rt_lor (pc := 819) (x := (((X.2.2.2.2.2.2.2.2 ((a3 + (1 : Int32))).toNatClampNeg)).toInt64 <<< ((32 : Int32).toInt64 &&& 63))) (z := (((X.2.2.2.2.2.2.2.2 ((a3 + (2 : Int32))).toNatClampNeg)).toInt64 &&& (4294967295 : Int64))) dL_law_819 ?_
    obtain ⟨v172, w171, e170, hf⟩ := ob2_of hf
    have g173 := sX10_prior d (by omega) e170
    refine rt_callV (pc := 820) (As := [.long ((((X.2.2.2.2.2.2.2.2 ((a3 + (1 : Int32))).toNatClampNeg)).toInt64 <<< ((32 : Int32).toInt64 &&& 63)) ||| (((X.2.2.2.2.2.2.2.2 ((a3 + (2 : Int32))).toNatClampNeg)).toInt64 &&& (4294967295 : Int64)))]) (st := [.int v166]) me_X10_prior mi_X10_prior wl_L_66 dL_law_820 rfl (by simp [rt_cat, cat_i, cat_l]) rfl g173.1 g173.2 ?_
    by_cases c174 : v166 = v172
    · rw [if_pos c174] at hf
      refine rt_icmp_eq_p (pc := 823) (x := v166) (z := v172) (tgt := 1381) (by decide) dL_law_823 c174 ?_
      exact rL_law_1381 hd ih hf
    rw [if_neg c174] at hf
    refine rt_icmp_eq_n (pc := 823) (x := v166) (z := v172) (tgt := 1381) (by decide) dL_law_823 c174 ?_
    refine rt_iconst (pc := 826) (n := 0) (v := (0 : Int32)) (by decide) dL_law_826 ?_
    cases hf
    exact rt_ret (pc := 827) dL_law_827 rfl
  rw [if_neg c161] at hf
  by_cases c175 : ((X.2.2.2.2.2.2.2.2 (a3).toNatClampNeg) &&& (63 : Int32)) = 12
  · rw [if_pos c175] at hf
    refine rt_tableIn (pc := 32) (x := ((X.2.2.2.2.2.2.2.2 (a3).toNatClampNeg) &&& (63 : Int32))) (off := 796) (tgt := 828) dL_law_32 (by rw [c175]; decide) (by rw [c175]; decide) (by rw [c175]; rfl) (by decide) ?_
    refine rt_aload_n (pc := 828) (k0 := 1) (x := a1) 1 rfl dL_law_828 ?_
    obtain ⟨v178, w177, e176, hf⟩ := ob2_of hf
    have g179 := sX9_found d (by omega) e176
    refine rt_callV (pc := 829) (As := []) (st := []) me_X9_found mi_X9_found wl_L_67 dL_law_829 rfl (by decide) rfl g179.1 g179.2 ?_
    refine rt_aload_n (pc := 832) (k0 := 2) (x := a2) 2 rfl dL_law_832 ?_
    obtain ⟨v182, w181, e180, hf⟩ := ob2_of hf
    have g183 := sX10_found d (by omega) e180
    refine rt_callV (pc := 833) (As := []) (st := [.long v178]) me_X10_found mi_X10_found wl_L_71 dL_law_833 rfl (by simp [rt_cat, cat_i, cat_l]) rfl g183.1 g183.2 ?_
    by_cases c184 : v178 = v182
    · rw [if_pos c184] at hf
      refine rt_lif_eq_p (pc := 836) (x := v178) (z := v182) (tgt := 1381) (by decide) dL_law_836 dL_law_837 c184 ?_
      exact rL_law_1381 hd ih hf
    rw [if_neg c184] at hf
    refine rt_lif_eq_n (pc := 836) (x := v178) (z := v182) (tgt := 1381) (by decide) dL_law_836 dL_law_837 c184 ?_
    refine rt_iconst (pc := 840) (n := 0) (v := (0 : Int32)) (by decide) dL_law_840 ?_
    cases hf
    exact rt_ret (pc := 841) dL_law_841 rfl
  rw [if_neg c175] at hf
  by_cases c185 : ((X.2.2.2.2.2.2.2.2 (a3).toNatClampNeg) &&& (63 : Int32)) = 13
  · rw [if_pos c185] at hf
    refine rt_tableIn (pc := 32) (x := ((X.2.2.2.2.2.2.2.2 (a3).toNatClampNeg) &&& (63 : Int32))) (off := 810) (tgt := 842) dL_law_32 (by rw [c185]; decide) (by rw [c185]; decide) (by rw [c185]; rfl) (by decide) ?_
    refine rt_aload_n (pc := 842) (k0 := 1) (x := a1) 1 rfl dL_law_842 ?_
    obtain ⟨v188, w187, e186, hf⟩ := ob2_of hf
    have g189 := sX9_count d (by omega) e186
    refine rt_callV (pc := 843) (As := []) (st := []) me_X9_count mi_X9_count wl_L_72 dL_law_843 rfl (by decide) rfl g189.1 g189.2 ?_
    refine rt_aload_n (pc := 846) (k0 := 2) (x := a2) 2 rfl dL_law_846 ?_
    obtain ⟨v192, w191, e190, hf⟩ := ob2_of hf
    have g193 := sX10_count d (by omega) e190
    refine rt_callV (pc := 847) (As := []) (st := [.int v188]) me_X10_count mi_X10_count wl_L_76 dL_law_847 rfl (by simp [rt_cat, cat_i, cat_l]) rfl g193.1 g193.2 ?_
    by_cases c194 : v188 = v192
    · rw [if_pos c194] at hf
      refine rt_icmp_eq_p (pc := 850) (x := v188) (z := v192) (tgt := 1381) (by decide) dL_law_850 c194 ?_
      exact rL_law_1381 hd ih hf
    rw [if_neg c194] at hf
    refine rt_icmp_eq_n (pc := 850) (x := v188) (z := v192) (tgt := 1381) (by decide) dL_law_850 c194 ?_
    refine rt_iconst (pc := 853) (n := 0) (v := (0 : Int32)) (by decide) dL_law_853 ?_
    cases hf
    exact rt_ret (pc := 854) dL_law_854 rfl
  rw [if_neg c185] at hf
  by_cases c195 : ((X.2.2.2.2.2.2.2.2 (a3).toNatClampNeg) &&& (63 : Int32)) = 14
  · rw [if_pos c195] at hf
    refine rt_tableIn (pc := 32) (x := ((X.2.2.2.2.2.2.2.2 (a3).toNatClampNeg) &&& (63 : Int32))) (off := 823) (tgt := 855) dL_law_32 (by rw [c195]; decide) (by rw [c195]; decide) (by rw [c195]; rfl) (by decide) ?_
    refine rt_aload_n (pc := 855) (k0 := 1) (x := a1) 1 rfl dL_law_855 ?_
    obtain ⟨v198, w197, e196, hf⟩ := ob2_of hf
    have g199 := sX9_sink d (by omega) e196
    refine rt_callV (pc := 856) (As := []) (st := []) me_X9_sink mi_X9_sink wl_L_77 dL_law_856 rfl (by decide) rfl g199.1 g199.2 ?_
    refine rt_aload_n (pc := 859) (k0 := 2) (x := a2) 2 rfl dL_law_859 ?_
    obtain ⟨v202, w201, e200, hf⟩ := ob2_of hf
    have g203 := sX10_sink d (by omega) e200
    refine rt_callV (pc := 860) (As := []) (st := [.int v198]) me_X10_sink mi_X10_sink wl_L_80 dL_law_860 rfl (by simp [rt_cat, cat_i, cat_l]) rfl g203.1 g203.2 ?_
    by_cases c204 : v198 = v202
    · rw [if_pos c204] at hf
      refine rt_icmp_eq_p (pc := 863) (x := v198) (z := v202) (tgt := 1381) (by decide) dL_law_863 c204 ?_
      exact rL_law_1381 hd ih hf
    rw [if_neg c204] at hf
    refine rt_icmp_eq_n (pc := 863) (x := v198) (z := v202) (tgt := 1381) (by decide) dL_law_863 c204 ?_
    refine rt_iconst (pc := 866) (n := 0) (v := (0 : Int32)) (by decide) dL_law_866 ?_
    cases hf
    exact rt_ret (pc := 867) dL_law_867 rfl
  rw [if_neg c195] at hf
  by_cases c205 : ((X.2.2.2.2.2.2.2.2 (a3).toNatClampNeg) &&& (63 : Int32)) = 15
  · rw [if_pos c205] at hf
    refine rt_tableIn (pc := 32) (x := ((X.2.2.2.2.2.2.2.2 (a3).toNatClampNeg) &&& (63 : Int32))) (off := 836) (tgt := 868) dL_law_32 (by rw [c205]; decide) (by rw [c205]; decide) (by rw [c205]; rfl) (by decide) ?_
    refine rt_aload_n (pc := 868) (k0 := 1) (x := a1) 1 rfl dL_law_868 ?_
    obtain ⟨v208, w207, e206, hf⟩ := ob2_of hf
    have g209 := sX9_settle d (by omega) e206
    refine rt_callV (pc := 869) (As := []) (st := []) me_X9_settle mi_X9_settle wl_L_81 dL_law_869 rfl (by decide) rfl g209.1 g209.2 ?_
    refine rt_aload_n (pc := 872) (k0 := 2) (x := a2) 2 rfl dL_law_872 ?_
    obtain ⟨v212, w211, e210, hf⟩ := ob2_of hf
    have g213 := sX10_settle d (by omega) e210
    refine rt_callV (pc := 873) (As := []) (st := [.int v208]) me_X10_settle mi_X10_settle wl_L_84 dL_law_873 rfl (by simp [rt_cat, cat_i, cat_l]) rfl g213.1 g213.2 ?_
    by_cases c214 : v208 = v212
    · rw [if_pos c214] at hf
      refine rt_icmp_eq_p (pc := 876) (x := v208) (z := v212) (tgt := 1381) (by decide) dL_law_876 c214 ?_
      exact rL_law_1381 hd ih hf
    rw [if_neg c214] at hf
    refine rt_icmp_eq_n (pc := 876) (x := v208) (z := v212) (tgt := 1381) (by decide) dL_law_876 c214 ?_
    refine rt_iconst (pc := 879) (n := 0) (v := (0 : Int32)) (by decide) dL_law_879 ?_
    cases hf
    exact rt_ret (pc := 880) dL_law_880 rfl
  rw [if_neg c205] at hf
  by_cases c215 : ((X.2.2.2.2.2.2.2.2 (a3).toNatClampNeg) &&& (63 : Int32)) = 16
  · rw [if_pos c215] at hf
    refine rt_tableIn (pc := 32) (x := ((X.2.2.2.2.2.2.2.2 (a3).toNatClampNeg) &&& (63 : Int32))) (off := 849) (tgt := 881) dL_law_32 (by rw [c215]; decide) (by rw [c215]; decide) (by rw [c215]; rfl) (by decide) ?_
    refine rt_aload_n (pc := 881) (k0 := 1) (x := a1) 1 rfl dL_law_881 ?_
    obtain ⟨v218, w217, e216, hf⟩ := ob2_of hf
    have g219 := sX9_pages d (by omega) e216
    refine rt_callV (pc := 882) (As := []) (st := []) me_X9_pages mi_X9_pages wl_L_85 dL_law_882 rfl (by decide) rfl g219.1 g219.2 ?_
    refine rt_aload_n (pc := 885) (k0 := 2) (x := a2) 2 rfl dL_law_885 ?_
    obtain ⟨v222, w221, e220, hf⟩ := ob2_of hf
    have g223 := sX10_pages d (by omega) e220
    refine rt_callV (pc := 886) (As := []) (st := [.int v218]) me_X10_pages mi_X10_pages wl_L_88 dL_law_886 rfl (by simp [rt_cat, cat_i, cat_l]) rfl g223.1 g223.2 ?_
    by_cases c224 : v218 = v222
    · rw [if_pos c224] at hf
      refine rt_icmp_eq_p (pc := 889) (x := v218) (z := v222) (tgt := 1381) (by decide) dL_law_889 c224 ?_
      exact rL_law_1381 hd ih hf
    rw [if_neg c224] at hf
    refine rt_icmp_eq_n (pc := 889) (x := v218) (z := v222) (tgt := 1381) (by decide) dL_law_889 c224 ?_
    refine rt_iconst (pc := 892) (n := 0) (v := (0 : Int32)) (by decide) dL_law_892 ?_
    cases hf
    exact rt_ret (pc := 893) dL_law_893 rfl
  rw [if_neg c215] at hf
  by_cases c225 : ((X.2.2.2.2.2.2.2.2 (a3).toNatClampNeg) &&& (63 : Int32)) = 17
  · rw [if_pos c225] at hf
    refine rt_tableIn (pc := 32) (x := ((X.2.2.2.2.2.2.2.2 (a3).toNatClampNeg) &&& (63 : Int32))) (off := 862) (tgt := 894) dL_law_32 (by rw [c225]; decide) (by rw [c225]; decide) (by rw [c225]; rfl) (by decide) ?_
    refine rt_aload_n (pc := 894) (k0 := 1) (x := a1) 1 rfl dL_law_894 ?_
    obtain ⟨v228, w227, e226, hf⟩ := ob2_of hf
    have g229 := sX9_height d (by omega) e226
    refine rt_callV (pc := 895) (As := []) (st := []) me_X9_height mi_X9_height wl_L_89 dL_law_895 rfl (by decide) rfl g229.1 g229.2 ?_
    refine rt_aload_n (pc := 898) (k0 := 2) (x := a2) 2 rfl dL_law_898 ?_
    obtain ⟨v232, w231, e230, hf⟩ := ob2_of hf
    have g233 := sX10_height d (by omega) e230
    refine rt_callV (pc := 899) (As := []) (st := [.int v228]) me_X10_height mi_X10_height wl_L_92 dL_law_899 rfl (by simp [rt_cat, cat_i, cat_l]) rfl g233.1 g233.2 ?_
    by_cases c234 : v228 = v232
    · rw [if_pos c234] at hf
      refine rt_icmp_eq_p (pc := 902) (x := v228) (z := v232) (tgt := 1381) (by decide) dL_law_902 c234 ?_
      exact rL_law_1381 hd ih hf
    rw [if_neg c234] at hf
    refine rt_icmp_eq_n (pc := 902) (x := v228) (z := v232) (tgt := 1381) (by decide) dL_law_902 c234 ?_
    refine rt_iconst (pc := 905) (n := 0) (v := (0 : Int32)) (by decide) dL_law_905 ?_
    cases hf
    exact rt_ret (pc := 906) dL_law_906 rfl
  rw [if_neg c225] at hf
  by_cases c235 : ((X.2.2.2.2.2.2.2.2 (a3).toNatClampNeg) &&& (63 : Int32)) = 18
  · rw [if_pos c235] at hf
    refine rt_tableIn (pc := 32) (x := ((X.2.2.2.2.2.2.2.2 (a3).toNatClampNeg) &&& (63 : Int32))) (off := 875) (tgt := 907) dL_law_32 (by rw [c235]; decide) (by rw [c235]; decide) (by rw [c235]; rfl) (by decide) ?_
    refine rt_aload_n (pc := 907) (k0 := 1) (x := a1) 1 rfl dL_law_907 ?_
    obtain ⟨v238, w237, e236, hf⟩ := ob2_of hf
    have g239 := sX9_letters d (by omega) e236
    refine rt_callV (pc := 908) (As := []) (st := []) me_X9_letters mi_X9_letters wl_L_93 dL_law_908 rfl (by decide) rfl g239.1 g239.2 ?_
    refine rt_aload_n (pc := 911) (k0 := 2) (x := a2) 2 rfl dL_law_911 ?_
    obtain ⟨v242, w241, e240, hf⟩ := ob2_of hf
    have g243 := sX10_letters d (by omega) e240
    refine rt_callV (pc := 912) (As := []) (st := [.int v238]) me_X10_letters mi_X10_letters wl_L_96 dL_law_912 rfl (by simp [rt_cat, cat_i, cat_l]) rfl g243.1 g243.2 ?_
    by_cases c244 : v238 = v242
    · rw [if_pos c244] at hf
      refine rt_icmp_eq_p (pc := 915) (x := v238) (z := v242) (tgt := 1381) (by decide) dL_law_915 c244 ?_
      exact rL_law_1381 hd ih hf
    rw [if_neg c244] at hf
    refine rt_icmp_eq_n (pc := 915) (x := v238) (z := v242) (tgt := 1381) (by decide) dL_law_915 c244 ?_
    refine rt_iconst (pc := 918) (n := 0) (v := (0 : Int32)) (by decide) dL_law_918 ?_
    cases hf
    exact rt_ret (pc := 919) dL_law_919 rfl
  rw [if_neg c235] at hf
  by_cases c245 : ((X.2.2.2.2.2.2.2.2 (a3).toNatClampNeg) &&& (63 : Int32)) = 19
  · rw [if_pos c245] at hf
    refine rt_tableIn (pc := 32) (x := ((X.2.2.2.2.2.2.2.2 (a3).toNatClampNeg) &&& (63 : Int32))) (off := 888) (tgt := 920) dL_law_32 (by rw [c245]; decide) (by rw [c245]; decide) (by rw [c245]; rfl) (by decide) ?_
    refine rt_aload_n (pc := 920) (k0 := 1) (x := a1) 1 rfl dL_law_920 ?_
    refine rt_aload_n (pc := 921) (k0 := 0) (x := (some X.2.2.2.2.2.2.1)) 0 rfl dL_law_921 ?_
    refine rt_iload_n (pc := 922) (k0 := 3) (x := a3) 3 rfl dL_law_922 ?_
    refine rt_iconst (pc := 923) (n := 1) (v := (1 : Int32)) (by decide) dL_law_923 ?_
    refine rt_iadd (pc := 924) (x := a3) (z := (1 : Int32)) dL_law_924 ?_
    by_cases c246 : (a3 + (1 : Int32)) < 0 ∨ X.2.2.2.2.2.2.2.1 ≤ ((a3 + (1 : Int32))).toNatClampNeg
    · rw [if_pos c246] at hf; cases hf
    rw [if_neg c246] at hf
    refine rt_sld (pc := 925) (i := (a3 + (1 : Int32))) rfl dL_law_925 c246 ?_
    refine rt_aload_n (pc := 926) (k0 := 0) (x := (some X.2.2.2.2.2.2.1)) 0 rfl dL_law_926 ?_
    refine rt_iload_n (pc := 927) (k0 := 3) (x := a3) 3 rfl dL_law_927 ?_
    refine rt_iconst (pc := 928) (n := 2) (v := (2 : Int32)) (by decide) dL_law_928 ?_
    refine rt_iadd (pc := 929) (x := a3) (z := (2 : Int32)) dL_law_929 ?_
    by_cases c247 : (a3 + (2 : Int32)) < 0 ∨ X.2.2.2.2.2.2.2.1 ≤ ((a3 + (2 : Int32))).toNatClampNeg
    · rw [if_pos c247] at hf; cases hf
    rw [if_neg c247] at hf
    refine rt_sld (pc := 930) (i := (a3 + (2 : Int32))) rfl dL_law_930 c247 ?_
    obtain ⟨v250, w249, e248, hf⟩ := ob2_of hf
    have g251 := sX9_page d (by omega) e248
    refine rt_callV (pc := 931) (As := [.int (X.2.2.2.2.2.2.2.2 ((a3 + (1 : Int32))).toNatClampNeg), .int (X.2.2.2.2.2.2.2.2 ((a3 + (2 : Int32))).toNatClampNeg)]) (st := []) me_X9_page mi_X9_page wl_L_97 dL_law_931 rfl (by decide) rfl g251.1 g251.2 ?_
    refine rt_aload_n (pc := 934) (k0 := 2) (x := a2) 2 rfl dL_law_934 ?_
    refine rt_aload_n (pc := 935) (k0 := 0) (x := (some X.2.2.2.2.2.2.1)) 0 rfl dL_law_935 ?_
    refine rt_iload_n (pc := 936) (k0 := 3) (x := a3) 3 rfl dL_law_936 ?_
    refine rt_iconst (pc := 937) (n := 1) (v := (1 : Int32)) (by decide) dL_law_937 ?_
    refine rt_iadd (pc := 938) (x := a3) (z := (1 : Int32)) dL_law_938 ?_
    by_cases c252 : (a3 + (1 : Int32)) < 0 ∨ X.2.2.2.2.2.2.2.1 ≤ ((a3 + (1 : Int32))).toNatClampNeg
    · rw [if_pos c252] at hf; cases hf
    rw [if_neg c252] at hf
    refine rt_sld (pc := 939) (i := (a3 + (1 : Int32))) rfl dL_law_939 c252 ?_
    refine rt_aload_n (pc := 940) (k0 := 0) (x := (some X.2.2.2.2.2.2.1)) 0 rfl dL_law_940 ?_
    refine rt_iload_n (pc := 941) (k0 := 3) (x := a3) 3 rfl dL_law_941 ?_
    refine rt_iconst (pc := 942) (n := 2) (v := (2 : Int32)) (by decide) dL_law_942 ?_
    refine rt_iadd (pc := 943) (x := a3) (z := (2 : Int32)) dL_law_943 ?_
    by_cases c253 : (a3 + (2 : Int32)) < 0 ∨ X.2.2.2.2.2.2.2.1 ≤ ((a3 + (2 : Int32))).toNatClampNeg
    · rw [if_pos c253] at hf; cases hf
    rw [if_neg c253] at hf
    refine rt_sld (pc := 944) (i := (a3 + (2 : Int32))) rfl dL_law_944 c253 ?_
    obtain ⟨v256, w255, e254, hf⟩ := ob2_of hf
    have g257 := sX10_page_ d (by omega) e254
    refine rt_callV (pc := 945) (As := [.int (X.2.2.2.2.2.2.2.2 ((a3 + (1 : Int32))).toNatClampNeg), .int (X.2.2.2.2.2.2.2.2 ((a3 + (2 : Int32))).toNatClampNeg)]) (st := [.int v250]) me_X10_page_ mi_X10_page_ wl_L_101 dL_law_945 rfl (by simp [rt_cat, cat_i, cat_l]) rfl g257.1 g257.2 ?_
    by_cases c258 : v250 = v256
    · rw [if_pos c258] at hf
      refine rt_icmp_eq_p (pc := 948) (x := v250) (z := v256) (tgt := 1381) (by decide) dL_law_948 c258 ?_
      exact rL_law_1381 hd ih hf
    rw [if_neg c258] at hf
    refine rt_icmp_eq_n (pc := 948) (x := v250) (z := v256) (tgt := 1381) (by decide) dL_law_948 c258 ?_
    refine rt_iconst (pc := 951) (n := 0) (v := (0 : Int32)) (by decide) dL_law_951 ?_
    cases hf
    exact rt_ret (pc := 952) dL_law_952 rfl
  rw [if_neg c245] at hf
  by_cases c259 : ((X.2.2.2.2.2.2.2.2 (a3).toNatClampNeg) &&& (63 : Int32)) = 20
  · rw [if_pos c259] at hf
    refine rt_tableIn (pc := 32) (x := ((X.2.2.2.2.2.2.2.2 (a3).toNatClampNeg) &&& (63 : Int32))) (off := 921) (tgt := 953) dL_law_32 (by rw [c259]; decide) (by rw [c259]; decide) (by rw [c259]; rfl) (by decide) ?_
    refine rt_aload_n (pc := 953) (k0 := 1) (x := a1) 1 rfl dL_law_953 ?_
    refine rt_aload_n (pc := 954) (k0 := 0) (x := (some X.2.2.2.2.2.2.1)) 0 rfl dL_law_954 ?_
    refine rt_iload_n (pc := 955) (k0 := 3) (x := a3) 3 rfl dL_law_955 ?_
    refine rt_iconst (pc := 956) (n := 1) (v := (1 : Int32)) (by decide) dL_law_956 ?_
    refine rt_iadd (pc := 957) (x := a3) (z := (1 : Int32)) dL_law_957 ?_
    by_cases c260 : (a3 + (1 : Int32)) < 0 ∨ X.2.2.2.2.2.2.2.1 ≤ ((a3 + (1 : Int32))).toNatClampNeg
    · rw [if_pos c260] at hf; cases hf
    rw [if_neg c260] at hf
    refine rt_sld (pc := 958) (i := (a3 + (1 : Int32))) rfl dL_law_958 c260 ?_
    refine rt_aload_n (pc := 959) (k0 := 0) (x := (some X.2.2.2.2.2.2.1)) 0 rfl dL_law_959 ?_
    refine rt_iload_n (pc := 960) (k0 := 3) (x := a3) 3 rfl dL_law_960 ?_
    refine rt_iconst (pc := 961) (n := 2) (v := (2 : Int32)) (by decide) dL_law_961 ?_
    refine rt_iadd (pc := 962) (x := a3) (z := (2 : Int32)) dL_law_962 ?_
    by_cases c261 : (a3 + (2 : Int32)) < 0 ∨ X.2.2.2.2.2.2.2.1 ≤ ((a3 + (2 : Int32))).toNatClampNeg
    · rw [if_pos c261] at hf; cases hf
    rw [if_neg c261] at hf
    refine rt_sld (pc := 963) (i := (a3 + (2 : Int32))) rfl dL_law_963 c261 ?_
    obtain ⟨v264, w263, e262, hf⟩ := ob2_of hf
    have g265 := sX9_border d (by omega) e262
    refine rt_callV (pc := 964) (As := [.int (X.2.2.2.2.2.2.2.2 ((a3 + (1 : Int32))).toNatClampNeg), .int (X.2.2.2.2.2.2.2.2 ((a3 + (2 : Int32))).toNatClampNeg)]) (st := []) me_X9_border mi_X9_border wl_L_102 dL_law_964 rfl (by decide) rfl g265.1 g265.2 ?_
    refine rt_aload_n (pc := 967) (k0 := 2) (x := a2) 2 rfl dL_law_967 ?_
    refine rt_aload_n (pc := 968) (k0 := 0) (x := (some X.2.2.2.2.2.2.1)) 0 rfl dL_law_968 ?_
    refine rt_iload_n (pc := 969) (k0 := 3) (x := a3) 3 rfl dL_law_969 ?_
    refine rt_iconst (pc := 970) (n := 1) (v := (1 : Int32)) (by decide) dL_law_970 ?_
    refine rt_iadd (pc := 971) (x := a3) (z := (1 : Int32)) dL_law_971 ?_
    by_cases c266 : (a3 + (1 : Int32)) < 0 ∨ X.2.2.2.2.2.2.2.1 ≤ ((a3 + (1 : Int32))).toNatClampNeg
    · rw [if_pos c266] at hf; cases hf
    rw [if_neg c266] at hf
    refine rt_sld (pc := 972) (i := (a3 + (1 : Int32))) rfl dL_law_972 c266 ?_
    refine rt_aload_n (pc := 973) (k0 := 0) (x := (some X.2.2.2.2.2.2.1)) 0 rfl dL_law_973 ?_
    refine rt_iload_n (pc := 974) (k0 := 3) (x := a3) 3 rfl dL_law_974 ?_
    refine rt_iconst (pc := 975) (n := 2) (v := (2 : Int32)) (by decide) dL_law_975 ?_
    refine rt_iadd (pc := 976) (x := a3) (z := (2 : Int32)) dL_law_976 ?_
    by_cases c267 : (a3 + (2 : Int32)) < 0 ∨ X.2.2.2.2.2.2.2.1 ≤ ((a3 + (2 : Int32))).toNatClampNeg
    · rw [if_pos c267] at hf; cases hf
    rw [if_neg c267] at hf
    refine rt_sld (pc := 977) (i := (a3 + (2 : Int32))) rfl dL_law_977 c267 ?_
    obtain ⟨v270, w269, e268, hf⟩ := ob2_of hf
    have g271 := sX10_border d (by omega) e268
    refine rt_callV (pc := 978) (As := [.int (X.2.2.2.2.2.2.2.2 ((a3 + (1 : Int32))).toNatClampNeg), .int (X.2.2.2.2.2.2.2.2 ((a3 + (2 : Int32))).toNatClampNeg)]) (st := [.int v264]) me_X10_border mi_X10_border wl_L_105 dL_law_978 rfl (by simp [rt_cat, cat_i, cat_l]) rfl g271.1 g271.2 ?_
    by_cases c272 : v264 = v270
    · rw [if_pos c272] at hf
      refine rt_icmp_eq_p (pc := 981) (x := v264) (z := v270) (tgt := 1381) (by decide) dL_law_981 c272 ?_
      exact rL_law_1381 hd ih hf
    rw [if_neg c272] at hf
    refine rt_icmp_eq_n (pc := 981) (x := v264) (z := v270) (tgt := 1381) (by decide) dL_law_981 c272 ?_
    refine rt_iconst (pc := 984) (n := 0) (v := (0 : Int32)) (by decide) dL_law_984 ?_
    cases hf
    exact rt_ret (pc := 985) dL_law_985 rfl
  rw [if_neg c259] at hf
  by_cases c273 : ((X.2.2.2.2.2.2.2.2 (a3).toNatClampNeg) &&& (63 : Int32)) = 21
  · rw [if_pos c273] at hf
    refine rt_tableIn (pc := 32) (x := ((X.2.2.2.2.2.2.2.2 (a3).toNatClampNeg) &&& (63 : Int32))) (off := 954) (tgt := 986) dL_law_32 (by rw [c273]; decide) (by rw [c273]; decide) (by rw [c273]; rfl) (by decide) ?_
    refine rt_aload_n (pc := 986) (k0 := 1) (x := a1) 1 rfl dL_law_986 ?_
    refine rt_aload_n (pc := 987) (k0 := 0) (x := (some X.2.2.2.2.2.2.1)) 0 rfl dL_law_987 ?_
    refine rt_iload_n (pc := 988) (k0 := 3) (x := a3) 3 rfl dL_law_988 ?_
    refine rt_iconst (pc := 989) (n := 1) (v := (1 : Int32)) (by decide) dL_law_989 ?_
    refine rt_iadd (pc := 990) (x := a3) (z := (1 : Int32)) dL_law_990 ?_
    by_cases c274 : (a3 + (1 : Int32)) < 0 ∨ X.2.2.2.2.2.2.2.1 ≤ ((a3 + (1 : Int32))).toNatClampNeg
    · rw [if_pos c274] at hf; cases hf
    rw [if_neg c274] at hf
    refine rt_sld (pc := 991) (i := (a3 + (1 : Int32))) rfl dL_law_991 c274 ?_
    refine rt_aload_n (pc := 992) (k0 := 0) (x := (some X.2.2.2.2.2.2.1)) 0 rfl dL_law_992 ?_
    refine rt_iload_n (pc := 993) (k0 := 3) (x := a3) 3 rfl dL_law_993 ?_
    refine rt_iconst (pc := 994) (n := 2) (v := (2 : Int32)) (by decide) dL_law_994 ?_
    refine rt_iadd (pc := 995) (x := a3) (z := (2 : Int32)) dL_law_995 ?_
    by_cases c275 : (a3 + (2 : Int32)) < 0 ∨ X.2.2.2.2.2.2.2.1 ≤ ((a3 + (2 : Int32))).toNatClampNeg
    · rw [if_pos c275] at hf; cases hf
    rw [if_neg c275] at hf
    refine rt_sld (pc := 996) (i := (a3 + (2 : Int32))) rfl dL_law_996 c275 ?_
    refine rt_aload_n (pc := 997) (k0 := 0) (x := (some X.2.2.2.2.2.2.1)) 0 rfl dL_law_997 ?_
    refine rt_iload_n (pc := 998) (k0 := 3) (x := a3) 3 rfl dL_law_998 ?_
    refine rt_iconst (pc := 999) (n := 3) (v := (3 : Int32)) (by decide) dL_law_999 ?_
    refine rt_iadd (pc := 1000) (x := a3) (z := (3 : Int32)) dL_law_1000 ?_
    by_cases c276 : (a3 + (3 : Int32)) < 0 ∨ X.2.2.2.2.2.2.2.1 ≤ ((a3 + (3 : Int32))).toNatClampNeg
    · rw [if_pos c276] at hf; cases hf
    rw [if_neg c276] at hf
    refine rt_sld (pc := 1001) (i := (a3 + (3 : Int32))) rfl dL_law_1001 c276 ?_
    obtain ⟨v279, w278, e277, hf⟩ := ob2_of hf
    have g280 := sX9_letter d (by omega) e277
    refine rt_callV (pc := 1002) (As := [.int (X.2.2.2.2.2.2.2.2 ((a3 + (1 : Int32))).toNatClampNeg), .int (X.2.2.2.2.2.2.2.2 ((a3 + (2 : Int32))).toNatClampNeg), .int (X.2.2.2.2.2.2.2.2 ((a3 + (3 : Int32))).toNatClampNeg)]) (st := []) me_X9_letter mi_X9_letter wl_L_106 dL_law_1002 rfl (by decide) rfl g280.1 g280.2 ?_
    refine rt_aload_n (pc := 1005) (k0 := 2) (x := a2) 2 rfl dL_law_1005 ?_
    refine rt_aload_n (pc := 1006) (k0 := 0) (x := (some X.2.2.2.2.2.2.1)) 0 rfl dL_law_1006 ?_
    refine rt_iload_n (pc := 1007) (k0 := 3) (x := a3) 3 rfl dL_law_1007 ?_
    refine rt_iconst (pc := 1008) (n := 1) (v := (1 : Int32)) (by decide) dL_law_1008 ?_
    refine rt_iadd (pc := 1009) (x := a3) (z := (1 : Int32)) dL_law_1009 ?_
    by_cases c281 : (a3 + (1 : Int32)) < 0 ∨ X.2.2.2.2.2.2.2.1 ≤ ((a3 + (1 : Int32))).toNatClampNeg
    · rw [if_pos c281] at hf; cases hf
    rw [if_neg c281] at hf
    refine rt_sld (pc := 1010) (i := (a3 + (1 : Int32))) rfl dL_law_1010 c281 ?_
    refine rt_aload_n (pc := 1011) (k0 := 0) (x := (some X.2.2.2.2.2.2.1)) 0 rfl dL_law_1011 ?_
    refine rt_iload_n (pc := 1012) (k0 := 3) (x := a3) 3 rfl dL_law_1012 ?_
    refine rt_iconst (pc := 1013) (n := 2) (v := (2 : Int32)) (by decide) dL_law_1013 ?_
    refine rt_iadd (pc := 1014) (x := a3) (z := (2 : Int32)) dL_law_1014 ?_
    by_cases c282 : (a3 + (2 : Int32)) < 0 ∨ X.2.2.2.2.2.2.2.1 ≤ ((a3 + (2 : Int32))).toNatClampNeg
    · rw [if_pos c282] at hf; cases hf
    rw [if_neg c282] at hf
    refine rt_sld (pc := 1015) (i := (a3 + (2 : Int32))) rfl dL_law_1015 c282 ?_
    refine rt_aload_n (pc := 1016) (k0 := 0) (x := (some X.2.2.2.2.2.2.1)) 0 rfl dL_law_1016 ?_
    refine rt_iload_n (pc := 1017) (k0 := 3) (x := a3) 3 rfl dL_law_1017 ?_
    refine rt_iconst (pc := 1018) (n := 3) (v := (3 : Int32)) (by decide) dL_law_1018 ?_
    refine rt_iadd (pc := 1019) (x := a3) (z := (3 : Int32)) dL_law_1019 ?_
    by_cases c283 : (a3 + (3 : Int32)) < 0 ∨ X.2.2.2.2.2.2.2.1 ≤ ((a3 + (3 : Int32))).toNatClampNeg
    · rw [if_pos c283] at hf; cases hf
    rw [if_neg c283] at hf
    refine rt_sld (pc := 1020) (i := (a3 + (3 : Int32))) rfl dL_law_1020 c283 ?_
    obtain ⟨v286, w285, e284, hf⟩ := ob2_of hf
    have g287 := sX10_letter_ d (by omega) e284
    refine rt_callV (pc := 1021) (As := [.int (X.2.2.2.2.2.2.2.2 ((a3 + (1 : Int32))).toNatClampNeg), .int (X.2.2.2.2.2.2.2.2 ((a3 + (2 : Int32))).toNatClampNeg), .int (X.2.2.2.2.2.2.2.2 ((a3 + (3 : Int32))).toNatClampNeg)]) (st := [.int v279]) me_X10_letter_ mi_X10_letter_ wl_L_110 dL_law_1021 rfl (by simp [rt_cat, cat_i, cat_l]) rfl g287.1 g287.2 ?_
    by_cases c288 : v279 = v286
    · rw [if_pos c288] at hf
      refine rt_icmp_eq_p (pc := 1024) (x := v279) (z := v286) (tgt := 1381) (by decide) dL_law_1024 c288 ?_
      exact rL_law_1381 hd ih hf
    rw [if_neg c288] at hf
    refine rt_icmp_eq_n (pc := 1024) (x := v279) (z := v286) (tgt := 1381) (by decide) dL_law_1024 c288 ?_
    refine rt_iconst (pc := 1027) (n := 0) (v := (0 : Int32)) (by decide) dL_law_1027 ?_
    cases hf
    exact rt_ret (pc := 1028) dL_law_1028 rfl
  rw [if_neg c273] at hf
  by_cases c289 : ((X.2.2.2.2.2.2.2.2 (a3).toNatClampNeg) &&& (63 : Int32)) = 22
  · rw [if_pos c289] at hf
    refine rt_tableIn (pc := 32) (x := ((X.2.2.2.2.2.2.2.2 (a3).toNatClampNeg) &&& (63 : Int32))) (off := 997) (tgt := 1029) dL_law_32 (by rw [c289]; decide) (by rw [c289]; decide) (by rw [c289]; rfl) (by decide) ?_
    refine rt_aload_n (pc := 1029) (k0 := 1) (x := a1) 1 rfl dL_law_1029 ?_
    refine rt_aload_n (pc := 1030) (k0 := 0) (x := (some X.2.2.2.2.2.2.1)) 0 rfl dL_law_1030 ?_
    refine rt_iload_n (pc := 1031) (k0 := 3) (x := a3) 3 rfl dL_law_1031 ?_
    refine rt_iconst (pc := 1032) (n := 1) (v := (1 : Int32)) (by decide) dL_law_1032 ?_
    refine rt_iadd (pc := 1033) (x := a3) (z := (1 : Int32)) dL_law_1033 ?_
    by_cases c290 : (a3 + (1 : Int32)) < 0 ∨ X.2.2.2.2.2.2.2.1 ≤ ((a3 + (1 : Int32))).toNatClampNeg
    · rw [if_pos c290] at hf; cases hf
    rw [if_neg c290] at hf
    refine rt_sld (pc := 1034) (i := (a3 + (1 : Int32))) rfl dL_law_1034 c290 ?_
    refine rt_i2l (pc := 1035) (x := (X.2.2.2.2.2.2.2.2 ((a3 + (1 : Int32))).toNatClampNeg)) dL_law_1035 ?_
    refine rt_bipush (pc := 1036) (n := 32) (v := (32 : Int32)) (by decide) dL_law_1036 ?_
    refine rt_lshl (pc := 1038) (x := ((X.2.2.2.2.2.2.2.2 ((a3 + (1 : Int32))).toNatClampNeg)).toInt64) (z := (32 : Int32)) dL_law_1038 ?_
    refine rt_aload_n (pc := 1039) (k0 := 0) (x := (some X.2.2.2.2.2.2.1)) 0 rfl dL_law_1039 ?_
    refine rt_iload_n (pc := 1040) (k0 := 3) (x := a3) 3 rfl dL_law_1040 ?_
    refine rt_iconst (pc := 1041) (n := 2) (v := (2 : Int32)) (by decide) dL_law_1041 ?_
    refine rt_iadd (pc := 1042) (x := a3) (z := (2 : Int32)) dL_law_1042 ?_
    by_cases c291 : (a3 + (2 : Int32)) < 0 ∨ X.2.2.2.2.2.2.2.1 ≤ ((a3 + (2 : Int32))).toNatClampNeg
    · rw [if_pos c291] at hf; cases hf
    rw [if_neg c291] at hf
    refine rt_sld (pc := 1043) (i := (a3 + (2 : Int32))) rfl dL_law_1043 c291 ?_
    refine rt_i2l (pc := 1044) (x := (X.2.2.2.2.2.2.2.2 ((a3 + (2 : Int32))).toNatClampNeg)) dL_law_1044 ?_
    refine rt_ldc2 (pc := 1045) wj_L_13 dL_law_1045 ?_
    refine rt_land (pc := 1048) (x := ((X.2.2.2.2.2.2.2.2 ((a3 + (2 : Int32))).toNatClampNeg)).toInt64) (z := (4294967295 : Int64)) dL_law_1048 ?_
    refine rt_lor (pc := 1049) (x := (((X.2.2.2.2.2.2.2.2 ((a3 + (1 : Int32))).toNatClampNeg)).toInt64 <<< ((32 : Int32).toInt64 &&& 63))) (z := (((X.2.2.2.2.2.2.2.2 ((a3 + (2 : Int32))).toNatClampNeg)).toInt64 &&& (4294967295 : Int64))) dL_law_1049 ?_
    obtain ⟨v294, w293, e292, hf⟩ := ob2_of hf
    have g295 := sX9_met d (by omega) e292
    refine rt_callV (pc := 1050) (As := [.long ((((X.2.2.2.2.2.2.2.2 ((a3 + (1 : Int32))).toNatClampNeg)).toInt64 <<< ((32 : Int32).toInt64 &&& 63)) ||| (((X.2.2.2.2.2.2.2.2 ((a3 + (2 : Int32))).toNatClampNeg)).toInt64 &&& (4294967295 : Int64)))]) (st := []) me_X9_met mi_X9_met wl_L_111 dL_law_1050 rfl (by decide) rfl g295.1 g295.2 ?_
    refine rt_aload_n (pc := 1053) (k0 := 2) (x := a2) 2 rfl dL_law_1053 ?_
    refine rt_aload_n (pc := 1054) (k0 := 0) (x := (some X.2.2.2.2.2.2.1)) 0 rfl dL_law_1054 ?_
    refine rt_iload_n (pc := 1055) (k0 := 3) (x := a3) 3 rfl dL_law_1055 ?_
    refine rt_iconst (pc := 1056) (n := 1) (v := (1 : Int32)) (by decide) dL_law_1056 ?_
    refine rt_iadd (pc := 1057) (x := a3) (z := (1 : Int32)) dL_law_1057 ?_
    by_cases c296 : (a3 + (1 : Int32)) < 0 ∨ X.2.2.2.2.2.2.2.1 ≤ ((a3 + (1 : Int32))).toNatClampNeg
    · rw [if_pos c296] at hf; cases hf
    rw [if_neg c296] at hf
    refine rt_sld (pc := 1058) (i := (a3 + (1 : Int32))) rfl dL_law_1058 c296 ?_
    refine rt_i2l (pc := 1059) (x := (X.2.2.2.2.2.2.2.2 ((a3 + (1 : Int32))).toNatClampNeg)) dL_law_1059 ?_
    refine rt_bipush (pc := 1060) (n := 32) (v := (32 : Int32)) (by decide) dL_law_1060 ?_
    refine rt_lshl (pc := 1062) (x := ((X.2.2.2.2.2.2.2.2 ((a3 + (1 : Int32))).toNatClampNeg)).toInt64) (z := (32 : Int32)) dL_law_1062 ?_
    refine rt_aload_n (pc := 1063) (k0 := 0) (x := (some X.2.2.2.2.2.2.1)) 0 rfl dL_law_1063 ?_
    refine rt_iload_n (pc := 1064) (k0 := 3) (x := a3) 3 rfl dL_law_1064 ?_
    refine rt_iconst (pc := 1065) (n := 2) (v := (2 : Int32)) (by decide) dL_law_1065 ?_
    refine rt_iadd (pc := 1066) (x := a3) (z := (2 : Int32)) dL_law_1066 ?_
    by_cases c297 : (a3 + (2 : Int32)) < 0 ∨ X.2.2.2.2.2.2.2.1 ≤ ((a3 + (2 : Int32))).toNatClampNeg
    · rw [if_pos c297] at hf; cases hf
    rw [if_neg c297] at hf
    refine rt_sld (pc := 1067) (i := (a3 + (2 : Int32))) rfl dL_law_1067 c297 ?_
    refine rt_i2l (pc := 1068) (x := (X.2.2.2.2.2.2.2.2 ((a3 + (2 : Int32))).toNatClampNeg)) dL_law_1068 ?_
    refine rt_ldc2 (pc := 1069) wj_L_13 dL_law_1069 ?_
    refine rt_land (pc := 1072) (x := ((X.2.2.2.2.2.2.2.2 ((a3 + (2 : Int32))).toNatClampNeg)).toInt64) (z := (4294967295 : Int64)) dL_law_1072 ?_
    refine rt_lor (pc := 1073) (x := (((X.2.2.2.2.2.2.2.2 ((a3 + (1 : Int32))).toNatClampNeg)).toInt64 <<< ((32 : Int32).toInt64 &&& 63))) (z := (((X.2.2.2.2.2.2.2.2 ((a3 + (2 : Int32))).toNatClampNeg)).toInt64 &&& (4294967295 : Int64))) dL_law_1073 ?_
    obtain ⟨v300, w299, e298, hf⟩ := ob2_of hf
    have g301 := sX10_met d (by omega) e298
    refine rt_callV (pc := 1074) (As := [.long ((((X.2.2.2.2.2.2.2.2 ((a3 + (1 : Int32))).toNatClampNeg)).toInt64 <<< ((32 : Int32).toInt64 &&& 63)) ||| (((X.2.2.2.2.2.2.2.2 ((a3 + (2 : Int32))).toNatClampNeg)).toInt64 &&& (4294967295 : Int64)))]) (st := [.int v294]) me_X10_met mi_X10_met wl_L_114 dL_law_1074 rfl (by simp [rt_cat, cat_i, cat_l]) rfl g301.1 g301.2 ?_
    by_cases c302 : v294 = v300
    · rw [if_pos c302] at hf
      refine rt_icmp_eq_p (pc := 1077) (x := v294) (z := v300) (tgt := 1381) (by decide) dL_law_1077 c302 ?_
      exact rL_law_1381 hd ih hf
    rw [if_neg c302] at hf
    refine rt_icmp_eq_n (pc := 1077) (x := v294) (z := v300) (tgt := 1381) (by decide) dL_law_1077 c302 ?_
    refine rt_iconst (pc := 1080) (n := 0) (v := (0 : Int32)) (by decide) dL_law_1080 ?_
    cases hf
    exact rt_ret (pc := 1081) dL_law_1081 rfl
  rw [if_neg c289] at hf
  by_cases c303 : ((X.2.2.2.2.2.2.2.2 (a3).toNatClampNeg) &&& (63 : Int32)) = 23
  · rw [if_pos c303] at hf
    refine rt_tableIn (pc := 32) (x := ((X.2.2.2.2.2.2.2.2 (a3).toNatClampNeg) &&& (63 : Int32))) (off := 1050) (tgt := 1082) dL_law_32 (by rw [c303]; decide) (by rw [c303]; decide) (by rw [c303]; rfl) (by decide) ?_
    refine rt_aload_n (pc := 1082) (k0 := 1) (x := a1) 1 rfl dL_law_1082 ?_
    obtain ⟨v306, w305, e304, hf⟩ := ob2_of hf
    have g307 := sX9_sync d (by omega) e304
    refine rt_callV (pc := 1083) (As := []) (st := []) me_X9_sync mi_X9_sync wl_L_115 dL_law_1083 rfl (by decide) rfl g307.1 g307.2 ?_
    refine rt_aload_n (pc := 1086) (k0 := 2) (x := a2) 2 rfl dL_law_1086 ?_
    obtain ⟨v310, w309, e308, hf⟩ := ob2_of hf
    have g311 := sX10_sync d (by omega) e308
    refine rt_callV (pc := 1087) (As := []) (st := [.int v306]) me_X10_sync mi_X10_sync wl_L_118 dL_law_1087 rfl (by simp [rt_cat, cat_i, cat_l]) rfl g311.1 g311.2 ?_
    by_cases c312 : v306 = v310
    · rw [if_pos c312] at hf
      refine rt_icmp_eq_p (pc := 1090) (x := v306) (z := v310) (tgt := 1381) (by decide) dL_law_1090 c312 ?_
      exact rL_law_1381 hd ih hf
    rw [if_neg c312] at hf
    refine rt_icmp_eq_n (pc := 1090) (x := v306) (z := v310) (tgt := 1381) (by decide) dL_law_1090 c312 ?_
    refine rt_iconst (pc := 1093) (n := 0) (v := (0 : Int32)) (by decide) dL_law_1093 ?_
    cases hf
    exact rt_ret (pc := 1094) dL_law_1094 rfl
  rw [if_neg c303] at hf
  by_cases c313 : ((X.2.2.2.2.2.2.2.2 (a3).toNatClampNeg) &&& (63 : Int32)) = 24
  · rw [if_pos c313] at hf
    refine rt_tableIn (pc := 32) (x := ((X.2.2.2.2.2.2.2.2 (a3).toNatClampNeg) &&& (63 : Int32))) (off := 1063) (tgt := 1095) dL_law_32 (by rw [c313]; decide) (by rw [c313]; decide) (by rw [c313]; rfl) (by decide) ?_
    refine rt_aload_n (pc := 1095) (k0 := 1) (x := a1) 1 rfl dL_law_1095 ?_
    obtain ⟨v316, w315, e314, hf⟩ := ob2_of hf
    have g317 := sX9_picture d (by omega) e314
    refine rt_callV (pc := 1096) (As := []) (st := []) me_X9_picture mi_X9_picture wl_L_119 dL_law_1096 rfl (by decide) rfl g317.1 g317.2 ?_
    refine rt_aload_n (pc := 1099) (k0 := 2) (x := a2) 2 rfl dL_law_1099 ?_
    obtain ⟨v320, w319, e318, hf⟩ := ob2_of hf
    have g321 := sX10_picture d (by omega) e318
    refine rt_callV (pc := 1100) (As := []) (st := [.int v316]) me_X10_picture mi_X10_picture wl_L_122 dL_law_1100 rfl (by simp [rt_cat, cat_i, cat_l]) rfl g321.1 g321.2 ?_
    by_cases c322 : v316 = v320
    · rw [if_pos c322] at hf
      refine rt_icmp_eq_p (pc := 1103) (x := v316) (z := v320) (tgt := 1381) (by decide) dL_law_1103 c322 ?_
      exact rL_law_1381 hd ih hf
    rw [if_neg c322] at hf
    refine rt_icmp_eq_n (pc := 1103) (x := v316) (z := v320) (tgt := 1381) (by decide) dL_law_1103 c322 ?_
    refine rt_iconst (pc := 1106) (n := 0) (v := (0 : Int32)) (by decide) dL_law_1106 ?_
    cases hf
    exact rt_ret (pc := 1107) dL_law_1107 rfl
  rw [if_neg c313] at hf
  by_cases c323 : ((X.2.2.2.2.2.2.2.2 (a3).toNatClampNeg) &&& (63 : Int32)) = 25
  · rw [if_pos c323] at hf
    refine rt_tableIn (pc := 32) (x := ((X.2.2.2.2.2.2.2.2 (a3).toNatClampNeg) &&& (63 : Int32))) (off := 1076) (tgt := 1108) dL_law_32 (by rw [c323]; decide) (by rw [c323]; decide) (by rw [c323]; rfl) (by decide) ?_
    refine rt_aload_n (pc := 1108) (k0 := 1) (x := a1) 1 rfl dL_law_1108 ?_
    refine rt_aload_n (pc := 1109) (k0 := 0) (x := (some X.2.2.2.2.2.2.1)) 0 rfl dL_law_1109 ?_
    refine rt_iload_n (pc := 1110) (k0 := 3) (x := a3) 3 rfl dL_law_1110 ?_
    refine rt_iconst (pc := 1111) (n := 1) (v := (1 : Int32)) (by decide) dL_law_1111 ?_
    refine rt_iadd (pc := 1112) (x := a3) (z := (1 : Int32)) dL_law_1112 ?_
    by_cases c324 : (a3 + (1 : Int32)) < 0 ∨ X.2.2.2.2.2.2.2.1 ≤ ((a3 + (1 : Int32))).toNatClampNeg
    · rw [if_pos c324] at hf; cases hf
    rw [if_neg c324] at hf
    refine rt_sld (pc := 1113) (i := (a3 + (1 : Int32))) rfl dL_law_1113 c324 ?_
    refine rt_aload_n (pc := 1114) (k0 := 0) (x := (some X.2.2.2.2.2.2.1)) 0 rfl dL_law_1114 ?_
    refine rt_iload_n (pc := 1115) (k0 := 3) (x := a3) 3 rfl dL_law_1115 ?_
    refine rt_iconst (pc := 1116) (n := 2) (v := (2 : Int32)) (by decide) dL_law_1116 ?_
    refine rt_iadd (pc := 1117) (x := a3) (z := (2 : Int32)) dL_law_1117 ?_
    by_cases c325 : (a3 + (2 : Int32)) < 0 ∨ X.2.2.2.2.2.2.2.1 ≤ ((a3 + (2 : Int32))).toNatClampNeg
    · rw [if_pos c325] at hf; cases hf
    rw [if_neg c325] at hf
    refine rt_sld (pc := 1118) (i := (a3 + (2 : Int32))) rfl dL_law_1118 c325 ?_
    refine rt_i2l (pc := 1119) (x := (X.2.2.2.2.2.2.2.2 ((a3 + (2 : Int32))).toNatClampNeg)) dL_law_1119 ?_
    refine rt_bipush (pc := 1120) (n := 32) (v := (32 : Int32)) (by decide) dL_law_1120 ?_
    refine rt_lshl (pc := 1122) (x := ((X.2.2.2.2.2.2.2.2 ((a3 + (2 : Int32))).toNatClampNeg)).toInt64) (z := (32 : Int32)) dL_law_1122 ?_
    refine rt_aload_n (pc := 1123) (k0 := 0) (x := (some X.2.2.2.2.2.2.1)) 0 rfl dL_law_1123 ?_
    refine rt_iload_n (pc := 1124) (k0 := 3) (x := a3) 3 rfl dL_law_1124 ?_
    refine rt_iconst (pc := 1125) (n := 3) (v := (3 : Int32)) (by decide) dL_law_1125 ?_
    refine rt_iadd (pc := 1126) (x := a3) (z := (3 : Int32)) dL_law_1126 ?_
    by_cases c326 : (a3 + (3 : Int32)) < 0 ∨ X.2.2.2.2.2.2.2.1 ≤ ((a3 + (3 : Int32))).toNatClampNeg
    · rw [if_pos c326] at hf; cases hf
    rw [if_neg c326] at hf
    refine rt_sld (pc := 1127) (i := (a3 + (3 : Int32))) rfl dL_law_1127 c326 ?_
    refine rt_i2l (pc := 1128) (x := (X.2.2.2.2.2.2.2.2 ((a3 + (3 : Int32))).toNatClampNeg)) dL_law_1128 ?_
    refine rt_ldc2 (pc := 1129) wj_L_13 dL_law_1129 ?_
    refine rt_land (pc := 1132) (x := ((X.2.2.2.2.2.2.2.2 ((a3 + (3 : Int32))).toNatClampNeg)).toInt64) (z := (4294967295 : Int64)) dL_law_1132 ?_
    refine rt_lor (pc := 1133) (x := (((X.2.2.2.2.2.2.2.2 ((a3 + (2 : Int32))).toNatClampNeg)).toInt64 <<< ((32 : Int32).toInt64 &&& 63))) (z := (((X.2.2.2.2.2.2.2.2 ((a3 + (3 : Int32))).toNatClampNeg)).toInt64 &&& (4294967295 : Int64))) dL_law_1133 ?_
    obtain ⟨v329, w328, e327, hf⟩ := ob2_of hf
    have g330 := sX9_look d (by omega) e327
    refine rt_callV (pc := 1134) (As := [.int (X.2.2.2.2.2.2.2.2 ((a3 + (1 : Int32))).toNatClampNeg), .long ((((X.2.2.2.2.2.2.2.2 ((a3 + (2 : Int32))).toNatClampNeg)).toInt64 <<< ((32 : Int32).toInt64 &&& 63)) ||| (((X.2.2.2.2.2.2.2.2 ((a3 + (3 : Int32))).toNatClampNeg)).toInt64 &&& (4294967295 : Int64)))]) (st := []) me_X9_look mi_X9_look wl_L_123 dL_law_1134 rfl (by decide) rfl g330.1 g330.2 ?_
    refine rt_aload_n (pc := 1137) (k0 := 2) (x := a2) 2 rfl dL_law_1137 ?_
    refine rt_aload_n (pc := 1138) (k0 := 0) (x := (some X.2.2.2.2.2.2.1)) 0 rfl dL_law_1138 ?_
    refine rt_iload_n (pc := 1139) (k0 := 3) (x := a3) 3 rfl dL_law_1139 ?_
    refine rt_iconst (pc := 1140) (n := 1) (v := (1 : Int32)) (by decide) dL_law_1140 ?_
    refine rt_iadd (pc := 1141) (x := a3) (z := (1 : Int32)) dL_law_1141 ?_
    by_cases c331 : (a3 + (1 : Int32)) < 0 ∨ X.2.2.2.2.2.2.2.1 ≤ ((a3 + (1 : Int32))).toNatClampNeg
    · rw [if_pos c331] at hf; cases hf
    rw [if_neg c331] at hf
    refine rt_sld (pc := 1142) (i := (a3 + (1 : Int32))) rfl dL_law_1142 c331 ?_
    refine rt_aload_n (pc := 1143) (k0 := 0) (x := (some X.2.2.2.2.2.2.1)) 0 rfl dL_law_1143 ?_
    refine rt_iload_n (pc := 1144) (k0 := 3) (x := a3) 3 rfl dL_law_1144 ?_
    refine rt_iconst (pc := 1145) (n := 2) (v := (2 : Int32)) (by decide) dL_law_1145 ?_
    refine rt_iadd (pc := 1146) (x := a3) (z := (2 : Int32)) dL_law_1146 ?_
    by_cases c332 : (a3 + (2 : Int32)) < 0 ∨ X.2.2.2.2.2.2.2.1 ≤ ((a3 + (2 : Int32))).toNatClampNeg
    · rw [if_pos c332] at hf; cases hf
    rw [if_neg c332] at hf
    refine rt_sld (pc := 1147) (i := (a3 + (2 : Int32))) rfl dL_law_1147 c332 ?_
    refine rt_i2l (pc := 1148) (x := (X.2.2.2.2.2.2.2.2 ((a3 + (2 : Int32))).toNatClampNeg)) dL_law_1148 ?_
    refine rt_bipush (pc := 1149) (n := 32) (v := (32 : Int32)) (by decide) dL_law_1149 ?_
    refine rt_lshl (pc := 1151) (x := ((X.2.2.2.2.2.2.2.2 ((a3 + (2 : Int32))).toNatClampNeg)).toInt64) (z := (32 : Int32)) dL_law_1151 ?_
    refine rt_aload_n (pc := 1152) (k0 := 0) (x := (some X.2.2.2.2.2.2.1)) 0 rfl dL_law_1152 ?_
    refine rt_iload_n (pc := 1153) (k0 := 3) (x := a3) 3 rfl dL_law_1153 ?_
    refine rt_iconst (pc := 1154) (n := 3) (v := (3 : Int32)) (by decide) dL_law_1154 ?_
    refine rt_iadd (pc := 1155) (x := a3) (z := (3 : Int32)) dL_law_1155 ?_
    by_cases c333 : (a3 + (3 : Int32)) < 0 ∨ X.2.2.2.2.2.2.2.1 ≤ ((a3 + (3 : Int32))).toNatClampNeg
    · rw [if_pos c333] at hf; cases hf
    rw [if_neg c333] at hf
    refine rt_sld (pc := 1156) (i := (a3 + (3 : Int32))) rfl dL_law_1156 c333 ?_
    refine rt_i2l (pc := 1157) (x := (X.2.2.2.2.2.2.2.2 ((a3 + (3 : Int32))).toNatClampNeg)) dL_law_1157 ?_
    refine rt_ldc2 (pc := 1158) wj_L_13 dL_law_1158 ?_
    refine rt_land (pc := 1161) (x := ((X.2.2.2.2.2.2.2.2 ((a3 + (3 : Int32))).toNatClampNeg)).toInt64) (z := (4294967295 : Int64)) dL_law_1161 ?_
    refine rt_lor (pc := 1162) (x := (((X.2.2.2.2.2.2.2.2 ((a3 + (2 : Int32))).toNatClampNeg)).toInt64 <<< ((32 : Int32).toInt64 &&& 63))) (z := (((X.2.2.2.2.2.2.2.2 ((a3 + (3 : Int32))).toNatClampNeg)).toInt64 &&& (4294967295 : Int64))) dL_law_1162 ?_
    obtain ⟨v336, w335, e334, hf⟩ := ob2_of hf
    have g337 := sX10_look d (by omega) e334
    refine rt_callV (pc := 1163) (As := [.int (X.2.2.2.2.2.2.2.2 ((a3 + (1 : Int32))).toNatClampNeg), .long ((((X.2.2.2.2.2.2.2.2 ((a3 + (2 : Int32))).toNatClampNeg)).toInt64 <<< ((32 : Int32).toInt64 &&& 63)) ||| (((X.2.2.2.2.2.2.2.2 ((a3 + (3 : Int32))).toNatClampNeg)).toInt64 &&& (4294967295 : Int64)))]) (st := [.int v329]) me_X10_look mi_X10_look wl_L_127 dL_law_1163 rfl (by simp [rt_cat, cat_i, cat_l]) rfl g337.1 g337.2 ?_
    by_cases c338 : v329 = v336
    · rw [if_pos c338] at hf
      refine rt_icmp_eq_p (pc := 1166) (x := v329) (z := v336) (tgt := 1381) (by decide) dL_law_1166 c338 ?_
      exact rL_law_1381 hd ih hf
    rw [if_neg c338] at hf
    refine rt_icmp_eq_n (pc := 1166) (x := v329) (z := v336) (tgt := 1381) (by decide) dL_law_1166 c338 ?_
    refine rt_iconst (pc := 1169) (n := 0) (v := (0 : Int32)) (by decide) dL_law_1169 ?_
    cases hf
    exact rt_ret (pc := 1170) dL_law_1170 rfl
  rw [if_neg c323] at hf
  by_cases c339 : ((X.2.2.2.2.2.2.2.2 (a3).toNatClampNeg) &&& (63 : Int32)) = 26
  · rw [if_pos c339] at hf
    refine rt_tableIn (pc := 32) (x := ((X.2.2.2.2.2.2.2.2 (a3).toNatClampNeg) &&& (63 : Int32))) (off := 1139) (tgt := 1171) dL_law_32 (by rw [c339]; decide) (by rw [c339]; decide) (by rw [c339]; rfl) (by decide) ?_
    refine rt_aload_n (pc := 1171) (k0 := 1) (x := a1) 1 rfl dL_law_1171 ?_
    refine rt_aload_n (pc := 1172) (k0 := 0) (x := (some X.2.2.2.2.2.2.1)) 0 rfl dL_law_1172 ?_
    refine rt_iload_n (pc := 1173) (k0 := 3) (x := a3) 3 rfl dL_law_1173 ?_
    refine rt_iconst (pc := 1174) (n := 1) (v := (1 : Int32)) (by decide) dL_law_1174 ?_
    refine rt_iadd (pc := 1175) (x := a3) (z := (1 : Int32)) dL_law_1175 ?_
    by_cases c340 : (a3 + (1 : Int32)) < 0 ∨ X.2.2.2.2.2.2.2.1 ≤ ((a3 + (1 : Int32))).toNatClampNeg
    · rw [if_pos c340] at hf; cases hf
    rw [if_neg c340] at hf
    refine rt_sld (pc := 1176) (i := (a3 + (1 : Int32))) rfl dL_law_1176 c340 ?_
    obtain ⟨v343, w342, e341, hf⟩ := ob2_of hf
    have g344 := sX9_release d (by omega) e341
    refine rt_callV (pc := 1177) (As := [.int (X.2.2.2.2.2.2.2.2 ((a3 + (1 : Int32))).toNatClampNeg)]) (st := []) me_X9_release mi_X9_release wl_L_128 dL_law_1177 rfl (by decide) rfl g344.1 g344.2 ?_
    refine rt_aload_n (pc := 1180) (k0 := 2) (x := a2) 2 rfl dL_law_1180 ?_
    refine rt_aload_n (pc := 1181) (k0 := 0) (x := (some X.2.2.2.2.2.2.1)) 0 rfl dL_law_1181 ?_
    refine rt_iload_n (pc := 1182) (k0 := 3) (x := a3) 3 rfl dL_law_1182 ?_
    refine rt_iconst (pc := 1183) (n := 1) (v := (1 : Int32)) (by decide) dL_law_1183 ?_
    refine rt_iadd (pc := 1184) (x := a3) (z := (1 : Int32)) dL_law_1184 ?_
    by_cases c345 : (a3 + (1 : Int32)) < 0 ∨ X.2.2.2.2.2.2.2.1 ≤ ((a3 + (1 : Int32))).toNatClampNeg
    · rw [if_pos c345] at hf; cases hf
    rw [if_neg c345] at hf
    refine rt_sld (pc := 1185) (i := (a3 + (1 : Int32))) rfl dL_law_1185 c345 ?_
    obtain ⟨v348, w347, e346, hf⟩ := ob2_of hf
    have g349 := sX10_release d (by omega) e346
    refine rt_callV (pc := 1186) (As := [.int (X.2.2.2.2.2.2.2.2 ((a3 + (1 : Int32))).toNatClampNeg)]) (st := [.int v343]) me_X10_release mi_X10_release wl_L_131 dL_law_1186 rfl (by simp [rt_cat, cat_i, cat_l]) rfl g349.1 g349.2 ?_
    by_cases c350 : v343 = v348
    · rw [if_pos c350] at hf
      refine rt_icmp_eq_p (pc := 1189) (x := v343) (z := v348) (tgt := 1381) (by decide) dL_law_1189 c350 ?_
      exact rL_law_1381 hd ih hf
    rw [if_neg c350] at hf
    refine rt_icmp_eq_n (pc := 1189) (x := v343) (z := v348) (tgt := 1381) (by decide) dL_law_1189 c350 ?_
    refine rt_iconst (pc := 1192) (n := 0) (v := (0 : Int32)) (by decide) dL_law_1192 ?_
    cases hf
    exact rt_ret (pc := 1193) dL_law_1193 rfl
  rw [if_neg c339] at hf
  by_cases c351 : ((X.2.2.2.2.2.2.2.2 (a3).toNatClampNeg) &&& (63 : Int32)) = 27
  · rw [if_pos c351] at hf
    refine rt_tableIn (pc := 32) (x := ((X.2.2.2.2.2.2.2.2 (a3).toNatClampNeg) &&& (63 : Int32))) (off := 1162) (tgt := 1194) dL_law_32 (by rw [c351]; decide) (by rw [c351]; decide) (by rw [c351]; rfl) (by decide) ?_
    refine rt_aload_n (pc := 1194) (k0 := 1) (x := a1) 1 rfl dL_law_1194 ?_
    refine rt_aload_n (pc := 1195) (k0 := 0) (x := (some X.2.2.2.2.2.2.1)) 0 rfl dL_law_1195 ?_
    refine rt_iload_n (pc := 1196) (k0 := 3) (x := a3) 3 rfl dL_law_1196 ?_
    refine rt_iconst (pc := 1197) (n := 1) (v := (1 : Int32)) (by decide) dL_law_1197 ?_
    refine rt_iadd (pc := 1198) (x := a3) (z := (1 : Int32)) dL_law_1198 ?_
    by_cases c352 : (a3 + (1 : Int32)) < 0 ∨ X.2.2.2.2.2.2.2.1 ≤ ((a3 + (1 : Int32))).toNatClampNeg
    · rw [if_pos c352] at hf; cases hf
    rw [if_neg c352] at hf
    refine rt_sld (pc := 1199) (i := (a3 + (1 : Int32))) rfl dL_law_1199 c352 ?_
    obtain ⟨v355, w354, e353, hf⟩ := ob2_of hf
    have g356 := sX9_pictured d (by omega) e353
    refine rt_callV (pc := 1200) (As := [.int (X.2.2.2.2.2.2.2.2 ((a3 + (1 : Int32))).toNatClampNeg)]) (st := []) me_X9_pictured mi_X9_pictured wl_L_132 dL_law_1200 rfl (by decide) rfl g356.1 g356.2 ?_
    refine rt_aload_n (pc := 1203) (k0 := 2) (x := a2) 2 rfl dL_law_1203 ?_
    refine rt_aload_n (pc := 1204) (k0 := 0) (x := (some X.2.2.2.2.2.2.1)) 0 rfl dL_law_1204 ?_
    refine rt_iload_n (pc := 1205) (k0 := 3) (x := a3) 3 rfl dL_law_1205 ?_
    refine rt_iconst (pc := 1206) (n := 1) (v := (1 : Int32)) (by decide) dL_law_1206 ?_
    refine rt_iadd (pc := 1207) (x := a3) (z := (1 : Int32)) dL_law_1207 ?_
    by_cases c357 : (a3 + (1 : Int32)) < 0 ∨ X.2.2.2.2.2.2.2.1 ≤ ((a3 + (1 : Int32))).toNatClampNeg
    · rw [if_pos c357] at hf; cases hf
    rw [if_neg c357] at hf
    refine rt_sld (pc := 1208) (i := (a3 + (1 : Int32))) rfl dL_law_1208 c357 ?_
    obtain ⟨v360, w359, e358, hf⟩ := ob2_of hf
    have g361 := sX10_pictured d (by omega) e358
    refine rt_callV (pc := 1209) (As := [.int (X.2.2.2.2.2.2.2.2 ((a3 + (1 : Int32))).toNatClampNeg)]) (st := [.int v355]) me_X10_pictured mi_X10_pictured wl_L_135 dL_law_1209 rfl (by simp [rt_cat, cat_i, cat_l]) rfl g361.1 g361.2 ?_
    by_cases c362 : v355 = v360
    · rw [if_pos c362] at hf
      refine rt_icmp_eq_p (pc := 1212) (x := v355) (z := v360) (tgt := 1381) (by decide) dL_law_1212 c362 ?_
      exact rL_law_1381 hd ih hf
    rw [if_neg c362] at hf
    refine rt_icmp_eq_n (pc := 1212) (x := v355) (z := v360) (tgt := 1381) (by decide) dL_law_1212 c362 ?_
    refine rt_iconst (pc := 1215) (n := 0) (v := (0 : Int32)) (by decide) dL_law_1215 ?_
    cases hf
    exact rt_ret (pc := 1216) dL_law_1216 rfl
  rw [if_neg c351] at hf
  by_cases c363 : ((X.2.2.2.2.2.2.2.2 (a3).toNatClampNeg) &&& (63 : Int32)) = 28
  · rw [if_pos c363] at hf
    refine rt_tableIn (pc := 32) (x := ((X.2.2.2.2.2.2.2.2 (a3).toNatClampNeg) &&& (63 : Int32))) (off := 1185) (tgt := 1217) dL_law_32 (by rw [c363]; decide) (by rw [c363]; decide) (by rw [c363]; rfl) (by decide) ?_
    refine rt_aload_n (pc := 1217) (k0 := 1) (x := a1) 1 rfl dL_law_1217 ?_
    obtain ⟨v366, w365, e364, hf⟩ := ob2_of hf
    have g367 := sX9_free d (by omega) e364
    refine rt_callV (pc := 1218) (As := []) (st := []) me_X9_free mi_X9_free wl_L_136 dL_law_1218 rfl (by decide) rfl g367.1 g367.2 ?_
    refine rt_aload_n (pc := 1221) (k0 := 2) (x := a2) 2 rfl dL_law_1221 ?_
    obtain ⟨v370, w369, e368, hf⟩ := ob2_of hf
    have g371 := sX10_free d (by omega) e368
    refine rt_callV (pc := 1222) (As := []) (st := [.int v366]) me_X10_free mi_X10_free wl_L_139 dL_law_1222 rfl (by simp [rt_cat, cat_i, cat_l]) rfl g371.1 g371.2 ?_
    by_cases c372 : v366 = v370
    · rw [if_pos c372] at hf
      refine rt_icmp_eq_p (pc := 1225) (x := v366) (z := v370) (tgt := 1381) (by decide) dL_law_1225 c372 ?_
      exact rL_law_1381 hd ih hf
    rw [if_neg c372] at hf
    refine rt_icmp_eq_n (pc := 1225) (x := v366) (z := v370) (tgt := 1381) (by decide) dL_law_1225 c372 ?_
    refine rt_iconst (pc := 1228) (n := 0) (v := (0 : Int32)) (by decide) dL_law_1228 ?_
    cases hf
    exact rt_ret (pc := 1229) dL_law_1229 rfl
  rw [if_neg c363] at hf
  by_cases c373 : ((X.2.2.2.2.2.2.2.2 (a3).toNatClampNeg) &&& (63 : Int32)) = 29
  · rw [if_pos c373] at hf
    refine rt_tableIn (pc := 32) (x := ((X.2.2.2.2.2.2.2.2 (a3).toNatClampNeg) &&& (63 : Int32))) (off := 1198) (tgt := 1230) dL_law_32 (by rw [c373]; decide) (by rw [c373]; decide) (by rw [c373]; rfl) (by decide) ?_
    refine rt_aload_n (pc := 1230) (k0 := 1) (x := a1) 1 rfl dL_law_1230 ?_
    refine rt_aload_n (pc := 1231) (k0 := 0) (x := (some X.2.2.2.2.2.2.1)) 0 rfl dL_law_1231 ?_
    refine rt_iload_n (pc := 1232) (k0 := 3) (x := a3) 3 rfl dL_law_1232 ?_
    refine rt_iconst (pc := 1233) (n := 1) (v := (1 : Int32)) (by decide) dL_law_1233 ?_
    refine rt_iadd (pc := 1234) (x := a3) (z := (1 : Int32)) dL_law_1234 ?_
    by_cases c374 : (a3 + (1 : Int32)) < 0 ∨ X.2.2.2.2.2.2.2.1 ≤ ((a3 + (1 : Int32))).toNatClampNeg
    · rw [if_pos c374] at hf; cases hf
    rw [if_neg c374] at hf
    refine rt_sld (pc := 1235) (i := (a3 + (1 : Int32))) rfl dL_law_1235 c374 ?_
    obtain ⟨v377, w376, e375, hf⟩ := ob2_of hf
    have g378 := sX9_fall d (by omega) e375
    refine rt_callV (pc := 1236) (As := [.int (X.2.2.2.2.2.2.2.2 ((a3 + (1 : Int32))).toNatClampNeg)]) (st := []) me_X9_fall mi_X9_fall wl_L_140 dL_law_1236 rfl (by decide) rfl g378.1 g378.2 ?_
    refine rt_aload_n (pc := 1239) (k0 := 2) (x := a2) 2 rfl dL_law_1239 ?_
    refine rt_aload_n (pc := 1240) (k0 := 0) (x := (some X.2.2.2.2.2.2.1)) 0 rfl dL_law_1240 ?_
    refine rt_iload_n (pc := 1241) (k0 := 3) (x := a3) 3 rfl dL_law_1241 ?_
    refine rt_iconst (pc := 1242) (n := 1) (v := (1 : Int32)) (by decide) dL_law_1242 ?_
    refine rt_iadd (pc := 1243) (x := a3) (z := (1 : Int32)) dL_law_1243 ?_
    by_cases c379 : (a3 + (1 : Int32)) < 0 ∨ X.2.2.2.2.2.2.2.1 ≤ ((a3 + (1 : Int32))).toNatClampNeg
    · rw [if_pos c379] at hf; cases hf
    rw [if_neg c379] at hf
    refine rt_sld (pc := 1244) (i := (a3 + (1 : Int32))) rfl dL_law_1244 c379 ?_
    obtain ⟨v382, w381, e380, hf⟩ := ob2_of hf
    have g383 := sX10_fall d (by omega) e380
    refine rt_callV (pc := 1245) (As := [.int (X.2.2.2.2.2.2.2.2 ((a3 + (1 : Int32))).toNatClampNeg)]) (st := [.int v377]) me_X10_fall mi_X10_fall wl_L_143 dL_law_1245 rfl (by simp [rt_cat, cat_i, cat_l]) rfl g383.1 g383.2 ?_
    by_cases c384 : v377 = v382
    · rw [if_pos c384] at hf
      refine rt_icmp_eq_p (pc := 1248) (x := v377) (z := v382) (tgt := 1381) (by decide) dL_law_1248 c384 ?_
      exact rL_law_1381 hd ih hf
    rw [if_neg c384] at hf
    refine rt_icmp_eq_n (pc := 1248) (x := v377) (z := v382) (tgt := 1381) (by decide) dL_law_1248 c384 ?_
    refine rt_iconst (pc := 1251) (n := 0) (v := (0 : Int32)) (by decide) dL_law_1251 ?_
    cases hf
    exact rt_ret (pc := 1252) dL_law_1252 rfl
  rw [if_neg c373] at hf
  by_cases c385 : ((X.2.2.2.2.2.2.2.2 (a3).toNatClampNeg) &&& (63 : Int32)) = 30
  · rw [if_pos c385] at hf
    refine rt_tableIn (pc := 32) (x := ((X.2.2.2.2.2.2.2.2 (a3).toNatClampNeg) &&& (63 : Int32))) (off := 1221) (tgt := 1253) dL_law_32 (by rw [c385]; decide) (by rw [c385]; decide) (by rw [c385]; rfl) (by decide) ?_
    refine rt_aload_n (pc := 1253) (k0 := 1) (x := a1) 1 rfl dL_law_1253 ?_
    obtain ⟨v388, w387, e386, hf⟩ := ob2_of hf
    have g389 := sX9_crash d (by omega) e386
    refine rt_callV (pc := 1254) (As := []) (st := []) me_X9_crash mi_X9_crash wl_L_144 dL_law_1254 rfl (by decide) rfl g389.1 g389.2 ?_
    refine rt_aload_n (pc := 1257) (k0 := 2) (x := a2) 2 rfl dL_law_1257 ?_
    obtain ⟨v392, w391, e390, hf⟩ := ob2_of hf
    have g393 := sX10_crash d (by omega) e390
    refine rt_callV (pc := 1258) (As := []) (st := [.int v388]) me_X10_crash mi_X10_crash wl_L_147 dL_law_1258 rfl (by simp [rt_cat, cat_i, cat_l]) rfl g393.1 g393.2 ?_
    by_cases c394 : v388 = v392
    · rw [if_pos c394] at hf
      refine rt_icmp_eq_p (pc := 1261) (x := v388) (z := v392) (tgt := 1381) (by decide) dL_law_1261 c394 ?_
      exact rL_law_1381 hd ih hf
    rw [if_neg c394] at hf
    refine rt_icmp_eq_n (pc := 1261) (x := v388) (z := v392) (tgt := 1381) (by decide) dL_law_1261 c394 ?_
    refine rt_iconst (pc := 1264) (n := 0) (v := (0 : Int32)) (by decide) dL_law_1264 ?_
    cases hf
    exact rt_ret (pc := 1265) dL_law_1265 rfl
  rw [if_neg c385] at hf
  by_cases c395 : ((X.2.2.2.2.2.2.2.2 (a3).toNatClampNeg) &&& (63 : Int32)) = 31
  · rw [if_pos c395] at hf
    refine rt_tableIn (pc := 32) (x := ((X.2.2.2.2.2.2.2.2 (a3).toNatClampNeg) &&& (63 : Int32))) (off := 1234) (tgt := 1266) dL_law_32 (by rw [c395]; decide) (by rw [c395]; decide) (by rw [c395]; rfl) (by decide) ?_
    refine rt_aload_n (pc := 1266) (k0 := 1) (x := a1) 1 rfl dL_law_1266 ?_
    obtain ⟨v398, w397, e396, hf⟩ := ob2_of hf
    have g399 := sX9_rise d (by omega) e396
    refine rt_callV (pc := 1267) (As := []) (st := []) me_X9_rise mi_X9_rise wl_L_148 dL_law_1267 rfl (by decide) rfl g399.1 g399.2 ?_
    refine rt_aload_n (pc := 1270) (k0 := 2) (x := a2) 2 rfl dL_law_1270 ?_
    obtain ⟨v402, w401, e400, hf⟩ := ob2_of hf
    have g403 := sX10_rise d (by omega) e400
    refine rt_callV (pc := 1271) (As := []) (st := [.int v398]) me_X10_rise mi_X10_rise wl_L_151 dL_law_1271 rfl (by simp [rt_cat, cat_i, cat_l]) rfl g403.1 g403.2 ?_
    by_cases c404 : v398 = v402
    · rw [if_pos c404] at hf
      refine rt_icmp_eq_p (pc := 1274) (x := v398) (z := v402) (tgt := 1381) (by decide) dL_law_1274 c404 ?_
      exact rL_law_1381 hd ih hf
    rw [if_neg c404] at hf
    refine rt_icmp_eq_n (pc := 1274) (x := v398) (z := v402) (tgt := 1381) (by decide) dL_law_1274 c404 ?_
    refine rt_iconst (pc := 1277) (n := 0) (v := (0 : Int32)) (by decide) dL_law_1277 ?_
    cases hf
    exact rt_ret (pc := 1278) dL_law_1278 rfl
  rw [if_neg c395] at hf
  by_cases c405 : ((X.2.2.2.2.2.2.2.2 (a3).toNatClampNeg) &&& (63 : Int32)) = 32
  · rw [if_pos c405] at hf
    refine rt_tableIn (pc := 32) (x := ((X.2.2.2.2.2.2.2.2 (a3).toNatClampNeg) &&& (63 : Int32))) (off := 1247) (tgt := 1279) dL_law_32 (by rw [c405]; decide) (by rw [c405]; decide) (by rw [c405]; rfl) (by decide) ?_
    refine rt_aload_n (pc := 1279) (k0 := 1) (x := a1) 1 rfl dL_law_1279 ?_
    refine rt_aload_n (pc := 1280) (k0 := 0) (x := (some X.2.2.2.2.2.2.1)) 0 rfl dL_law_1280 ?_
    refine rt_iload_n (pc := 1281) (k0 := 3) (x := a3) 3 rfl dL_law_1281 ?_
    refine rt_iconst (pc := 1282) (n := 1) (v := (1 : Int32)) (by decide) dL_law_1282 ?_
    refine rt_iadd (pc := 1283) (x := a3) (z := (1 : Int32)) dL_law_1283 ?_
    by_cases c406 : (a3 + (1 : Int32)) < 0 ∨ X.2.2.2.2.2.2.2.1 ≤ ((a3 + (1 : Int32))).toNatClampNeg
    · rw [if_pos c406] at hf; cases hf
    rw [if_neg c406] at hf
    refine rt_sld (pc := 1284) (i := (a3 + (1 : Int32))) rfl dL_law_1284 c406 ?_
    refine rt_aload_n (pc := 1285) (k0 := 0) (x := (some X.2.2.2.2.2.2.1)) 0 rfl dL_law_1285 ?_
    refine rt_iload_n (pc := 1286) (k0 := 3) (x := a3) 3 rfl dL_law_1286 ?_
    refine rt_iconst (pc := 1287) (n := 2) (v := (2 : Int32)) (by decide) dL_law_1287 ?_
    refine rt_iadd (pc := 1288) (x := a3) (z := (2 : Int32)) dL_law_1288 ?_
    by_cases c407 : (a3 + (2 : Int32)) < 0 ∨ X.2.2.2.2.2.2.2.1 ≤ ((a3 + (2 : Int32))).toNatClampNeg
    · rw [if_pos c407] at hf; cases hf
    rw [if_neg c407] at hf
    refine rt_sld (pc := 1289) (i := (a3 + (2 : Int32))) rfl dL_law_1289 c407 ?_
    obtain ⟨v410, w409, e408, hf⟩ := ob2_of hf
    have g411 := sX9_disk d (by omega) e408
    refine rt_callV (pc := 1290) (As := [.int (X.2.2.2.2.2.2.2.2 ((a3 + (1 : Int32))).toNatClampNeg), .int (X.2.2.2.2.2.2.2.2 ((a3 + (2 : Int32))).toNatClampNeg)]) (st := []) me_X9_disk mi_X9_disk wl_L_152 dL_law_1290 rfl (by decide) rfl g411.1 g411.2 ?_
    refine rt_aload_n (pc := 1293) (k0 := 2) (x := a2) 2 rfl dL_law_1293 ?_
    refine rt_aload_n (pc := 1294) (k0 := 0) (x := (some X.2.2.2.2.2.2.1)) 0 rfl dL_law_1294 ?_
    refine rt_iload_n (pc := 1295) (k0 := 3) (x := a3) 3 rfl dL_law_1295 ?_
    refine rt_iconst (pc := 1296) (n := 1) (v := (1 : Int32)) (by decide) dL_law_1296 ?_
    refine rt_iadd (pc := 1297) (x := a3) (z := (1 : Int32)) dL_law_1297 ?_
    by_cases c412 : (a3 + (1 : Int32)) < 0 ∨ X.2.2.2.2.2.2.2.1 ≤ ((a3 + (1 : Int32))).toNatClampNeg
    · rw [if_pos c412] at hf; cases hf
    rw [if_neg c412] at hf
    refine rt_sld (pc := 1298) (i := (a3 + (1 : Int32))) rfl dL_law_1298 c412 ?_
    refine rt_aload_n (pc := 1299) (k0 := 0) (x := (some X.2.2.2.2.2.2.1)) 0 rfl dL_law_1299 ?_
    refine rt_iload_n (pc := 1300) (k0 := 3) (x := a3) 3 rfl dL_law_1300 ?_
    refine rt_iconst (pc := 1301) (n := 2) (v := (2 : Int32)) (by decide) dL_law_1301 ?_
    refine rt_iadd (pc := 1302) (x := a3) (z := (2 : Int32)) dL_law_1302 ?_
    by_cases c413 : (a3 + (2 : Int32)) < 0 ∨ X.2.2.2.2.2.2.2.1 ≤ ((a3 + (2 : Int32))).toNatClampNeg
    · rw [if_pos c413] at hf; cases hf
    rw [if_neg c413] at hf
    refine rt_sld (pc := 1303) (i := (a3 + (2 : Int32))) rfl dL_law_1303 c413 ?_
    obtain ⟨v416, w415, e414, hf⟩ := ob2_of hf
    have g417 := sX10_disk d (by omega) e414
    refine rt_callV (pc := 1304) (As := [.int (X.2.2.2.2.2.2.2.2 ((a3 + (1 : Int32))).toNatClampNeg), .int (X.2.2.2.2.2.2.2.2 ((a3 + (2 : Int32))).toNatClampNeg)]) (st := [.int v410]) me_X10_disk mi_X10_disk wl_L_155 dL_law_1304 rfl (by simp [rt_cat, cat_i, cat_l]) rfl g417.1 g417.2 ?_
    by_cases c418 : v410 = v416
    · rw [if_pos c418] at hf
      refine rt_icmp_eq_p (pc := 1307) (x := v410) (z := v416) (tgt := 1381) (by decide) dL_law_1307 c418 ?_
      exact rL_law_1381 hd ih hf
    rw [if_neg c418] at hf
    refine rt_icmp_eq_n (pc := 1307) (x := v410) (z := v416) (tgt := 1381) (by decide) dL_law_1307 c418 ?_
    refine rt_iconst (pc := 1310) (n := 0) (v := (0 : Int32)) (by decide) dL_law_1310 ?_
    cases hf
    exact rt_ret (pc := 1311) dL_law_1311 rfl
  rw [if_neg c405] at hf
  by_cases c419 : ((X.2.2.2.2.2.2.2.2 (a3).toNatClampNeg) &&& (63 : Int32)) = 33
  · rw [if_pos c419] at hf
    refine rt_tableIn (pc := 32) (x := ((X.2.2.2.2.2.2.2.2 (a3).toNatClampNeg) &&& (63 : Int32))) (off := 1280) (tgt := 1312) dL_law_32 (by rw [c419]; decide) (by rw [c419]; decide) (by rw [c419]; rfl) (by decide) ?_
    refine rt_aload_n (pc := 1312) (k0 := 1) (x := a1) 1 rfl dL_law_1312 ?_
    refine rt_aload_n (pc := 1313) (k0 := 0) (x := (some X.2.2.2.2.2.2.1)) 0 rfl dL_law_1313 ?_
    refine rt_iload_n (pc := 1314) (k0 := 3) (x := a3) 3 rfl dL_law_1314 ?_
    refine rt_iconst (pc := 1315) (n := 1) (v := (1 : Int32)) (by decide) dL_law_1315 ?_
    refine rt_iadd (pc := 1316) (x := a3) (z := (1 : Int32)) dL_law_1316 ?_
    by_cases c420 : (a3 + (1 : Int32)) < 0 ∨ X.2.2.2.2.2.2.2.1 ≤ ((a3 + (1 : Int32))).toNatClampNeg
    · rw [if_pos c420] at hf; cases hf
    rw [if_neg c420] at hf
    refine rt_sld (pc := 1317) (i := (a3 + (1 : Int32))) rfl dL_law_1317 c420 ?_
    obtain ⟨v423, w422, e421, hf⟩ := ob2_of hf
    have g424 := sX9_bend d (by omega) e421
    refine rt_callV (pc := 1318) (As := [.int (X.2.2.2.2.2.2.2.2 ((a3 + (1 : Int32))).toNatClampNeg)]) (st := []) me_X9_bend mi_X9_bend wl_L_156 dL_law_1318 rfl (by decide) rfl g424.1 g424.2 ?_
    refine rt_aload_n (pc := 1321) (k0 := 2) (x := a2) 2 rfl dL_law_1321 ?_
    refine rt_aload_n (pc := 1322) (k0 := 0) (x := (some X.2.2.2.2.2.2.1)) 0 rfl dL_law_1322 ?_
    refine rt_iload_n (pc := 1323) (k0 := 3) (x := a3) 3 rfl dL_law_1323 ?_
    refine rt_iconst (pc := 1324) (n := 1) (v := (1 : Int32)) (by decide) dL_law_1324 ?_
    refine rt_iadd (pc := 1325) (x := a3) (z := (1 : Int32)) dL_law_1325 ?_
    by_cases c425 : (a3 + (1 : Int32)) < 0 ∨ X.2.2.2.2.2.2.2.1 ≤ ((a3 + (1 : Int32))).toNatClampNeg
    · rw [if_pos c425] at hf; cases hf
    rw [if_neg c425] at hf
    refine rt_sld (pc := 1326) (i := (a3 + (1 : Int32))) rfl dL_law_1326 c425 ?_
    obtain ⟨v428, w427, e426, hf⟩ := ob2_of hf
    have g429 := sX10_bend d (by omega) e426
    refine rt_callV (pc := 1327) (As := [.int (X.2.2.2.2.2.2.2.2 ((a3 + (1 : Int32))).toNatClampNeg)]) (st := [.int v423]) me_X10_bend mi_X10_bend wl_L_159 dL_law_1327 rfl (by simp [rt_cat, cat_i, cat_l]) rfl g429.1 g429.2 ?_
    by_cases c430 : v423 = v428
    · rw [if_pos c430] at hf
      refine rt_icmp_eq_p (pc := 1330) (x := v423) (z := v428) (tgt := 1381) (by decide) dL_law_1330 c430 ?_
      exact rL_law_1381 hd ih hf
    rw [if_neg c430] at hf
    refine rt_icmp_eq_n (pc := 1330) (x := v423) (z := v428) (tgt := 1381) (by decide) dL_law_1330 c430 ?_
    refine rt_iconst (pc := 1333) (n := 0) (v := (0 : Int32)) (by decide) dL_law_1333 ?_
    cases hf
    exact rt_ret (pc := 1334) dL_law_1334 rfl
  rw [if_neg c419] at hf
  by_cases c431 : ((X.2.2.2.2.2.2.2.2 (a3).toNatClampNeg) &&& (63 : Int32)) = 34
  · rw [if_pos c431] at hf
    refine rt_tableIn (pc := 32) (x := ((X.2.2.2.2.2.2.2.2 (a3).toNatClampNeg) &&& (63 : Int32))) (off := 1303) (tgt := 1335) dL_law_32 (by rw [c431]; decide) (by rw [c431]; decide) (by rw [c431]; rfl) (by decide) ?_
    refine rt_aload_n (pc := 1335) (k0 := 1) (x := a1) 1 rfl dL_law_1335 ?_
    refine rt_aload_n (pc := 1336) (k0 := 0) (x := (some X.2.2.2.2.2.2.1)) 0 rfl dL_law_1336 ?_
    refine rt_iload_n (pc := 1337) (k0 := 3) (x := a3) 3 rfl dL_law_1337 ?_
    refine rt_iconst (pc := 1338) (n := 1) (v := (1 : Int32)) (by decide) dL_law_1338 ?_
    refine rt_iadd (pc := 1339) (x := a3) (z := (1 : Int32)) dL_law_1339 ?_
    by_cases c432 : (a3 + (1 : Int32)) < 0 ∨ X.2.2.2.2.2.2.2.1 ≤ ((a3 + (1 : Int32))).toNatClampNeg
    · rw [if_pos c432] at hf; cases hf
    rw [if_neg c432] at hf
    refine rt_sld (pc := 1340) (i := (a3 + (1 : Int32))) rfl dL_law_1340 c432 ?_
    obtain ⟨v435, w434, e433, hf⟩ := ob2_of hf
    have g436 := sX9_writes d (by omega) e433
    refine rt_callV (pc := 1341) (As := [.int (X.2.2.2.2.2.2.2.2 ((a3 + (1 : Int32))).toNatClampNeg)]) (st := []) me_X9_writes mi_X9_writes wl_L_160 dL_law_1341 rfl (by decide) rfl g436.1 g436.2 ?_
    refine rt_aload_n (pc := 1344) (k0 := 2) (x := a2) 2 rfl dL_law_1344 ?_
    refine rt_aload_n (pc := 1345) (k0 := 0) (x := (some X.2.2.2.2.2.2.1)) 0 rfl dL_law_1345 ?_
    refine rt_iload_n (pc := 1346) (k0 := 3) (x := a3) 3 rfl dL_law_1346 ?_
    refine rt_iconst (pc := 1347) (n := 1) (v := (1 : Int32)) (by decide) dL_law_1347 ?_
    refine rt_iadd (pc := 1348) (x := a3) (z := (1 : Int32)) dL_law_1348 ?_
    by_cases c437 : (a3 + (1 : Int32)) < 0 ∨ X.2.2.2.2.2.2.2.1 ≤ ((a3 + (1 : Int32))).toNatClampNeg
    · rw [if_pos c437] at hf; cases hf
    rw [if_neg c437] at hf
    refine rt_sld (pc := 1349) (i := (a3 + (1 : Int32))) rfl dL_law_1349 c437 ?_
    obtain ⟨v440, w439, e438, hf⟩ := ob2_of hf
    have g441 := sX10_writes d (by omega) e438
    refine rt_callV (pc := 1350) (As := [.int (X.2.2.2.2.2.2.2.2 ((a3 + (1 : Int32))).toNatClampNeg)]) (st := [.int v435]) me_X10_writes mi_X10_writes wl_L_163 dL_law_1350 rfl (by simp [rt_cat, cat_i, cat_l]) rfl g441.1 g441.2 ?_
    by_cases c442 : v435 = v440
    · rw [if_pos c442] at hf
      refine rt_icmp_eq_p (pc := 1353) (x := v435) (z := v440) (tgt := 1381) (by decide) dL_law_1353 c442 ?_
      exact rL_law_1381 hd ih hf
    rw [if_neg c442] at hf
    refine rt_icmp_eq_n (pc := 1353) (x := v435) (z := v440) (tgt := 1381) (by decide) dL_law_1353 c442 ?_
    refine rt_iconst (pc := 1356) (n := 0) (v := (0 : Int32)) (by decide) dL_law_1356 ?_
    cases hf
    exact rt_ret (pc := 1357) dL_law_1357 rfl
  rw [if_neg c431] at hf
  by_cases c443 : ((X.2.2.2.2.2.2.2.2 (a3).toNatClampNeg) &&& (63 : Int32)) = 35
  · rw [if_pos c443] at hf
    refine rt_tableIn (pc := 32) (x := ((X.2.2.2.2.2.2.2.2 (a3).toNatClampNeg) &&& (63 : Int32))) (off := 1326) (tgt := 1358) dL_law_32 (by rw [c443]; decide) (by rw [c443]; decide) (by rw [c443]; rfl) (by decide) ?_
    refine rt_aload_n (pc := 1358) (k0 := 1) (x := a1) 1 rfl dL_law_1358 ?_
    refine rt_aload_n (pc := 1359) (k0 := 0) (x := (some X.2.2.2.2.2.2.1)) 0 rfl dL_law_1359 ?_
    refine rt_iload_n (pc := 1360) (k0 := 3) (x := a3) 3 rfl dL_law_1360 ?_
    refine rt_iconst (pc := 1361) (n := 1) (v := (1 : Int32)) (by decide) dL_law_1361 ?_
    refine rt_iadd (pc := 1362) (x := a3) (z := (1 : Int32)) dL_law_1362 ?_
    by_cases c444 : (a3 + (1 : Int32)) < 0 ∨ X.2.2.2.2.2.2.2.1 ≤ ((a3 + (1 : Int32))).toNatClampNeg
    · rw [if_pos c444] at hf; cases hf
    rw [if_neg c444] at hf
    refine rt_sld (pc := 1363) (i := (a3 + (1 : Int32))) rfl dL_law_1363 c444 ?_
    obtain ⟨v447, w446, e445, hf⟩ := ob2_of hf
    have g448 := sX9_number d (by omega) e445
    refine rt_callV (pc := 1364) (As := [.int (X.2.2.2.2.2.2.2.2 ((a3 + (1 : Int32))).toNatClampNeg)]) (st := []) me_X9_number mi_X9_number wl_L_164 dL_law_1364 rfl (by decide) rfl g448.1 g448.2 ?_
    refine rt_aload_n (pc := 1367) (k0 := 2) (x := a2) 2 rfl dL_law_1367 ?_
    refine rt_aload_n (pc := 1368) (k0 := 0) (x := (some X.2.2.2.2.2.2.1)) 0 rfl dL_law_1368 ?_
    refine rt_iload_n (pc := 1369) (k0 := 3) (x := a3) 3 rfl dL_law_1369 ?_
    refine rt_iconst (pc := 1370) (n := 1) (v := (1 : Int32)) (by decide) dL_law_1370 ?_
    refine rt_iadd (pc := 1371) (x := a3) (z := (1 : Int32)) dL_law_1371 ?_
    by_cases c449 : (a3 + (1 : Int32)) < 0 ∨ X.2.2.2.2.2.2.2.1 ≤ ((a3 + (1 : Int32))).toNatClampNeg
    · rw [if_pos c449] at hf; cases hf
    rw [if_neg c449] at hf
    refine rt_sld (pc := 1372) (i := (a3 + (1 : Int32))) rfl dL_law_1372 c449 ?_
    obtain ⟨v452, w451, e450, hf⟩ := ob2_of hf
    have g453 := sX10_number_ d (by omega) e450
    refine rt_callV (pc := 1373) (As := [.int (X.2.2.2.2.2.2.2.2 ((a3 + (1 : Int32))).toNatClampNeg)]) (st := [.int v447]) me_X10_number_ mi_X10_number_ wl_L_167 dL_law_1373 rfl (by simp [rt_cat, cat_i, cat_l]) rfl g453.1 g453.2 ?_
    by_cases c454 : v447 = v452
    · rw [if_pos c454] at hf
      refine rt_icmp_eq_p (pc := 1376) (x := v447) (z := v452) (tgt := 1381) (by decide) dL_law_1376 c454 ?_
      exact rL_law_1381 hd ih hf
    rw [if_neg c454] at hf
    refine rt_icmp_eq_n (pc := 1376) (x := v447) (z := v452) (tgt := 1381) (by decide) dL_law_1376 c454 ?_
    refine rt_iconst (pc := 1379) (n := 0) (v := (0 : Int32)) (by decide) dL_law_1379 ?_
    cases hf
    exact rt_ret (pc := 1380) dL_law_1380 rfl
  rw [if_neg c443] at hf
  refine rt_tableOut (pc := 32) (x := ((X.2.2.2.2.2.2.2.2 (a3).toNatClampNeg) &&& (63 : Int32))) (tgt := 1381) (by decide) dL_law_32 (by have q0 := lv_neT (a := 0) c3 (by decide); have q1 := lv_neT (a := 1) c19 (by decide); have q2 := lv_neT (a := 2) c31 (by decide); have q3 := lv_neT (a := 3) c43 (by decide); have q4 := lv_neT (a := 4) c57 (by decide); have q5 := lv_neT (a := 5) c71 (by decide); have q6 := lv_neT (a := 6) c87 (by decide); have q7 := lv_neT (a := 7) c101 (by decide); have q8 := lv_neT (a := 8) c119 (by decide); have q9 := lv_neT (a := 9) c133 (by decide); have q10 := lv_neT (a := 10) c147 (by decide); have q11 := lv_neT (a := 11) c161 (by decide); have q12 := lv_neT (a := 12) c175 (by decide); have q13 := lv_neT (a := 13) c185 (by decide); have q14 := lv_neT (a := 14) c195 (by decide); have q15 := lv_neT (a := 15) c205 (by decide); have q16 := lv_neT (a := 16) c215 (by decide); have q17 := lv_neT (a := 17) c225 (by decide); have q18 := lv_neT (a := 18) c235 (by decide); have q19 := lv_neT (a := 19) c245 (by decide); have q20 := lv_neT (a := 20) c259 (by decide); have q21 := lv_neT (a := 21) c273 (by decide); have q22 := lv_neT (a := 22) c289 (by decide); have q23 := lv_neT (a := 23) c303 (by decide); have q24 := lv_neT (a := 24) c313 (by decide); have q25 := lv_neT (a := 25) c323 (by decide); have q26 := lv_neT (a := 26) c339 (by decide); have q27 := lv_neT (a := 27) c351 (by decide); have q28 := lv_neT (a := 28) c363 (by decide); have q29 := lv_neT (a := 29) c373 (by decide); have q30 := lv_neT (a := 30) c385 (by decide); have q31 := lv_neT (a := 31) c395 (by decide); have q32 := lv_neT (a := 32) c405 (by decide); have q33 := lv_neT (a := 33) c419 (by decide); have q34 := lv_neT (a := 34) c431 (by decide); have q35 := lv_neT (a := 35) c443 (by decide); omega) ?_
  exact rL_law_1381 hd ih hf
noncomputable def bL_law_0 (E : ah_E) (h : ah_H) : Option (Int32 × ah_H) :=
  (hp_new h 10 nf_10 10).bind fun w1 =>
  (fX9_init E (some h.1) w1).bind fun w4 =>
  (hp_new w4 11 nf_11 78).bind fun w6 =>
  (fX10_init E (some w4.1) w6).bind fun w9 =>
  bL_law_18 E zf (some h.1) (some w4.1) (0 : Int32) w9
set_option maxRecDepth 20000 in
set_option maxHeartbeats 4000000 in
theorem rL_law_0 {X : ah_X} {d : Nat} (hd : 150 ≤ d)  {h : ah_H} {r : Int32} {h2 : ah_H} (hf : bL_law_0 X.2.2.2  h = some (r, h2)) : Rt X yL_law cL_law 4 (d + 1) 0 [(0, va_rf (some X.2.2.2.2.2.2.1))] [] h (some (.int r)) h2 := by
  unfold bL_law_0 at hf
  obtain ⟨w1, e2, hf⟩ := ob1 hf
  refine rt_newB (pc := 0) nw_L_7 dL_law_0 e2 ?_
  refine rt_dup (pc := 3) (rt_cat _) dL_law_3 ?_
  obtain ⟨w4, e3, hf⟩ := ob1 hf
  have g5 := sX9_init d (by omega) e3
  refine rt_callI (pc := 4) (As := []) (st := [va_rf (some h.1)]) (ci := 10) me_X9_init mI_X9_init wl_L_9 dL_law_4 rfl (by simp [rt_cat, cat_i, cat_l]) rfl g5.1 g5.2 ?_
  refine rt_astore_n (pc := 7) (k0 := 1) (x := (some h.1)) (l2 := [(1, va_rf (some h.1)), (0, va_rf (some X.2.2.2.2.2.2.1))]) (by decide) (by first | rfl | (simp [rt_cat, cat_i, cat_l]; done) | (simp [rt_cat, cat_i, cat_l]; decide)) dL_law_7 ?_
  obtain ⟨w6, e7, hf⟩ := ob1 hf
  refine rt_newB (pc := 8) nw_L_10 dL_law_8 e7 ?_
  refine rt_dup (pc := 11) (rt_cat _) dL_law_11 ?_
  obtain ⟨w9, e8, hf⟩ := ob1 hf
  have g10 := sX10_init d (by omega) e8
  refine rt_callI (pc := 12) (As := []) (st := [va_rf (some w4.1)]) (ci := 11) me_X10_init mI_X10_init wl_L_12 dL_law_12 rfl (by simp [rt_cat, cat_i, cat_l]) rfl g10.1 g10.2 ?_
  refine rt_astore_n (pc := 15) (k0 := 2) (x := (some w4.1)) (l2 := [(2, va_rf (some w4.1)), (1, va_rf (some h.1)), (0, va_rf (some X.2.2.2.2.2.2.1))]) (by decide) (by first | rfl | (simp [rt_cat, cat_i, cat_l]; done) | (simp [rt_cat, cat_i, cat_l]; decide)) dL_law_15 ?_
  refine rt_iconst (pc := 16) (n := 0) (v := (0 : Int32)) (by decide) dL_law_16 ?_
  refine rt_istore_n (pc := 17) (k0 := 3) (x := (0 : Int32)) (l2 := [(3, .int (0 : Int32)), (2, va_rf (some w4.1)), (1, va_rf (some h.1)), (0, va_rf (some X.2.2.2.2.2.2.1))]) (by decide) (by first | rfl | (simp [rt_cat, cat_i, cat_l]; done) | (simp [rt_cat, cat_i, cat_l]; decide)) dL_law_17 ?_
  exact rt_locals (rt_sub [3, 2, 1, 0] rfl) (rL_law_18 hd zf _ _ _ _ _ _ hf)
noncomputable def fL_law (E : ah_E) (h : ah_H) : Option (Int32 × ah_H) := bL_law_0 E h
