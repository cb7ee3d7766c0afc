theorem u_bJ7_fill_031fb_5 (E : ah_E) (n : Nat) (a0 : Option Nat) (a1 : Int32) (a2 : Int32) (a3 : Int32) (h : ah_H) : bJ7_fill_031fb_5 E (n + 1) a0 a1 a2 a3 h = (if a3 ≤ a2 then
    some h
  else
  (hp_stb h a0 a2 a1).bind fun w2 =>
  bJ7_fill_031fb_5 E n a0 a1 (a2 + 1) a3 w2) := id rfl
theorem u_bJx4a65c_clear_da8c8_27 (E : ah_E) (n : Nat) (a1 : Option Nat) (a2 : Int32) (a3 : Int32) (h : ah_H) : bJx4a65c_clear_da8c8_27 E (n + 1) a1 a2 a3 h = (if a2 ≤ a3 then
    some h
  else
  (hp_stq h a1 a3 none).bind fun w2 =>
  bJx4a65c_clear_da8c8_27 E n a1 a2 (a3 + 1) w2) := id rfl
theorem u_bX1_firstNotBelow_14 (E : ah_E) (n : Nat) (a0 : Option Nat) (a1 : Int64) (a3 : Int32) (a4 : Int32) (a5 : Int32) (h : ah_H) : bX1_firstNotBelow_14 E (n + 1) a0 a1 a3 a4 a5 h = (if (32 : Int32) ≤ a5 then
    bX1_firstNotBelow_73 E a3 h
  else
  if a4 ≤ a3 then
    bX1_firstNotBelow_73 E a3 h
  else
  (hp_gr h a0 2 0).bind fun v4 =>
  ob2 (fJx4a65c_get_915e3 E v4 ((a3 + a4) / (2 : Int32)) h) fun v8 w7 =>
  if hp_cls w7 v8 3 = false then none else
  (hp_gl w7 v8 3 0).bind fun v11 =>
  if a1 ≤ v11 then
    bX1_firstNotBelow_67 E (bX1_firstNotBelow_14 E n) a0 a1 a3 ((a3 + a4) / (2 : Int32)) a5 w7
  else
  bX1_firstNotBelow_67 E (bX1_firstNotBelow_14 E n) a0 a1 (((a3 + a4) / (2 : Int32)) + (1 : Int32)) a4 a5 w7) := id rfl
theorem u_bX1_removeFrom_12 (E : ah_E) (n : Nat) (a0 : Option Nat) (a1 : Int32) (a2 : Int64) (a4 : Int32) (a5 : Int32) (h : ah_H) : bX1_removeFrom_12 E (n + 1) a0 a1 a2 a4 a5 h = (if a4 ≤ a5 then
    bX1_removeFrom_64 E a0 a4 h
  else
  (hp_gr h a0 2 0).bind fun v2 =>
  ob2 (fJx4a65c_size_8abf5 E v2 h) fun v6 w5 =>
  if v6 ≤ a1 then
    bX1_removeFrom_64 E a0 a4 w5
  else
  (hp_gr w5 a0 2 0).bind fun v9 =>
  ob2 (fJx4a65c_get_915e3 E v9 a1 w5) fun v13 w12 =>
  if hp_cls w12 v13 3 = false then none else
  (hp_gl w12 v13 3 0).bind fun v16 =>
  if a2 < v16 then
    bX1_removeFrom_64 E a0 a4 w12
  else
  (hp_gr w12 a0 2 0).bind fun v19 =>
  ob2 (fJx4a65c_remove_915e3 E v19 a1 w12) fun v23 w22 =>
  bX1_removeFrom_12 E n a0 a1 a2 a4 (a5 + 1) w22) := id rfl
theorem u_bX4_changes_58 (E : ah_E) (n : Nat) (a0 : Option Nat) (a1 : Option Nat) (a2 : Int32) (a3 : Int32) (h : ah_H) : bX4_changes_58 E (n + 1) a0 a1 a2 a3 h = (if a2 = 0 then
    bX4_changes_92 E a2 h
  else
  (hp_len h a1).bind fun v2 =>
  if v2 ≤ a3 then
    bX4_changes_92 E a2 h
  else
  (hp_ldb h a1 a3).bind fun v5 =>
  (hp_gr h a0 5 4).bind fun v7 =>
  (hp_ldb h v7 a3).bind fun v9 =>
  if v5 = v9 then
    bX4_changes_85 E (bX4_changes_58 E n) a0 a1 a3 (1 : Int32) h
  else
  bX4_changes_85 E (bX4_changes_58 E n) a0 a1 a3 (0 : Int32) h) := id rfl
theorem u_bX4_rowAfter_59 (E : ah_E) (n : Nat) (a0 : Option Nat) (a1 : Option Nat) (a2 : Int32) (a3 : Option Nat) (a4 : Int32) (h : ah_H) : bX4_rowAfter_59 E (n + 1) a0 a1 a2 a3 a4 h = (if a2 ≤ a4 then
    some (a3, h)
  else
  (hp_gr h a0 5 5).bind fun v2 =>
  (hp_len h a1).bind fun v4 =>
  (hp_ldb h v2 (a4 - v4)).bind fun v6 =>
  (hp_stb h a3 a4 v6).bind fun w8 =>
  bX4_rowAfter_59 E n a0 a1 a2 a3 (a4 + 1) w8) := id rfl
theorem u_bX5_isChangedBy_2 (E : ah_E) (n : Nat) (a0 : Option Nat) (a1 : Option Nat) (a2 : Int32) (h : ah_H) : bX5_isChangedBy_2 E (n + 1) a0 a1 a2 h = (ob2 (fJx4a65c_size_8abf5 E a1 h) fun v3 w2 =>
  if v3 ≤ a2 then
    some ((0 : Int32), w2)
  else
  ob2 (fX5_isLeaf E a0 w2) fun v8 w7 =>
  if v8 = 0 then
    bX5_isChangedBy_35 E  w7
  else
  (hp_gr w7 a0 6 1).bind fun v11 =>
  ob2 (fJx4a65c_get_915e3 E a1 a2 w7) fun v15 w14 =>
  if hp_cls w14 v15 5 = false then none else
  ob2 (fX1_isChangedBy E v11 v15 w14) fun v20 w19 =>
  if v20 = 0 then
    bX5_isChangedBy_2 E n a0 a1 (a2 + 1) w19
  else
  bX5_isChangedBy_35 E  w19) := id rfl
theorem u_bX5_copyInto_59 (E : ah_E) (n : Nat) (a0 : Option Nat) (a1 : Option Nat) (a3 : Int32) (a4 : Int32) (h : ah_H) : bX5_copyInto_59 E (n + 1) a0 a1 a3 a4 h = (if a3 ≤ a4 then
    bX5_copyInto_103 E  h
  else
  (hp_gr h a0 6 2).bind fun v2 =>
  ob2 (fJx4a65c_size_8abf5 E v2 h) fun v6 w5 =>
  if v6 ≤ a4 then
    bX5_copyInto_103 E  w5
  else
  (hp_gr w5 a1 6 2).bind fun v9 =>
  (hp_gr w5 a0 6 2).bind fun v11 =>
  ob2 (fJx4a65c_get_915e3 E v11 a4 w5) fun v15 w14 =>
  if hp_cls w14 v15 6 = false then none else
  ob2 (fJx4a65c_add_9ea2d E v9 v15 w14) fun v20 w19 =>
  bX5_copyInto_59 E n a0 a1 a3 (a4 + 1) w19) := id rfl
theorem u_bX5_copyInto_3 (E : ah_E) (n : Nat) (a0 : Option Nat) (a1 : Option Nat) (a2 : Int32) (a3 : Int32) (a4 : Int32) (h : ah_H) : bX5_copyInto_3 E (n + 1) a0 a1 a2 a3 a4 h = (if a3 ≤ a4 then
    bX5_copyInto_56 E a0 a1 a2 a3 h
  else
  (hp_gr h a0 6 1).bind fun v2 =>
  (hp_gr h v2 2 0).bind fun v4 =>
  ob2 (fJx4a65c_size_8abf5 E v4 h) fun v8 w7 =>
  if v8 ≤ a4 then
    bX5_copyInto_56 E a0 a1 a2 a3 w7
  else
  (hp_gr w7 a1 6 1).bind fun v11 =>
  (hp_gr w7 v11 2 0).bind fun v13 =>
  (hp_gr w7 a0 6 1).bind fun v15 =>
  (hp_gr w7 v15 2 0).bind fun v17 =>
  ob2 (fJx4a65c_get_915e3 E v17 a4 w7) fun v21 w20 =>
  if hp_cls w20 v21 3 = false then none else
  ob2 (fJx4a65c_add_9ea2d E v13 v21 w20) fun v26 w25 =>
  bX5_copyInto_3 E n a0 a1 a2 a3 (a4 + 1) w25) := id rfl
theorem u_bX5_opened_41 (E : ah_E) (n : Nat) (a0 : Option Nat) (a1 : Option Nat) (a2 : Int32) (h : ah_H) : bX5_opened_41 E (n + 1) a0 a1 a2 h = ((hp_gr h a0 6 3).bind fun v1 =>
  ob2 (fJx4a65c_size_8abf5 E v1 h) fun v5 w4 =>
  if v5 ≤ a2 then
    some (a1, w4)
  else
  (hp_gr w4 a1 6 3).bind fun v8 =>
  (hp_gr w4 a0 6 3).bind fun v10 =>
  ob2 (fJx4a65c_get_915e3 E v10 a2 w4) fun v14 w13 =>
  if hp_cls w13 v14 5 = false then none else
  ob2 (fJx4a65c_add_9ea2d E v8 v14 w13) fun v19 w18 =>
  bX5_opened_41 E n a0 a1 (a2 + 1) w18) := id rfl
theorem u_bX5_takeInParts_2 (E : ah_E) (n : Nat) (a0 : Option Nat) (a1 : Option Nat) (a2 : Int32) (h : ah_H) : bX5_takeInParts_2 E (n + 1) a0 a1 a2 h = ((hp_gr h a0 6 2).bind fun v1 =>
  ob2 (fJx4a65c_size_8abf5 E v1 h) fun v5 w4 =>
  if v5 ≤ a2 then
    some w4
  else
  (hp_gl w4 a1 5 2).bind fun v8 =>
  (hp_gr w4 a0 6 2).bind fun v10 =>
  ob2 (fJx4a65c_get_915e3 E v10 a2 w4) fun v14 w13 =>
  if hp_cls w13 v14 6 = false then none else
  (hp_gl w13 v14 6 0).bind fun v17 =>
  ob2 (fJ9_max_f86c9 E v8 v17 w13) fun v21 w20 =>
  (hp_gl w20 a1 5 3).bind fun v23 =>
  ob2 (fX5_lastKeyOf E a0 a2 w20) fun v27 w26 =>
  ob2 (fJ9_min_f86c9 E v23 v27 w26) fun v31 w30 =>
  if v31 < v21 then
    bX5_takeInParts_85 E (bX5_takeInParts_2 E n) a0 a1 a2 w30
  else
  (hp_gr w30 a0 6 3).bind fun v34 =>
  (hp_new w30 5 nf_5 6).bind fun w36 =>
  (hp_gi w36 a1 5 1).bind fun v38 =>
  (fX4_init E (some w30.1) (5 : Int32) v38 v21 v31 (some E.2.1) (some E.2.1) w36).bind fun w41 =>
  ob2 (fJx4a65c_add_9ea2d E v34 (some w30.1) w41) fun v45 w44 =>
  bX5_takeInParts_85 E (bX5_takeInParts_2 E n) a0 a1 a2 w44) := id rfl
theorem u_bX5_takeIn_2 (E : ah_E) (n : Nat) (a0 : Option Nat) (a1 : Option Nat) (a2 : Int32) (h : ah_H) : bX5_takeIn_2 E (n + 1) a0 a1 a2 h = (ob2 (fJx4a65c_size_8abf5 E a1 h) fun v3 w2 =>
  if v3 ≤ a2 then
    some w2
  else
  ob2 (fJx4a65c_get_915e3 E a1 a2 w2) fun v8 w7 =>
  if hp_cls w7 v8 5 = false then none else
  ob2 (fX5_isLeaf E a0 w7) fun v13 w12 =>
  if v13 = 0 then
    (hp_gi w12 v8 5 0).bind fun v16 =>
    if v16 = (5 : Int32) then
      (fX5_takeInParts E a0 v8 w12).bind fun w20 =>
      bX5_takeIn_63 E (bX5_takeIn_2 E n) a0 a1 a2 w20
    else
    (hp_gr w12 a0 6 3).bind fun v22 =>
    ob2 (fJx4a65c_add_9ea2d E v22 v8 w12) fun v26 w25 =>
    bX5_takeIn_63 E (bX5_takeIn_2 E n) a0 a1 a2 w25
  else
  (hp_gr w12 a0 6 1).bind fun v28 =>
  ob2 (fX1_act E v28 v8 w12) fun v32 w31 =>
  bX5_takeIn_63 E (bX5_takeIn_2 E n) a0 a1 a2 w31) := id rfl
theorem u_bX5_lettersFrom_6 (E : ah_E) (n : Nat) (a0 : Option Nat) (a1 : Int64) (a3 : Int64) (a5 : Int32) (a6 : Int32) (h : ah_H) : bX5_lettersFrom_6 E (n + 1) a0 a1 a3 a5 a6 h = ((hp_gr h a0 6 3).bind fun v1 =>
  ob2 (fJx4a65c_size_8abf5 E v1 h) fun v5 w4 =>
  if v5 ≤ a6 then
    some (a5, w4)
  else
  (hp_gr w4 a0 6 3).bind fun v8 =>
  ob2 (fJx4a65c_get_915e3 E v8 a6 w4) fun v12 w11 =>
  if hp_cls w11 v12 5 = false then none else
  (hp_gl w11 v12 5 2).bind fun v15 =>
  if v15 < a1 then
    bX5_lettersFrom_52 E (bX5_lettersFrom_6 E n) a0 a1 a3 a5 a6 w11
  else
  if a3 < v15 then
    bX5_lettersFrom_52 E (bX5_lettersFrom_6 E n) a0 a1 a3 a5 a6 w11
  else
  bX5_lettersFrom_52 E (bX5_lettersFrom_6 E n) a0 a1 a3 (a5 + 1) a6 w11) := id rfl
theorem u_bX5_fullestKid_6 (E : ah_E) (n : Nat) (a0 : Option Nat) (a1 : Int32) (a2 : Int32) (a3 : Int32) (h : ah_H) : bX5_fullestKid_6 E (n + 1) a0 a1 a2 a3 h = ((hp_gr h a0 6 2).bind fun v1 =>
  ob2 (fJx4a65c_size_8abf5 E v1 h) fun v5 w4 =>
  if v5 ≤ a3 then
    some (a1, w4)
  else
  (hp_gr w4 a0 6 2).bind fun v8 =>
  ob2 (fJx4a65c_get_915e3 E v8 a3 w4) fun v12 w11 =>
  if hp_cls w11 v12 6 = false then none else
  (hp_gl w11 v12 6 0).bind fun v15 =>
  ob2 (fX5_lastKeyOf E a0 a3 w11) fun v19 w18 =>
  ob2 (fX5_lettersFrom E a0 v15 v19 w18) fun v23 w22 =>
  if v23 ≤ a2 then
    bX5_fullestKid_53 E (bX5_fullestKid_6 E n) a0 a1 a2 a3 w22
  else
  bX5_fullestKid_53 E (bX5_fullestKid_6 E n) a0 a3 v23 a3 w22) := id rfl
theorem u_bX5_moveLetters_93 (E : ah_E) (n : Nat) (a0 : Option Nat) (a6 : Option Nat) (a7 : Int32) (h : ah_H) : bX5_moveLetters_93 E (n + 1) a0 a6 a7 h = (ob2 (fJx4a65c_size_8abf5 E a6 h) fun v3 w2 =>
  if v3 ≤ a7 then
    some w2
  else
  (hp_gr w2 a0 6 3).bind fun v6 =>
  ob2 (fJx4a65c_get_915e3 E a6 a7 w2) fun v10 w9 =>
  if hp_cls w9 v10 5 = false then none else
  ob2 (fJx4a65c_add_9ea2d E v6 v10 w9) fun v15 w14 =>
  bX5_moveLetters_93 E n a0 a6 (a7 + 1) w14) := id rfl
theorem u_bX5_moveLetters_12 (E : ah_E) (n : Nat) (a0 : Option Nat) (a1 : Int64) (a3 : Int64) (a5 : Option Nat) (a6 : Option Nat) (a7 : Int32) (h : ah_H) : bX5_moveLetters_12 E (n + 1) a0 a1 a3 a5 a6 a7 h = ((hp_gr h a0 6 3).bind fun v1 =>
  ob2 (fJx4a65c_size_8abf5 E v1 h) fun v5 w4 =>
  if v5 ≤ a7 then
    (hp_gr w4 a0 6 3).bind fun v8 =>
    (fJx4a65c_clear_da8c8 E v8 w4).bind fun w11 =>
    bX5_moveLetters_93 E zf a0 a6 (0 : Int32) w11
  else
  (hp_gr w4 a0 6 3).bind fun v13 =>
  ob2 (fJx4a65c_get_915e3 E v13 a7 w4) fun v17 w16 =>
  if hp_cls w16 v17 5 = false then none else
  (hp_gl w16 v17 5 2).bind fun v20 =>
  if v20 < a1 then
    bX5_moveLetters_69 E (bX5_moveLetters_12 E n) a0 a1 a3 a5 a6 a7 v17 w16
  else
  (hp_gl w16 v17 5 2).bind fun v23 =>
  if a3 < v23 then
    bX5_moveLetters_69 E (bX5_moveLetters_12 E n) a0 a1 a3 a5 a6 a7 v17 w16
  else
  ob2 (fJx4a65c_add_9ea2d E a5 v17 w16) fun v28 w27 =>
  bX5_moveLetters_77 E (bX5_moveLetters_12 E n) a0 a1 a3 a5 a6 a7 w27) := id rfl
theorem u_bX5_partKid_90 (E : ah_E) (n : Nat) (a0 : Option Nat) (a1 : Int32) (a2 : Option Nat) (a4 : Int32) (a5 : Int32) (a6 : Int32) (a7 : Int32) (h : ah_H) : bX5_partKid_90 E (n + 1) a0 a1 a2 a4 a5 a6 a7 h = (if a5 ≤ a7 then
    some h
  else
  if (a5 - a7) = 0 then none else
  (hp_gr h a0 6 2).bind fun v3 =>
  ob2 (fX5_partOf E a2 a6 (a6 + (((((a4 - a6) + a5) - a7) - (1 : Int32)) / (a5 - a7))) h) fun v7 w6 =>
  (fJx4a65c_add_7a177 E v3 (a1 + a7) v7 w6).bind fun w10 =>
  bX5_partKid_90 E n a0 a1 a2 a4 a5 (a6 + (((((a4 - a6) + a5) - a7) - (1 : Int32)) / (a5 - a7))) (a7 + 1) w10) := id rfl
theorem u_bX8_give_32 (E : ah_E) (kr : Option Nat → Option Nat → Int32 → ah_H → Option (Option Nat × ah_H)) (n : Nat) (a2 : Int32) (a3 : Option Nat) (a4 : Int32) (a5 : Int32) (h : ah_H) : bX8_give_32 E kr (n + 1) a2 a3 a4 a5 h = (if a4 ≤ a5 then
    bX8_give_63 E kr a3 h
  else
  (hp_gr h a3 6 3).bind fun v2 =>
  ob2 (fJx4a65c_size_8abf5 E v2 h) fun v6 w5 =>
  if v6 ≤ (8 : Int32) then
    bX8_give_63 E kr a3 w5
  else
  ob2 (fX8_sinkPage E kr a3 a2 w5) fun v11 w10 =>
  bX8_give_32 E kr n a2 a3 a4 (a5 + 1) w10) := id rfl
theorem u_fX8_give (E : ah_E) (n : Nat) (a0 : Option Nat) (a1 : Option Nat) (a2 : Int32) (h : ah_H) : fX8_give E (n + 1) a0 a1 a2 h = (gX8_give E (fX8_give E n) a0 a1 a2 h) := id rfl
theorem u_bX8_partRoot_2 (E : ah_E) (n : Nat) (a0 : Option Nat) (a1 : Int32) (h : ah_H) : bX8_partRoot_2 E (n + 1) a0 a1 h = (if (40 : Int32) ≤ a1 then
    bX8_partRoot_64 E  h
  else
  (hp_gr h a0 9 0).bind fun v2 =>
  ob2 (fX5_isTooBig E v2 h) fun v6 w5 =>
  if v6 = 0 then
    bX8_partRoot_64 E  w5
  else
  (hp_new w5 6 nf_6 5).bind fun w9 =>
  (hp_new w9 2 nf_2 1).bind fun w11 =>
  (fX1_init E (some w9.1) w11).bind fun w14 =>
  (fX5_init E (some w5.1) (-9223372036854775808 : Int64) (some w9.1) w14).bind fun w17 =>
  (hp_gr w17 (some w5.1) 6 2).bind fun v19 =>
  (hp_gr w17 a0 9 0).bind fun v21 =>
  ob2 (fJx4a65c_add_9ea2d E v19 v21 w17) fun v25 w24 =>
  (fX5_partKid E (some w5.1) (0 : Int32) w24).bind fun w28 =>
  (hp_pv w28 a0 9 0 (va_rf (some w5.1))).bind fun w30 =>
  bX8_partRoot_2 E n a0 (a1 + 1) w30) := id rfl
theorem u_bX8_pagesIn_4 (E : ah_E) (kr : Option Nat → Int32 → ah_H → Option (Int32 × ah_H)) (n : Nat) (a0 : Option Nat) (a1 : Int32) (a2 : Int32) (a3 : Int32) (h : ah_H) : bX8_pagesIn_4 E kr (n + 1) a0 a1 a2 a3 h = ((hp_gr h a0 6 2).bind fun v1 =>
  ob2 (fJx4a65c_size_8abf5 E v1 h) fun v5 w4 =>
  if v5 ≤ a3 then
    bX8_pagesIn_47 E kr a2 w4
  else
  if (40 : Int32) ≤ a1 then
    bX8_pagesIn_47 E kr a2 w4
  else
  (hp_gr w4 a0 6 2).bind fun v9 =>
  ob2 (fJx4a65c_get_915e3 E v9 a3 w4) fun v13 w12 =>
  if hp_cls w12 v13 6 = false then none else
  ob2 (kr v13 (a1 + (1 : Int32)) w12) fun v18 w17 =>
  bX8_pagesIn_4 E kr n a0 a1 (a2 + v18) (a3 + 1) w17) := id rfl
theorem u_fX8_pagesIn (E : ah_E) (n : Nat) (a0 : Option Nat) (a1 : Int32) (h : ah_H) : fX8_pagesIn E (n + 1) a0 a1 h = (gX8_pagesIn E (fX8_pagesIn E n) a0 a1 h) := id rfl
theorem u_bX8_pageAt_11 (E : ah_E) (kr : Option Nat → Int32 → Int32 → ah_H → Option (Option Nat × ah_H)) (n : Nat) (a0 : Option Nat) (a1 : Int32) (a2 : Int32) (a3 : Int32) (a4 : Int32) (h : ah_H) : bX8_pageAt_11 E kr (n + 1) a0 a1 a2 a3 a4 h = (if a1 ≤ 0 then
    bX8_pageAt_86 E kr  h
  else
  (hp_gr h a0 6 2).bind fun v2 =>
  ob2 (fJx4a65c_size_8abf5 E v2 h) fun v6 w5 =>
  if v6 ≤ a4 then
    bX8_pageAt_86 E kr  w5
  else
  if (40 : Int32) ≤ a2 then
    bX8_pageAt_86 E kr  w5
  else
  (hp_gr w5 a0 6 2).bind fun v10 =>
  ob2 (fJx4a65c_get_915e3 E v10 a4 w5) fun v14 w13 =>
  if hp_cls w13 v14 6 = false then none else
  ob2 (fX8_pagesIn E zd v14 (0 : Int32) w13) fun v19 w18 =>
  if (a3 + v19) ≤ a1 then
    bX8_pageAt_11 E kr n a0 a1 a2 (a3 + v19) (a4 + 1) w18
  else
  ob2 (kr v14 (a1 - a3) (a2 + (1 : Int32)) w18) fun v24 w23 =>
  some (v24, w23)) := id rfl
theorem u_fX8_pageAt (E : ah_E) (n : Nat) (a0 : Option Nat) (a1 : Int32) (a2 : Int32) (h : ah_H) : fX8_pageAt E (n + 1) a0 a1 a2 h = (gX8_pageAt E (fX8_pageAt E n) a0 a1 a2 h) := id rfl
theorem u_bX7_addBytes_5 (E : ah_E) (n : Nat) (a0 : Option Nat) (a1 : Int64) (a4 : Int32) (h : ah_H) : bX7_addBytes_5 E (n + 1) a0 a1 a4 h = (if a4 < 0 then
    bX7_addBytes_53 E  h
  else
  (hp_gi h a0 8 1).bind fun v2 =>
  if (40 : Int32) ≤ v2 then
    bX7_addBytes_53 E  h
  else
  (hp_gr h a0 8 0).bind fun v5 =>
  (hp_gi h a0 8 1).bind fun v7 =>
  (hp_stb h v5 v7 ((((((a1).toUInt64 >>> ((((8 : Int32) * a4)).toInt64.toUInt64 &&& Int64.toUInt64 63)).toInt64)).toInt32).toInt8.toInt32)).bind fun w9 =>
  (hp_gi w9 a0 8 1).bind fun v11 =>
  (hp_pv w9 a0 8 1 (.int (v11 + (1 : Int32)))).bind fun w13 =>
  bX7_addBytes_5 E n a0 a1 (a4 + (-1)) w13) := id rfl
theorem u_bX0_markPages_52 (E : ah_E) (kr : Option Nat → Option Nat → Int32 → ah_H → Option ah_H) (n : Nat) (a0 : Option Nat) (a1 : Option Nat) (a2 : Int32) (a3 : Int32) (h : ah_H) : bX0_markPages_52 E kr (n + 1) a0 a1 a2 a3 h = ((hp_gr h a1 6 2).bind fun v1 =>
  ob2 (fJx4a65c_size_8abf5 E v1 h) fun v5 w4 =>
  if v5 ≤ a3 then
    bX0_markPages_93 E kr  w4
  else
  if (40 : Int32) ≤ a2 then
    bX0_markPages_93 E kr  w4
  else
  (hp_gr w4 a1 6 2).bind fun v9 =>
  ob2 (fJx4a65c_get_915e3 E v9 a3 w4) fun v13 w12 =>
  if hp_cls w12 v13 6 = false then none else
  (kr a0 v13 (a2 + (1 : Int32)) w12).bind fun w17 =>
  bX0_markPages_52 E kr n a0 a1 a2 (a3 + 1) w17) := id rfl
theorem u_fX0_markPages (E : ah_E) (n : Nat) (a0 : Option Nat) (a1 : Option Nat) (a2 : Int32) (h : ah_H) : fX0_markPages E (n + 1) a0 a1 a2 h = (gX0_markPages E (fX0_markPages E n) a0 a1 a2 h) := id rfl
theorem u_bX0_markPictures_2 (E : ah_E) (n : Nat) (a0 : Option Nat) (a1 : Option Nat) (a2 : Int32) (h : ah_H) : bX0_markPictures_2 E (n + 1) a0 a1 a2 h = (ob2 (fJx4a65c_size_8abf5 E a1 h) fun v3 w2 =>
  if v3 ≤ a2 then
    some w2
  else
  ob2 (fJx4a65c_get_915e3 E a1 a2 w2) fun v8 w7 =>
  if hp_cls w7 v8 7 = false then none else
  (hp_gr w7 v8 7 1).bind fun v11 =>
  (fX0_markPages E zd a0 v11 (0 : Int32) w7).bind fun w14 =>
  bX0_markPictures_2 E n a0 a1 (a2 + 1) w14) := id rfl
theorem u_bX0_markTaken_31 (E : ah_E) (n : Nat) (a0 : Option Nat) (a3 : Int32) (h : ah_H) : bX0_markTaken_31 E (n + 1) a0 a3 h = ((hp_gr h a0 1 0).bind fun v1 =>
  (hp_len h v1).bind fun v3 =>
  if v3 ≤ a3 then
    some h
  else
  (hp_gr h a0 1 0).bind fun v6 =>
  (hp_ldq h v6 a3).bind fun v8 =>
  if v8 = none then
    bX0_markTaken_72 E (bX0_markTaken_31 E n) a0 a3 h
  else
  (hp_gr h v8 4 2).bind fun v11 =>
  (fX0_markPages E zd a0 v11 (0 : Int32) h).bind fun w14 =>
  (hp_gr w14 v8 4 4).bind fun v16 =>
  (fX0_markPictures E a0 v16 w14).bind fun w19 =>
  bX0_markTaken_72 E (bX0_markTaken_31 E n) a0 a3 w19) := id rfl
theorem u_bX8_levels_9 (E : ah_E) (n : Nat) (a1 : Int32) (a2 : Option Nat) (a3 : Int32) (h : ah_H) : bX8_levels_9 E (n + 1) a1 a2 a3 h = (if (40 : Int32) ≤ a3 then
    bX8_levels_43 E a1 h
  else
  ob2 (fX5_isLeaf E a2 h) fun v4 w3 =>
  if v4 = 0 then
    (hp_gr w3 a2 6 2).bind fun v7 =>
    ob2 (fJx4a65c_get_915e3 E v7 (0 : Int32) w3) fun v11 w10 =>
    if hp_cls w10 v11 6 = false then none else
    bX8_levels_9 E n (a1 + 1) v11 (a3 + 1) w10
  else
  bX8_levels_43 E a1 w3) := id rfl
theorem u_bX8_lettersIn_10 (E : ah_E) (kr : Option Nat → Int32 → ah_H → Option (Int32 × ah_H)) (n : Nat) (a0 : Option Nat) (a1 : Int32) (a2 : Int32) (a3 : Int32) (h : ah_H) : bX8_lettersIn_10 E kr (n + 1) a0 a1 a2 a3 h = ((hp_gr h a0 6 2).bind fun v1 =>
  ob2 (fJx4a65c_size_8abf5 E v1 h) fun v5 w4 =>
  if v5 ≤ a3 then
    bX8_lettersIn_53 E kr a2 w4
  else
  if (40 : Int32) ≤ a1 then
    bX8_lettersIn_53 E kr a2 w4
  else
  (hp_gr w4 a0 6 2).bind fun v9 =>
  ob2 (fJx4a65c_get_915e3 E v9 a3 w4) fun v13 w12 =>
  if hp_cls w12 v13 6 = false then none else
  ob2 (kr v13 (a1 + (1 : Int32)) w12) fun v18 w17 =>
  bX8_lettersIn_10 E kr n a0 a1 (a2 + v18) (a3 + 1) w17) := id rfl
theorem u_fX8_lettersIn (E : ah_E) (n : Nat) (a0 : Option Nat) (a1 : Int32) (h : ah_H) : fX8_lettersIn E (n + 1) a0 a1 h = (gX8_lettersIn E (fX8_lettersIn E n) a0 a1 h) := id rfl
theorem u_bX5_kidFor_5 (E : ah_E) (n : Nat) (a0 : Option Nat) (a1 : Int64) (a3 : Int32) (a4 : Int32) (h : ah_H) : bX5_kidFor_5 E (n + 1) a0 a1 a3 a4 h = ((hp_gr h a0 6 2).bind fun v1 =>
  ob2 (fJx4a65c_size_8abf5 E v1 h) fun v5 w4 =>
  if v5 ≤ a4 then
    bX5_kidFor_46 E a3 w4
  else
  (hp_gr w4 a0 6 2).bind fun v8 =>
  ob2 (fJx4a65c_get_915e3 E v8 a4 w4) fun v12 w11 =>
  if hp_cls w11 v12 6 = false then none else
  (hp_gl w11 v12 6 0).bind fun v15 =>
  if a1 < v15 then
    bX5_kidFor_46 E a3 w11
  else
  bX5_kidFor_5 E n a0 a1 a4 (a4 + 1) w11) := id rfl
theorem u_bX8_rowIn_49 (E : ah_E) (kr : Option Nat → Int64 → Int32 → ah_H → Option (Option Nat × ah_H)) (n : Nat) (a0 : Option Nat) (a1 : Int64) (a4 : Option Nat) (a5 : Int32) (h : ah_H) : bX8_rowIn_49 E kr (n + 1) a0 a1 a4 a5 h = ((hp_gr h a0 6 3).bind fun v1 =>
  ob2 (fJx4a65c_size_8abf5 E v1 h) fun v5 w4 =>
  if v5 ≤ a5 then
    some (a4, w4)
  else
  (hp_gr w4 a0 6 3).bind fun v8 =>
  ob2 (fJx4a65c_get_915e3 E v8 a5 w4) fun v12 w11 =>
  if hp_cls w11 v12 5 = false then none else
  ob2 (fX4_meets E v12 a1 w11) fun v17 w16 =>
  if v17 = 0 then
    bX8_rowIn_103 E kr (bX8_rowIn_49 E kr n) a0 a1 a4 a5 w16
  else
  ob2 (fX4_changes E v12 a4 w16) fun v22 w21 =>
  if v22 = 0 then
    bX8_rowIn_103 E kr (bX8_rowIn_49 E kr n) a0 a1 a4 a5 w21
  else
  ob2 (fX4_rowAfter E v12 a4 w21) fun v27 w26 =>
  bX8_rowIn_103 E kr (bX8_rowIn_49 E kr n) a0 a1 v27 a5 w26) := id rfl
theorem u_fX8_rowIn (E : ah_E) (n : Nat) (a0 : Option Nat) (a1 : Int64) (a3 : Int32) (h : ah_H) : fX8_rowIn E (n + 1) a0 a1 a3 h = (gX8_rowIn E (fX8_rowIn E n) a0 a1 a3 h) := id rfl
theorem u_bX8_lettersOnWay_29 (E : ah_E) (k11 : Int64 → Int32 → Option Nat → Int32 → ah_H → Option (Int32 × ah_H)) (n : Nat) (a1 : Int64) (a3 : Int32) (a4 : Option Nat) (a5 : Int32) (a6 : Int32) (h : ah_H) : bX8_lettersOnWay_29 E k11 (n + 1) a1 a3 a4 a5 a6 h = ((hp_gr h a4 6 3).bind fun v1 =>
  ob2 (fJx4a65c_size_8abf5 E v1 h) fun v5 w4 =>
  if v5 ≤ a6 then
    (hp_gr w4 a4 6 2).bind fun v8 =>
    ob2 (fX5_kidFor E a4 a1 w4) fun v12 w11 =>
    ob2 (fJx4a65c_get_915e3 E v8 v12 w11) fun v16 w15 =>
    if hp_cls w15 v16 6 = false then none else
    k11 a1 a3 v16 (a5 + 1) w15
  else
  (hp_gr w4 a4 6 3).bind fun v19 =>
  ob2 (fJx4a65c_get_915e3 E v19 a6 w4) fun v23 w22 =>
  if hp_cls w22 v23 5 = false then none else
  ob2 (fX4_meets E v23 a1 w22) fun v28 w27 =>
  if v28 = 0 then
    bX8_lettersOnWay_65 E k11 (bX8_lettersOnWay_29 E k11 n) a1 a3 a4 a5 a6 w27
  else
  bX8_lettersOnWay_65 E k11 (bX8_lettersOnWay_29 E k11 n) a1 (a3 + 1) a4 a5 a6 w27) := id rfl
theorem u_bX8_lettersOnWay_11 (E : ah_E) (n : Nat) (a1 : Int64) (a3 : Int32) (a4 : Option Nat) (a5 : Int32) (h : ah_H) : bX8_lettersOnWay_11 E (n + 1) a1 a3 a4 a5 h = (if (40 : Int32) ≤ a5 then
    bX8_lettersOnWay_96 E a3 h
  else
  ob2 (fX5_isLeaf E a4 h) fun v4 w3 =>
  if v4 = 0 then
    bX8_lettersOnWay_29 E (bX8_lettersOnWay_11 E n) zf a1 a3 a4 a5 (0 : Int32) w3
  else
  bX8_lettersOnWay_96 E a3 w3) := id rfl
theorem u_bX8_changedIn_14 (E : ah_E) (kr : Option Nat → Int32 → ah_H → Option (Int32 × ah_H)) (n : Nat) (a0 : Option Nat) (a1 : Int32) (a2 : Int32) (a3 : Int32) (h : ah_H) : bX8_changedIn_14 E kr (n + 1) a0 a1 a2 a3 h = ((hp_gr h a0 6 2).bind fun v1 =>
  ob2 (fJx4a65c_size_8abf5 E v1 h) fun v5 w4 =>
  if v5 ≤ a3 then
    bX8_changedIn_57 E kr a2 w4
  else
  if (40 : Int32) ≤ a1 then
    bX8_changedIn_57 E kr a2 w4
  else
  (hp_gr w4 a0 6 2).bind fun v9 =>
  ob2 (fJx4a65c_get_915e3 E v9 a3 w4) fun v13 w12 =>
  if hp_cls w12 v13 6 = false then none else
  ob2 (kr v13 (a1 + (1 : Int32)) w12) fun v18 w17 =>
  bX8_changedIn_14 E kr n a0 a1 (a2 + v18) (a3 + 1) w17) := id rfl
theorem u_fX8_changedIn (E : ah_E) (n : Nat) (a0 : Option Nat) (a1 : Int32) (h : ah_H) : fX8_changedIn E (n + 1) a0 a1 h = (gX8_changedIn E (fX8_changedIn E n) a0 a1 h) := id rfl
theorem u_bX0_writePage_30 (E : ah_E) (n : Nat) (a0 : Option Nat) (a1 : Option Nat) (h : ah_H) : bX0_writePage_30 E (n + 1) a0 a1 h = ((hp_gi h a0 1 4).bind fun v1 =>
  if (1000 : Int32) ≤ v1 then
    bX0_writePage_65 E a0 a1 h
  else
  (hp_gr h a0 1 2).bind fun v4 =>
  (hp_gi h a0 1 4).bind fun v6 =>
  (hp_ldb h v4 v6).bind fun v8 =>
  if v8 = 0 then
    bX0_writePage_65 E a0 a1 h
  else
  (hp_gi h a0 1 4).bind fun v11 =>
  (hp_pv h a0 1 4 (.int (v11 + (1 : Int32)))).bind fun w13 =>
  bX0_writePage_30 E n a0 a1 w13) := id rfl
theorem u_bX0_writePages_12 (E : ah_E) (kr : Option Nat → Option Nat → Int32 → ah_H → Option (Int32 × ah_H)) (n : Nat) (a0 : Option Nat) (a1 : Option Nat) (a2 : Int32) (a3 : Int32) (h : ah_H) : bX0_writePages_12 E kr (n + 1) a0 a1 a2 a3 h = ((hp_gr h a1 6 2).bind fun v1 =>
  ob2 (fJx4a65c_size_8abf5 E v1 h) fun v5 w4 =>
  if v5 ≤ a3 then
    bX0_writePages_58 E kr a0 a1 w4
  else
  if (40 : Int32) ≤ a2 then
    bX0_writePages_58 E kr a0 a1 w4
  else
  (hp_gr w4 a1 6 2).bind fun v9 =>
  ob2 (fJx4a65c_get_915e3 E v9 a3 w4) fun v13 w12 =>
  if hp_cls w12 v13 6 = false then none else
  ob2 (kr a0 v13 (a2 + (1 : Int32)) w12) fun v18 w17 =>
  if v18 = 0 then
    some ((0 : Int32), w17)
  else
  bX0_writePages_12 E kr n a0 a1 a2 (a3 + 1) w17) := id rfl
theorem u_fX0_writePages (E : ah_E) (n : Nat) (a0 : Option Nat) (a1 : Option Nat) (a2 : Int32) (h : ah_H) : fX0_writePages E (n + 1) a0 a1 a2 h = (gX0_writePages E (fX0_writePages E n) a0 a1 a2 h) := id rfl
theorem u_bX0_greatestPicture_4 (E : ah_E) (n : Nat) (a0 : Option Nat) (a1 : Int32) (a2 : Int32) (h : ah_H) : bX0_greatestPicture_4 E (n + 1) a0 a1 a2 h = ((hp_gr h a0 1 0).bind fun v1 =>
  (hp_len h v1).bind fun v3 =>
  if v3 ≤ a2 then
    some (a1, h)
  else
  (hp_gr h a0 1 0).bind fun v6 =>
  (hp_ldq h v6 a2).bind fun v8 =>
  if v8 = none then
    bX0_greatestPicture_36 E (bX0_greatestPicture_4 E n) a0 a1 a2 h
  else
  (hp_gr h a0 1 0).bind fun v11 =>
  (hp_ldq h v11 a2).bind fun v13 =>
  (hp_gi h v13 4 3).bind fun v15 =>
  ob2 (fJ9_max_7cf53 E a1 v15 h) fun v19 w18 =>
  bX0_greatestPicture_36 E (bX0_greatestPicture_4 E n) a0 v19 a2 w18) := id rfl
theorem u_bX8_gather_89 (E : ah_E) (kr : Option Nat → Option Nat → Int32 → ah_H → Option ah_H) (n : Nat) (a0 : Option Nat) (a1 : Option Nat) (a3 : Int32) (h : ah_H) : bX8_gather_89 E kr (n + 1) a0 a1 a3 h = ((hp_gr h a0 6 3).bind fun v1 =>
  ob2 (fJx4a65c_size_8abf5 E v1 h) fun v5 w4 =>
  if v5 ≤ a3 then
    some w4
  else
  (hp_gr w4 a0 6 3).bind fun v8 =>
  ob2 (fJx4a65c_get_915e3 E v8 a3 w4) fun v12 w11 =>
  if hp_cls w11 v12 5 = false then none else
  ob2 (fX1_act E a1 v12 w11) fun v17 w16 =>
  bX8_gather_89 E kr n a0 a1 (a3 + 1) w16) := id rfl
theorem u_bX8_gather_46 (E : ah_E) (kr : Option Nat → Option Nat → Int32 → ah_H → Option ah_H) (n : Nat) (a0 : Option Nat) (a1 : Option Nat) (a2 : Int32) (a3 : Int32) (h : ah_H) : bX8_gather_46 E kr (n + 1) a0 a1 a2 a3 h = ((hp_gr h a0 6 2).bind fun v1 =>
  ob2 (fJx4a65c_size_8abf5 E v1 h) fun v5 w4 =>
  if v5 ≤ a3 then
    bX8_gather_87 E kr a0 a1 w4
  else
  if (40 : Int32) ≤ a2 then
    bX8_gather_87 E kr a0 a1 w4
  else
  (hp_gr w4 a0 6 2).bind fun v9 =>
  ob2 (fJx4a65c_get_915e3 E v9 a3 w4) fun v13 w12 =>
  if hp_cls w12 v13 6 = false then none else
  (kr v13 a1 (a2 + (1 : Int32)) w12).bind fun w17 =>
  bX8_gather_46 E kr n a0 a1 a2 (a3 + 1) w17) := id rfl
theorem u_bX8_gather_2 (E : ah_E) (kr : Option Nat → Option Nat → Int32 → ah_H → Option ah_H) (n : Nat) (a0 : Option Nat) (a1 : Option Nat) (a2 : Int32) (a3 : Int32) (h : ah_H) : bX8_gather_2 E kr (n + 1) a0 a1 a2 a3 h = ((hp_gr h a0 6 1).bind fun v1 =>
  (hp_gr h v1 2 0).bind fun v3 =>
  ob2 (fJx4a65c_size_8abf5 E v3 h) fun v7 w6 =>
  if v7 ≤ a3 then
    bX8_gather_46 E kr zf a0 a1 a2 (0 : Int32) w6
  else
  (hp_gr w6 a1 2 0).bind fun v10 =>
  (hp_gr w6 a0 6 1).bind fun v12 =>
  (hp_gr w6 v12 2 0).bind fun v14 =>
  ob2 (fJx4a65c_get_915e3 E v14 a3 w6) fun v18 w17 =>
  if hp_cls w17 v18 3 = false then none else
  ob2 (fJx4a65c_add_9ea2d E v10 v18 w17) fun v23 w22 =>
  bX8_gather_2 E kr n a0 a1 a2 (a3 + 1) w22) := id rfl
theorem u_fX8_gather (E : ah_E) (n : Nat) (a0 : Option Nat) (a1 : Option Nat) (a2 : Int32) (h : ah_H) : fX8_gather E (n + 1) a0 a1 a2 h = (gX8_gather E (fX8_gather E n) a0 a1 a2 h) := id rfl
theorem u_bX8_settleBelow_65 (E : ah_E) (kr : Option Nat → Int32 → ah_H → Option (Int32 × ah_H)) (n : Nat) (a0 : Option Nat) (a1 : Int32) (a2 : Int32) (a4 : Int32) (a5 : Int32) (h : ah_H) : bX8_settleBelow_65 E kr (n + 1) a0 a1 a2 a4 a5 h = (if (1000000 : Int32) ≤ a5 then
    bX8_settleBelow_171 E kr a2 h
  else
  (hp_gr h a0 6 2).bind fun v2 =>
  ob2 (fJx4a65c_size_8abf5 E v2 h) fun v6 w5 =>
  if v6 ≤ a4 then
    bX8_settleBelow_171 E kr a2 w5
  else
  ob2 (fX5_isTooBig E a0 w5) fun v11 w10 =>
  if v11 = 0 then
    (hp_gr w10 a0 6 2).bind fun v14 =>
    ob2 (fJx4a65c_get_915e3 E v14 a4 w10) fun v18 w17 =>
    if hp_cls w17 v18 6 = false then none else
    ob2 (fX8_lettersIn E zd v18 (0 : Int32) w17) fun v23 w22 =>
    if v23 ≤ 0 then
      bX8_settleBelow_152 E kr (bX8_settleBelow_65 E kr n) a0 a1 a2 a4 a5 (0 : Int32) w22
    else
    ob2 (fX5_opened E v18 w22) fun v28 w27 =>
    (hp_gr w27 a0 6 2).bind fun v30 =>
    ob2 (fJx4a65c_set_bcc79 E v30 a4 v28 w27) fun v34 w33 =>
    ob2 (kr v28 (a1 + (1 : Int32)) w33) fun v38 w37 =>
    (fX5_partKid E a0 a4 w37).bind fun w41 =>
    bX8_settleBelow_152 E kr (bX8_settleBelow_65 E kr n) a0 a1 a2 a4 a5 v38 w41
  else
  bX8_settleBelow_171 E kr a2 w10) := id rfl
theorem u_bX8_settleBelow_21 (E : ah_E) (kr : Option Nat → Int32 → ah_H → Option (Int32 × ah_H)) (n : Nat) (a0 : Option Nat) (a1 : Int32) (a2 : Int32) (a3 : Int32) (a4 : Int32) (h : ah_H) : bX8_settleBelow_21 E kr (n + 1) a0 a1 a2 a3 a4 h = (if a3 ≤ a4 then
    bX8_settleBelow_59 E kr a0 a1 a2 h
  else
  (hp_gr h a0 6 3).bind fun v2 =>
  ob2 (fJx4a65c_isEmpty_aae02 E v2 h) fun v6 w5 =>
  if v6 = 0 then
    ob2 (fX5_isTooBig E a0 w5) fun v11 w10 =>
    if v11 = 0 then
      ob2 (fX8_sinkPage E (fX8_give E zd) a0 a1 w10) fun v16 w15 =>
      bX8_settleBelow_21 E kr n a0 a1 (a2 + 1) a3 (a4 + 1) w15
    else
    bX8_settleBelow_59 E kr a0 a1 a2 w10
  else
  bX8_settleBelow_59 E kr a0 a1 a2 w5) := id rfl
theorem u_fX8_settleBelow (E : ah_E) (n : Nat) (a0 : Option Nat) (a1 : Int32) (h : ah_H) : fX8_settleBelow E (n + 1) a0 a1 h = (gX8_settleBelow E (fX8_settleBelow E n) a0 a1 h) := id rfl
theorem u_bX8_settleAll_6 (E : ah_E) (n : Nat) (a0 : Option Nat) (a1 : Int32) (a2 : Int32) (a3 : Int32) (h : ah_H) : bX8_settleAll_6 E (n + 1) a0 a1 a2 a3 h = (if (1000000 : Int32) ≤ a3 then
    bX8_settleAll_61 E a1 h
  else
  if a2 ≤ 0 then
    bX8_settleAll_61 E a1 h
  else
  (hp_gr h a0 9 0).bind fun v3 =>
  ob2 (fX8_lettersIn E zd v3 (0 : Int32) h) fun v7 w6 =>
  if v7 ≤ 0 then
    bX8_settleAll_61 E a1 w6
  else
  (hp_gr w6 a0 9 0).bind fun v10 =>
  ob2 (fX5_opened E v10 w6) fun v14 w13 =>
  (hp_pv w13 a0 9 0 (va_rf v14)).bind fun w16 =>
  (hp_gr w16 a0 9 0).bind fun v18 =>
  ob2 (fX8_settleBelow E zd v18 (0 : Int32) w16) fun v22 w21 =>
  (fX8_partRoot E a0 w21).bind fun w25 =>
  bX8_settleAll_6 E n a0 (a1 + v22) v22 (a3 + 1) w25) := id rfl
theorem u_bX9_pictureIndex_2 (E : ah_E) (n : Nat) (a0 : Option Nat) (a1 : Int32) (a2 : Int32) (h : ah_H) : bX9_pictureIndex_2 E (n + 1) a0 a1 a2 h = ((hp_gr h a0 10 4).bind fun v1 =>
  ob2 (fJx4a65c_size_8abf5 E v1 h) fun v5 w4 =>
  if v5 ≤ a2 then
    some ((-1 : Int32), w4)
  else
  (hp_gr w4 a0 10 4).bind fun v8 =>
  ob2 (fJx4a65c_get_915e3 E v8 a2 w4) fun v12 w11 =>
  if hp_cls w11 v12 7 = false then none else
  (hp_gi w11 v12 7 0).bind fun v15 =>
  if v15 = a1 then
    some (a2, w11)
  else
  bX9_pictureIndex_2 E n a0 a1 (a2 + 1) w11) := id rfl
theorem u_bX9_copyPictures_2 (E : ah_E) (n : Nat) (a0 : Option Nat) (a1 : Option Nat) (a2 : Int32) (h : ah_H) : bX9_copyPictures_2 E (n + 1) a0 a1 a2 h = (ob2 (fJx4a65c_size_8abf5 E a0 h) fun v3 w2 =>
  if v3 ≤ a2 then
    some w2
  else
  ob2 (fJx4a65c_get_915e3 E a0 a2 w2) fun v8 w7 =>
  if hp_cls w7 v8 7 = false then none else
  ob2 (fJx4a65c_add_9ea2d E a1 v8 w7) fun v13 w12 =>
  bX9_copyPictures_2 E n a0 a1 (a2 + 1) w12) := id rfl
theorem u_bX10_begins_21 (E : ah_E) (n : Nat) (a0 : Option Nat) (a1 : Int32) (a2 : Int32) (a3 : Int32) (h : ah_H) : bX10_begins_21 E (n + 1) a0 a1 a2 a3 h = ((hp_gi h a0 11 17).bind fun v1 =>
  if v1 ≤ a3 then
    bX10_begins_65 E a2 h
  else
  if a2 = 0 then
    bX10_begins_65 E a2 h
  else
  (hp_gr h a0 11 16).bind fun v5 =>
  (hp_ldb h v5 a3).bind fun v7 =>
  (hp_gr h a0 11 12).bind fun v9 =>
  (hp_ldb h v9 (((40 : Int32) * a1) + a3)).bind fun v11 =>
  if v7 = v11 then
    bX10_begins_58 E (bX10_begins_21 E n) a0 a1 a3 (1 : Int32) h
  else
  bX10_begins_58 E (bX10_begins_21 E n) a0 a1 a3 (0 : Int32) h) := id rfl
theorem u_bX10_copy_3 (E : ah_E) (n : Nat) (a0 : Option Nat) (a1 : Int32) (a2 : Int32) (a3 : Int32) (a4 : Int32) (a5 : Int32) (h : ah_H) : bX10_copy_3 E (n + 1) a0 a1 a2 a3 a4 a5 h = (if a4 ≤ a5 then
    some h
  else
  (hp_gr h a0 11 16).bind fun v2 =>
  (hp_gr h a0 11 12).bind fun v4 =>
  (hp_ldb h v4 ((((40 : Int32) * a1) + a2) + a5)).bind fun v6 =>
  (hp_stb h v2 (a3 + a5) v6).bind fun w8 =>
  bX10_copy_3 E n a0 a1 a2 a3 a4 (a5 + 1) w8) := id rfl
theorem u_bX10_move_26 (E : ah_E) (n : Nat) (a0 : Option Nat) (a1 : Int32) (a2 : Int32) (a3 : Int32) (h : ah_H) : bX10_move_26 E (n + 1) a0 a1 a2 a3 h = (if (20 : Int32) ≤ a3 then
    some h
  else
  (hp_gr h a0 11 5).bind fun v2 =>
  (hp_gr h a0 11 5).bind fun v4 =>
  (hp_ldb h v4 (((20 : Int32) * a1) + a3)).bind fun v6 =>
  (hp_stb h v2 (((20 : Int32) * a2) + a3) v6).bind fun w8 =>
  bX10_move_26 E n a0 a1 a2 (a3 + 1) w8) := id rfl
theorem u_bX10_open_6 (E : ah_E) (n : Nat) (a0 : Option Nat) (a1 : Int32) (a2 : Int64) (a4 : Int32) (h : ah_H) : bX10_open_6 E (n + 1) a0 a1 a2 a4 h = (if a4 ≤ a1 then
    (hp_gr h a0 11 3).bind fun v2 =>
    (hp_stl h v2 a1 a2).bind fun w4 =>
    (hp_gr w4 a0 11 4).bind fun v6 =>
    (hp_sti w4 v6 a1 (0 : Int32)).bind fun w8 =>
    (hp_gi w8 a0 11 6).bind fun v10 =>
    (hp_pv w8 a0 11 6 (.int (v10 + (1 : Int32)))).bind fun w12 =>
    some w12
  else
  (fX10_move E a0 (a4 - (1 : Int32)) a4 h).bind fun w15 =>
  bX10_open_6 E n a0 a1 a2 (a4 + (-1)) w15) := id rfl
theorem u_bX10_place_8 (E : ah_E) (n : Nat) (a0 : Option Nat) (a1 : Int64) (a3 : Int32) (a4 : Int32) (h : ah_H) : bX10_place_8 E (n + 1) a0 a1 a3 a4 h = (if a4 ≤ a3 then
    some (a3, h)
  else
  (hp_gr h a0 11 3).bind fun v3 =>
  (hp_ldl h v3 ((a3 + a4) / (2 : Int32))).bind fun v5 =>
  if a1 ≤ v5 then
    bX10_place_46 E (bX10_place_8 E n) a0 a1 a3 ((a3 + a4) / (2 : Int32)) h
  else
  bX10_place_46 E (bX10_place_8 E n) a0 a1 (((a3 + a4) / (2 : Int32)) + (1 : Int32)) a4 h) := id rfl
theorem u_bX10_shut_2 (E : ah_E) (n : Nat) (a0 : Option Nat) (a1 : Int32) (a2 : Int32) (a3 : Int32) (h : ah_H) : bX10_shut_2 E (n + 1) a0 a1 a2 a3 h = ((hp_gi h a0 11 6).bind fun v1 =>
  if v1 ≤ a3 then
    (hp_gi h a0 11 6).bind fun v4 =>
    (hp_pv h a0 11 6 (.int (v4 - (a2 - a1)))).bind fun w6 =>
    some w6
  else
  (fX10_move E a0 a3 ((a1 + a3) - a2) h).bind fun w9 =>
  bX10_shut_2 E n a0 a1 a2 (a3 + 1) w9) := id rfl
theorem u_bX10_actsOnMap_138 (E : ah_E) (n : Nat) (a0 : Option Nat) (a2 : Int32) (a4 : Int32) (a5 : Int32) (h : ah_H) : bX10_actsOnMap_138 E (n + 1) a0 a2 a4 a5 h = (if (20 : Int32) ≤ a5 then
    some (a4, h)
  else
  (hp_gr h a0 11 5).bind fun v2 =>
  (hp_gr h a0 11 16).bind fun v4 =>
  (hp_ldb h v4 a5).bind fun v6 =>
  (hp_stb h v2 (((20 : Int32) * a2) + a5) v6).bind fun w8 =>
  bX10_actsOnMap_138 E n a0 a2 a4 (a5 + 1) w8) := id rfl
theorem u_bX10_actsOnMap_44 (E : ah_E) (n : Nat) (a0 : Option Nat) (a1 : Int32) (a2 : Int32) (a3 : Int32) (a4 : Int32) (h : ah_H) : bX10_actsOnMap_44 E (n + 1) a0 a1 a2 a3 a4 h = (if (20 : Int32) ≤ a4 then
    bX10_actsOnMap_80 E a0 a1 a2 a3 h
  else
  if a3 = 0 then
    bX10_actsOnMap_80 E a0 a1 a2 a3 h
  else
  (hp_gr h a0 11 16).bind fun v3 =>
  (hp_gr h a0 11 5).bind fun v5 =>
  (hp_ldb h v5 (((20 : Int32) * a2) + a4)).bind fun v7 =>
  (hp_stb h v3 a4 v7).bind fun w9 =>
  bX10_actsOnMap_44 E n a0 a1 a2 a3 (a4 + 1) w9) := id rfl
theorem u_bX10_below_11 (E : ah_E) (n : Nat) (a0 : Option Nat) (a2 : Int64) (a4 : Int32) (a5 : Int32) (h : ah_H) : bX10_below_11 E (n + 1) a0 a2 a4 a5 h = (if a5 = (-1 : Int32) then
    bX10_below_45 E a4 h
  else
  (hp_gr h a0 11 31).bind fun v2 =>
  (hp_ldl h v2 a5).bind fun v4 =>
  if a2 ≤ v4 then
    bX10_below_45 E a4 h
  else
  (hp_gr h a0 11 34).bind fun v7 =>
  (hp_ldi h v7 a5).bind fun v9 =>
  bX10_below_11 E n a0 a2 a5 v9 h) := id rfl
theorem u_bX10_actOnLeaf_42 (E : ah_E) (n : Nat) (a0 : Option Nat) (a1 : Int32) (a5 : Int64) (a7 : Int32) (a8 : Int32) (h : ah_H) : bX10_actOnLeaf_42 E (n + 1) a0 a1 a5 a7 a8 h = (if a8 = (-1 : Int32) then
    bX10_actOnLeaf_91 E  h
  else
  (hp_gr h a0 11 31).bind fun v2 =>
  (hp_ldl h v2 a8).bind fun v4 =>
  if a5 < v4 then
    bX10_actOnLeaf_91 E  h
  else
  (hp_gr h a0 11 34).bind fun v7 =>
  (hp_ldi h v7 a8).bind fun v9 =>
  (fX10_leave E a0 a1 a7 h).bind fun w12 =>
  (hp_gr w12 a0 11 27).bind fun v14 =>
  (hp_sti w12 v14 a1 (-1 : Int32)).bind fun w16 =>
  bX10_actOnLeaf_42 E n a0 a1 a5 a7 v9 w16) := id rfl
theorem u_bX10_actOnLeaf_243 (E : ah_E) (n : Nat) (a0 : Option Nat) (a8 : Int32) (a10 : Int32) (h : ah_H) : bX10_actOnLeaf_243 E (n + 1) a0 a8 a10 h = (if (20 : Int32) ≤ a10 then
    some h
  else
  (hp_gr h a0 11 33).bind fun v2 =>
  (hp_gr h a0 11 16).bind fun v4 =>
  (hp_ldb h v4 a10).bind fun v6 =>
  (hp_stb h v2 (((20 : Int32) * a8) + a10) v6).bind fun w8 =>
  bX10_actOnLeaf_243 E n a0 a8 (a10 + 1) w8) := id rfl
theorem u_bX10_actOnLeaf_140 (E : ah_E) (n : Nat) (a0 : Option Nat) (a1 : Int32) (a2 : Int32) (a3 : Int64) (a7 : Int32) (a8 : Int32) (a9 : Int32) (a10 : Int32) (h : ah_H) : bX10_actOnLeaf_140 E (n + 1) a0 a1 a2 a3 a7 a8 a9 a10 h = (if (20 : Int32) ≤ a10 then
    bX10_actOnLeaf_178 E a0 a1 a2 a3 a7 a8 a9 h
  else
  if a9 = 0 then
    bX10_actOnLeaf_178 E a0 a1 a2 a3 a7 a8 a9 h
  else
  (hp_gr h a0 11 16).bind fun v3 =>
  (hp_gr h a0 11 33).bind fun v5 =>
  (hp_ldb h v5 (((20 : Int32) * a8) + a10)).bind fun v7 =>
  (hp_stb h v3 a10 v7).bind fun w9 =>
  bX10_actOnLeaf_140 E n a0 a1 a2 a3 a7 a8 a9 (a10 + 1) w9) := id rfl
theorem u_bX10_kidFor_3 (E : ah_E) (n : Nat) (a0 : Option Nat) (a1 : Int32) (a2 : Int64) (a4 : Int32) (h : ah_H) : bX10_kidFor_3 E (n + 1) a0 a1 a2 a4 h = ((hp_gr h a0 11 21).bind fun v1 =>
  (hp_ldi h v1 a1).bind fun v3 =>
  if v3 ≤ (a4 + (1 : Int32)) then
    bX10_kidFor_42 E a4 h
  else
  (hp_gr h a0 11 23).bind fun v6 =>
  (hp_ldl h v6 ((((128 : Int32) * a1) + a4) + (1 : Int32))).bind fun v8 =>
  if a2 < v8 then
    bX10_kidFor_42 E a4 h
  else
  bX10_kidFor_3 E n a0 a1 a2 (a4 + 1) h) := id rfl
theorem u_bX10_comes_31 (E : ah_E) (n : Nat) (a0 : Option Nat) (a1 : Int32) (a2 : Int32) (a5 : Int64) (a7 : Int64) (a9 : Int32) (h : ah_H) : bX10_comes_31 E (n + 1) a0 a1 a2 a5 a7 a9 h = ((hp_gr h a0 11 21).bind fun v1 =>
  (hp_ldi h v1 a1).bind fun v3 =>
  if v3 ≤ a9 then
    bX10_comes_148 E  h
  else
  if a5 < a7 then
    bX10_comes_148 E  h
  else
  (hp_gr h a0 11 21).bind fun v7 =>
  (hp_ldi h v7 a1).bind fun v9 =>
  if (a9 + (1 : Int32)) = v9 then
    bX10_comes_84 E (bX10_comes_31 E n) a0 a1 a2 a5 a7 a9 h
  else
  (hp_gr h a0 11 23).bind fun v12 =>
  (hp_ldl h v12 ((((128 : Int32) * a1) + a9) + (1 : Int32))).bind fun v14 =>
  if v14 ≤ a5 then
    bX10_comes_89 E (bX10_comes_31 E n) a0 a1 a2 a5 a7 a9 (0 : Int32) h
  else
  bX10_comes_84 E (bX10_comes_31 E n) a0 a1 a2 a5 a7 a9 h) := id rfl
theorem u_bX10_partOf_165 (E : ah_E) (k66 : Option Nat → Int32 → Int32 → Int32 → Int32 → Int32 → ah_H → Option ah_H) (n : Nat) (a0 : Option Nat) (a1 : Int32) (a2 : Int32) (a4 : Int32) (a5 : Int32) (a6 : Int32) (a7 : Int32) (a9 : Int32) (h : ah_H) : bX10_partOf_165 E k66 (n + 1) a0 a1 a2 a4 a5 a6 a7 a9 h = (if a7 ≤ a9 then
    (hp_gr h a0 11 34).bind fun v2 =>
    (hp_ldi h v2 a5).bind fun v4 =>
    (hp_gr h a0 11 34).bind fun v6 =>
    (hp_sti h v6 a5 (-1 : Int32)).bind fun w8 =>
    bX10_partOf_316 E k66 a0 a1 a2 a4 v4 a6 a7 w8
  else
  (hp_gr h a0 11 34).bind fun v10 =>
  (hp_ldi h v10 a5).bind fun v12 =>
  bX10_partOf_165 E k66 n a0 a1 a2 a4 v12 a6 a7 (a9 + 1) h) := id rfl
theorem u_bX10_partOf_234 (E : ah_E) (k66 : Option Nat → Int32 → Int32 → Int32 → Int32 → Int32 → ah_H → Option ah_H) (n : Nat) (a0 : Option Nat) (a1 : Int32) (a2 : Int32) (a4 : Int32) (a5 : Int32) (a6 : Int32) (a7 : Int32) (a8 : Int32) (a9 : Int32) (h : ah_H) : bX10_partOf_234 E k66 (n + 1) a0 a1 a2 a4 a5 a6 a7 a8 a9 h = (if a7 ≤ a9 then
    (hp_gr h a0 11 21).bind fun v2 =>
    (hp_sti h v2 a8 a7).bind fun w4 =>
    bX10_partOf_316 E k66 a0 a1 a2 a4 a5 a6 a7 w4
  else
  (hp_gr h a0 11 22).bind fun v6 =>
  (hp_gr h a0 11 22).bind fun v8 =>
  (hp_ldi h v8 ((((128 : Int32) * a1) + a4) + a9)).bind fun v10 =>
  (hp_sti h v6 (((128 : Int32) * a8) + a9) v10).bind fun w12 =>
  (hp_gr w12 a0 11 23).bind fun v14 =>
  (hp_gr w12 a0 11 23).bind fun v16 =>
  (hp_ldl w12 v16 ((((128 : Int32) * a1) + a4) + a9)).bind fun v18 =>
  (hp_stl w12 v14 (((128 : Int32) * a8) + a9) v18).bind fun w20 =>
  bX10_partOf_234 E k66 n a0 a1 a2 a4 a5 a6 a7 a8 (a9 + 1) w20) := id rfl
theorem u_bX10_partOf_355 (E : ah_E) (k337 : Option Nat → Int32 → Int32 → ah_H → Option ah_H) (n : Nat) (a0 : Option Nat) (a1 : Int32) (a6 : Int32) (a7 : Int32) (a8 : Int32) (h : ah_H) : bX10_partOf_355 E k337 (n + 1) a0 a1 a6 a7 a8 h = ((hp_gi h a0 11 46).bind fun v1 =>
  if v1 ≤ (a8 + (1 : Int32)) then
    bX10_partOf_392 E k337 a0 a1 a6 a7 a8 h
  else
  (hp_gr h a0 11 45).bind fun v4 =>
  (hp_ldl h v4 (a8 + (1 : Int32))).bind fun v6 =>
  (hp_gr h a0 11 37).bind fun v8 =>
  (hp_ldl h v8 a6).bind fun v10 =>
  if v10 < v6 then
    bX10_partOf_392 E k337 a0 a1 a6 a7 a8 h
  else
  bX10_partOf_355 E k337 n a0 a1 a6 a7 (a8 + 1) h) := id rfl
theorem u_bX10_partOf_337 (E : ah_E) (n : Nat) (a0 : Option Nat) (a1 : Int32) (a6 : Int32) (h : ah_H) : bX10_partOf_337 E (n + 1) a0 a1 a6 h = (if a6 = (-1 : Int32) then
    (fX10_give E a0 a1 h).bind fun w3 =>
    some w3
  else
  (hp_gr h a0 11 39).bind fun v5 =>
  (hp_ldi h v5 a6).bind fun v7 =>
  bX10_partOf_355 E (bX10_partOf_337 E n) zf a0 a1 a6 v7 (0 : Int32) h) := id rfl
theorem u_bX10_partOf_66 (E : ah_E) (n : Nat) (a0 : Option Nat) (a1 : Int32) (a2 : Int32) (a4 : Int32) (a5 : Int32) (a6 : Int32) (h : ah_H) : bX10_partOf_66 E (n + 1) a0 a1 a2 a4 a5 a6 h = ((hp_gi h a0 11 46).bind fun v1 =>
  if v1 ≤ a6 then
    (hp_gr h a0 11 24).bind fun v4 =>
    (hp_ldi h v4 a1).bind fun v6 =>
    bX10_partOf_337 E zf a0 a1 v6 h
  else
  (hp_gi h a0 11 46).bind fun v8 =>
  if v8 = 0 then none else
  (hp_gi h a0 11 46).bind fun v11 =>
  if v11 = 0 then none else
  if (a2 - a2 / v11 * v11) ≤ a6 then
    bX10_partOf_97 E (bX10_partOf_66 E n) a0 a1 a2 a4 a5 a6 (a2 / v8) (0 : Int32) h
  else
  bX10_partOf_97 E (bX10_partOf_66 E n) a0 a1 a2 a4 a5 a6 (a2 / v8) (1 : Int32) h) := id rfl
theorem u_bX10_grow_43 (E : ah_E) (k0 : Option Nat → ah_H → Option ah_H) (n : Nat) (a0 : Option Nat) (a1 : Int32) (h : ah_H) : bX10_grow_43 E k0 (n + 1) a0 a1 h = ((hp_gi h a0 11 46).bind fun v1 =>
  if v1 ≤ a1 then
    k0 a0 h
  else
  (hp_gr h a0 11 22).bind fun v4 =>
  (hp_gi h a0 11 30).bind fun v6 =>
  (hp_gr h a0 11 44).bind fun v8 =>
  (hp_ldi h v8 a1).bind fun v10 =>
  (hp_sti h v4 (((128 : Int32) * v6) + a1) v10).bind fun w12 =>
  (hp_gr w12 a0 11 23).bind fun v14 =>
  (hp_gi w12 a0 11 30).bind fun v16 =>
  (hp_gr w12 a0 11 45).bind fun v18 =>
  (hp_ldl w12 v18 a1).bind fun v20 =>
  (hp_stl w12 v14 (((128 : Int32) * v16) + a1) v20).bind fun w22 =>
  bX10_grow_43 E k0 n a0 (a1 + 1) w22) := id rfl
theorem u_bX10_grow_0 (E : ah_E) (n : Nat) (a0 : Option Nat) (h : ah_H) : bX10_grow_0 E (n + 1) a0 h = ((hp_gi h a0 11 30).bind fun v1 =>
  ob2 (fX10_isTooBig E a0 v1 h) fun v5 w4 =>
  if v5 = 0 then
    some w4
  else
  (hp_gi w4 a0 11 30).bind fun v8 =>
  (fX10_partOf E a0 v8 w4).bind fun w11 =>
  ob2 (fX10_page E a0 (0 : Int32) w11) fun v15 w14 =>
  (hp_pv w14 a0 11 30 (.int v15)).bind fun w17 =>
  (hp_gr w17 a0 11 21).bind fun v19 =>
  (hp_gi w17 a0 11 30).bind fun v21 =>
  (hp_gi w17 a0 11 46).bind fun v23 =>
  (hp_sti w17 v19 v21 v23).bind fun w25 =>
  bX10_grow_43 E (bX10_grow_0 E n) zf a0 (0 : Int32) w25) := id rfl
theorem u_bX10_partKid_132 (E : ah_E) (n : Nat) (a0 : Option Nat) (a1 : Int32) (a2 : Int32) (a4 : Int64) (a6 : Int32) (h : ah_H) : bX10_partKid_132 E (n + 1) a0 a1 a2 a4 a6 h = ((hp_gi h a0 11 46).bind fun v1 =>
  if v1 ≤ a6 then
    (hp_gr h a0 11 21).bind fun v4 =>
    (hp_ldi h v4 a1).bind fun v6 =>
    (hp_gi h a0 11 46).bind fun v8 =>
    (hp_sti h v4 a1 (v6 + (v8 - (1 : Int32)))).bind fun w10 =>
    (hp_gr w10 a0 11 27).bind fun v12 =>
    (hp_sti w10 v12 a1 (-1 : Int32)).bind fun w14 =>
    some w14
  else
  (hp_gr h a0 11 22).bind fun v16 =>
  (hp_gr h a0 11 44).bind fun v18 =>
  (hp_ldi h v18 a6).bind fun v20 =>
  (hp_sti h v16 ((((128 : Int32) * a1) + a2) + a6) v20).bind fun w22 =>
  (hp_gr w22 a0 11 23).bind fun v24 =>
  if a6 = 0 then
    bX10_partKid_194 E (bX10_partKid_132 E n) a0 a1 a2 a4 a6 v24 ((((128 : Int32) * a1) + a2) + a6) a4 w22
  else
  (hp_gr w22 a0 11 45).bind fun v27 =>
  (hp_ldl w22 v27 a6).bind fun v29 =>
  bX10_partKid_194 E (bX10_partKid_132 E n) a0 a1 a2 a4 a6 v24 ((((128 : Int32) * a1) + a2) + a6) v29 w22) := id rfl
theorem u_bX10_partKid_51 (E : ah_E) (n : Nat) (a0 : Option Nat) (a1 : Int32) (a2 : Int32) (a4 : Int64) (a6 : Int32) (h : ah_H) : bX10_partKid_51 E (n + 1) a0 a1 a2 a4 a6 h = (if a6 ≤ a2 then
    bX10_partKid_132 E zf a0 a1 a2 a4 (0 : Int32) h
  else
  (hp_gr h a0 11 22).bind fun v2 =>
  (hp_gi h a0 11 46).bind fun v4 =>
  (hp_gr h a0 11 22).bind fun v6 =>
  (hp_ldi h v6 (((128 : Int32) * a1) + a6)).bind fun v8 =>
  (hp_sti h v2 (((((128 : Int32) * a1) + a6) + v4) - (1 : Int32)) v8).bind fun w10 =>
  (hp_gr w10 a0 11 23).bind fun v12 =>
  (hp_gi w10 a0 11 46).bind fun v14 =>
  (hp_gr w10 a0 11 23).bind fun v16 =>
  (hp_ldl w10 v16 (((128 : Int32) * a1) + a6)).bind fun v18 =>
  (hp_stl w10 v12 (((((128 : Int32) * a1) + a6) + v14) - (1 : Int32)) v18).bind fun w20 =>
  bX10_partKid_51 E n a0 a1 a2 a4 (a6 + (-1)) w20) := id rfl
theorem u_bX10_settlePage_0 (E : ah_E) (kr : Option Nat → Int32 → ah_H → Option (Int32 × ah_H)) (n : Nat) (a0 : Option Nat) (a1 : Int32) (h : ah_H) : bX10_settlePage_0 E kr (n + 1) a0 a1 h = ((hp_gr h a0 11 18).bind fun v1 =>
  (hp_ldb h v1 a1).bind fun v3 =>
  if v3 = 0 then
    (hp_gr h a0 11 26).bind fun v6 =>
    (hp_ldi h v6 a1).bind fun v8 =>
    if v8 ≤ (8 : Int32) then
      bX10_settlePage_29 E kr  h
    else
    ob2 (kr a0 a1 h) fun v13 w12 =>
    bX10_settlePage_0 E kr n a0 a1 w12
  else
  bX10_settlePage_29 E kr  h) := id rfl
theorem u_bX10_giveLetters_3 (E : ah_E) (kr : Option Nat → Int32 → ah_H → Option (Int32 × ah_H)) (n : Nat) (a0 : Option Nat) (a1 : Int32) (a3 : Int32) (a4 : Int32) (h : ah_H) : bX10_giveLetters_3 E kr (n + 1) a0 a1 a3 a4 h = (if a3 ≤ a4 then
    (fX10_settlePage E kr a0 a1 h).bind fun w3 =>
    some w3
  else
  (hp_gr h a0 11 41).bind fun v5 =>
  (hp_ldi h v5 a4).bind fun v7 =>
  (hp_gr h a0 11 36).bind fun v9 =>
  (hp_ldi h v9 v7).bind fun v11 =>
  (hp_gr h a0 11 37).bind fun v13 =>
  (hp_ldl h v13 v7).bind fun v15 =>
  (hp_gr h a0 11 38).bind fun v17 =>
  (hp_ldl h v17 v7).bind fun v19 =>
  (hp_gr h a0 11 39).bind fun v21 =>
  (hp_gi h a0 11 40).bind fun v23 =>
  (hp_sti h v21 v7 v23).bind fun w25 =>
  (hp_pv w25 a0 11 40 (.int v7)).bind fun w27 =>
  (hp_gr w27 a0 11 18).bind fun v29 =>
  (hp_ldb w27 v29 a1).bind fun v31 =>
  if v31 = 0 then
    (fX10_comes E a0 a1 v11 v15 v19 w27).bind fun w35 =>
    bX10_giveLetters_96 E kr (bX10_giveLetters_3 E kr n) a0 a1 a3 a4 w35
  else
  (fX10_actOnLeaf E a0 a1 v11 v15 v19 w27).bind fun w38 =>
  bX10_giveLetters_96 E kr (bX10_giveLetters_3 E kr n) a0 a1 a3 a4 w38) := id rfl
theorem u_bX10_sinks_146 (E : ah_E) (kr : Option Nat → Int32 → ah_H → Option (Int32 × ah_H)) (n : Nat) (a0 : Option Nat) (a1 : Int32) (a2 : Int32) (a3 : Int32) (a4 : Int32) (a5 : Int32) (h : ah_H) : bX10_sinks_146 E kr (n + 1) a0 a1 a2 a3 a4 a5 h = (if a5 = (-1 : Int32) then
    (hp_gr h a0 11 27).bind fun v2 =>
    (hp_sti h v2 a1 (-1 : Int32)).bind fun w4 =>
    (hp_gr w4 a0 11 22).bind fun v6 =>
    (hp_ldi w4 v6 (((128 : Int32) * a1) + a2)).bind fun v8 =>
    (hp_gi w4 a0 11 42).bind fun v10 =>
    (fX10_giveLetters E kr a0 v8 a4 v10 w4).bind fun w13 =>
    (hp_pv w13 a0 11 42 (.int a4)).bind fun w15 =>
    (fX10_partKid E a0 a1 a2 w15).bind fun w18 =>
    some (a3, w18)
  else
  (hp_gr h a0 11 39).bind fun v20 =>
  (hp_ldi h v20 a5).bind fun v22 =>
  (hp_gr h a0 11 37).bind fun v24 =>
  (hp_ldl h v24 a5).bind fun v26 =>
  ob2 (fX10_kidFor E a0 a1 v26 h) fun v30 w29 =>
  if v30 = a2 then
    (hp_gr w29 a0 11 41).bind fun v33 =>
    (hp_gi w29 a0 11 42).bind fun v35 =>
    (hp_sti w29 v33 v35 a5).bind fun w37 =>
    (hp_gi w37 a0 11 42).bind fun v39 =>
    (hp_pv w37 a0 11 42 (.int (v39 + (1 : Int32)))).bind fun w41 =>
    bX10_sinks_208 E kr (bX10_sinks_146 E kr n) a0 a1 a2 a3 a4 v22 w41
  else
  (fX10_chain E a0 a1 a5 w29).bind fun w44 =>
  bX10_sinks_208 E kr (bX10_sinks_146 E kr n) a0 a1 a2 a3 a4 v22 w44) := id rfl
theorem u_bX10_sinks_71 (E : ah_E) (kr : Option Nat → Int32 → ah_H → Option (Int32 × ah_H)) (n : Nat) (a0 : Option Nat) (a1 : Int32) (a2 : Int32) (a3 : Int32) (h : ah_H) : bX10_sinks_71 E kr (n + 1) a0 a1 a2 a3 h = ((hp_gr h a0 11 21).bind fun v1 =>
  (hp_ldi h v1 a1).bind fun v3 =>
  if v3 ≤ a3 then
    (hp_gr h a0 11 43).bind fun v6 =>
    (hp_ldi h v6 a2).bind fun v8 =>
    (hp_gi h a0 11 42).bind fun v10 =>
    (hp_gr h a0 11 24).bind fun v12 =>
    (hp_ldi h v12 a1).bind fun v14 =>
    (hp_gr h a0 11 24).bind fun v16 =>
    (hp_sti h v16 a1 (-1 : Int32)).bind fun w18 =>
    (hp_gr w18 a0 11 25).bind fun v20 =>
    (hp_sti w18 v20 a1 (-1 : Int32)).bind fun w22 =>
    (hp_gr w22 a0 11 26).bind fun v24 =>
    (hp_sti w22 v24 a1 (0 : Int32)).bind fun w26 =>
    bX10_sinks_146 E kr zf a0 a1 a2 v8 v10 v14 w26
  else
  (hp_gr h a0 11 43).bind fun v28 =>
  (hp_ldi h v28 a3).bind fun v30 =>
  (hp_gr h a0 11 43).bind fun v32 =>
  (hp_ldi h v32 a2).bind fun v34 =>
  if v30 ≤ v34 then
    bX10_sinks_98 E kr (bX10_sinks_71 E kr n) a0 a1 a2 a3 h
  else
  bX10_sinks_98 E kr (bX10_sinks_71 E kr n) a0 a1 a3 a3 h) := id rfl
theorem u_bX10_sinks_32 (E : ah_E) (kr : Option Nat → Int32 → ah_H → Option (Int32 × ah_H)) (n : Nat) (a0 : Option Nat) (a1 : Int32) (a2 : Int32) (h : ah_H) : bX10_sinks_32 E kr (n + 1) a0 a1 a2 h = (if a2 = (-1 : Int32) then
    bX10_sinks_71 E kr zf a0 a1 (0 : Int32) (1 : Int32) h
  else
  (hp_gr h a0 11 43).bind fun v2 =>
  (hp_gr h a0 11 37).bind fun v4 =>
  (hp_ldl h v4 a2).bind fun v6 =>
  ob2 (fX10_kidFor E a0 a1 v6 h) fun v10 w9 =>
  (hp_ldi w9 v2 v10).bind fun v12 =>
  (hp_sti w9 v2 v10 (v12 + (1 : Int32))).bind fun w14 =>
  (hp_gr w14 a0 11 39).bind fun v16 =>
  (hp_ldi w14 v16 a2).bind fun v18 =>
  bX10_sinks_32 E kr n a0 a1 v18 w14) := id rfl
theorem u_bX10_sinks_2 (E : ah_E) (kr : Option Nat → Int32 → ah_H → Option (Int32 × ah_H)) (n : Nat) (a0 : Option Nat) (a1 : Int32) (a2 : Int32) (h : ah_H) : bX10_sinks_2 E kr (n + 1) a0 a1 a2 h = ((hp_gr h a0 11 21).bind fun v1 =>
  (hp_ldi h v1 a1).bind fun v3 =>
  if v3 ≤ a2 then
    (hp_gr h a0 11 24).bind fun v6 =>
    (hp_ldi h v6 a1).bind fun v8 =>
    bX10_sinks_32 E kr zf a0 a1 v8 h
  else
  (hp_gr h a0 11 43).bind fun v10 =>
  (hp_sti h v10 a2 (0 : Int32)).bind fun w12 =>
  bX10_sinks_2 E kr n a0 a1 (a2 + 1) w12) := id rfl
theorem u_fX10_sinks (E : ah_E) (n : Nat) (a0 : Option Nat) (a1 : Int32) (h : ah_H) : fX10_sinks E (n + 1) a0 a1 h = (gX10_sinks E (fX10_sinks E n) a0 a1 h) := id rfl
theorem u_bX10_write_90 (E : ah_E) (n : Nat) (a0 : Option Nat) (a1 : Int32) (a5 : Int32) (a6 : Int32) (h : ah_H) : bX10_write_90 E (n + 1) a0 a1 a5 a6 h = ((hp_gr h a0 11 11).bind fun v1 =>
  (hp_ldi h v1 a5).bind fun v3 =>
  if v3 ≤ a6 then
    if a1 = (4 : Int32) then
      bX10_write_143 E a5 h
    else
    if a1 = (5 : Int32) then
      bX10_write_143 E a5 h
    else
    (hp_pv h a0 11 2 (.int (0 : Int32))).bind fun w8 =>
    bX10_write_143 E a5 w8
  else
  (hp_gr h a0 11 12).bind fun v10 =>
  (hp_gr h a0 11 1).bind fun v12 =>
  (hp_ldb h v12 a6).bind fun v14 =>
  (hp_stb h v10 (((40 : Int32) * a5) + a6) v14).bind fun w16 =>
  bX10_write_90 E n a0 a1 a5 (a6 + 1) w16) := id rfl
theorem u_bX10_visit_47 (E : ah_E) (kr : Option Nat → Int32 → Int32 → Int32 → ah_H → Option ah_H) (n : Nat) (a0 : Option Nat) (a1 : Int32) (a4 : Int32) (h : ah_H) : bX10_visit_47 E kr (n + 1) a0 a1 a4 h = ((hp_gr h a0 11 21).bind fun v1 =>
  (hp_ldi h v1 a1).bind fun v3 =>
  if v3 ≤ a4 then
    some h
  else
  (hp_gr h a0 11 22).bind fun v6 =>
  (hp_ldi h v6 (((128 : Int32) * a1) + a4)).bind fun v8 =>
  (kr a0 v8 a1 a4 h).bind fun w11 =>
  bX10_visit_47 E kr n a0 a1 (a4 + 1) w11) := id rfl
theorem u_fX10_visit (E : ah_E) (n : Nat) (a0 : Option Nat) (a1 : Int32) (a2 : Int32) (a3 : Int32) (h : ah_H) : fX10_visit E (n + 1) a0 a1 a2 a3 h = (gX10_visit E (fX10_visit E n) a0 a1 a2 a3 h) := id rfl
theorem u_bX10_border_83 (E : ah_E) (n : Nat) (a0 : Option Nat) (a2 : Int32) (a3 : Int32) (a4 : Int32) (a5 : Int32) (h : ah_H) : bX10_border_83 E (n + 1) a0 a2 a3 a4 a5 h = (if a2 ≤ a5 then
    bX10_border_113 E a0 a2 a3 a4 h
  else
  (hp_gr h a0 11 18).bind fun v2 =>
  (hp_ldb h v2 a3).bind fun v4 =>
  if v4 = 0 then
    bX10_border_113 E a0 a2 a3 a4 h
  else
  (hp_gr h a0 11 34).bind fun v7 =>
  (hp_ldi h v7 a4).bind fun v9 =>
  bX10_border_83 E n a0 a2 a3 v9 (a5 + 1) h) := id rfl
theorem u_bX10_pagesOf_4 (E : ah_E) (kr : Option Nat → Int32 → ah_H → Option (Int32 × ah_H)) (n : Nat) (a0 : Option Nat) (a1 : Int32) (a2 : Int32) (a3 : Int32) (h : ah_H) : bX10_pagesOf_4 E kr (n + 1) a0 a1 a2 a3 h = ((hp_gr h a0 11 53).bind fun v1 =>
  (hp_ldi h v1 a1).bind fun v3 =>
  if v3 ≤ a3 then
    bX10_pagesOf_47 E kr a2 h
  else
  (hp_gr h a0 11 52).bind fun v6 =>
  (hp_ldb h v6 a1).bind fun v8 =>
  if v8 = 0 then
    (hp_gr h a0 11 57).bind fun v11 =>
    (hp_ldi h v11 (((6 : Int32) * a1) + a3)).bind fun v13 =>
    ob2 (kr a0 v13 h) fun v17 w16 =>
    bX10_pagesOf_4 E kr n a0 a1 (a2 + v17) (a3 + 1) w16
  else
  bX10_pagesOf_47 E kr a2 h) := id rfl
theorem u_fX10_pagesOf (E : ah_E) (n : Nat) (a0 : Option Nat) (a1 : Int32) (h : ah_H) : fX10_pagesOf E (n + 1) a0 a1 h = (gX10_pagesOf E (fX10_pagesOf E n) a0 a1 h) := id rfl
theorem u_bX10_feed_30 (E : ah_E) (n : Nat) (a0 : Option Nat) (a1 : Int64) (a4 : Int32) (h : ah_H) : bX10_feed_30 E (n + 1) a0 a1 a4 h = (if a4 < 0 then
    (hp_gi h a0 11 2).bind fun v2 =>
    some (v2, h)
  else
  (hp_gr h a0 11 1).bind fun v4 =>
  (hp_gi h a0 11 2).bind fun v6 =>
  (hp_stb h v4 v6 ((((a1 >>> (((8 : Int32) * a4).toInt64 &&& 63))).toInt32).toInt8.toInt32)).bind fun w8 =>
  (hp_gi w8 a0 11 2).bind fun v10 =>
  (hp_pv w8 a0 11 2 (.int (v10 + (1 : Int32)))).bind fun w12 =>
  bX10_feed_30 E n a0 a1 (a4 + (-1)) w12) := id rfl
theorem u_bX10_spreadChanges_11 (E : ah_E) (n : Nat) (a0 : Option Nat) (a1 : Int32) (h : ah_H) : bX10_spreadChanges_11 E (n + 1) a0 a1 h = (if a1 ≤ 0 then
    some h
  else
  (hp_gr h a0 11 27).bind fun v2 =>
  (hp_gr h a0 11 47).bind fun v4 =>
  (hp_ldi h v4 a1).bind fun v6 =>
  (hp_ldi h v2 v6).bind fun v8 =>
  if v8 = (-1 : Int32) then
    (hp_gr h a0 11 27).bind fun v11 =>
    (hp_gr h a0 11 48).bind fun v13 =>
    (hp_gr h a0 11 47).bind fun v15 =>
    (hp_ldi h v15 a1).bind fun v17 =>
    (hp_ldi h v13 v17).bind fun v19 =>
    (hp_sti h v11 v19 (-1 : Int32)).bind fun w21 =>
    bX10_spreadChanges_47 E (bX10_spreadChanges_11 E n) a0 a1 w21
  else
  bX10_spreadChanges_47 E (bX10_spreadChanges_11 E n) a0 a1 h) := id rfl
theorem u_bX10_take_19 (E : ah_E) (kr : Option Nat → Int32 → ah_H → Option ah_H) (n : Nat) (a0 : Option Nat) (a1 : Int32) (a2 : Int32) (h : ah_H) : bX10_take_19 E kr (n + 1) a0 a1 a2 h = ((hp_gr h a0 11 53).bind fun v1 =>
  (hp_ldi h v1 a1).bind fun v3 =>
  if v3 ≤ a2 then
    bX10_take_59 E kr  h
  else
  (hp_gr h a0 11 52).bind fun v6 =>
  (hp_ldb h v6 a1).bind fun v8 =>
  if v8 = 0 then
    (hp_gr h a0 11 57).bind fun v11 =>
    (hp_ldi h v11 (((6 : Int32) * a1) + a2)).bind fun v13 =>
    (kr a0 v13 h).bind fun w16 =>
    bX10_take_19 E kr n a0 a1 (a2 + 1) w16
  else
  bX10_take_59 E kr  h) := id rfl
theorem u_fX10_take (E : ah_E) (n : Nat) (a0 : Option Nat) (a1 : Int32) (h : ah_H) : fX10_take E (n + 1) a0 a1 h = (gX10_take E (fX10_take E n) a0 a1 h) := id rfl
theorem u_bX10_mark_148 (E : ah_E) (k119 : Option Nat → Int32 → ah_H → Option ah_H) (n : Nat) (a0 : Option Nat) (a1 : Int32) (a2 : Int32) (h : ah_H) : bX10_mark_148 E k119 (n + 1) a0 a1 a2 h = ((hp_gr h a0 11 65).bind fun v1 =>
  (hp_ldi h v1 a1).bind fun v3 =>
  if v3 ≤ a2 then
    bX10_mark_179 E k119 a0 a1 h
  else
  (hp_gr h a0 11 68).bind fun v6 =>
  (hp_ldi h v6 (((12 : Int32) * a1) + a2)).bind fun v8 =>
  (fX10_take E zd a0 v8 h).bind fun w11 =>
  bX10_mark_148 E k119 n a0 a1 (a2 + 1) w11) := id rfl
theorem u_bX10_mark_119 (E : ah_E) (n : Nat) (a0 : Option Nat) (a1 : Int32) (h : ah_H) : bX10_mark_119 E (n + 1) a0 a1 h = (if (2 : Int32) ≤ a1 then
    some h
  else
  (hp_gr h a0 11 62).bind fun v2 =>
  (hp_ldi h v2 a1).bind fun v4 =>
  if v4 = 0 then
    bX10_mark_179 E (bX10_mark_119 E n) a0 a1 h
  else
  (hp_gr h a0 11 63).bind fun v7 =>
  (hp_ldi h v7 a1).bind fun v9 =>
  (fX10_take E zd a0 v9 h).bind fun w12 =>
  bX10_mark_148 E (bX10_mark_119 E n) zf a0 a1 (0 : Int32) w12) := id rfl
theorem u_bX10_mark_83 (E : ah_E) (n : Nat) (a0 : Option Nat) (a1 : Int32) (h : ah_H) : bX10_mark_83 E (n + 1) a0 a1 h = ((hp_gi h a0 11 71).bind fun v1 =>
  if v1 ≤ a1 then
    bX10_mark_117 E a0 h
  else
  (hp_gr h a0 11 70).bind fun v4 =>
  (hp_ldi h v4 a1).bind fun v6 =>
  if v6 = (-1 : Int32) then
    bX10_mark_111 E (bX10_mark_83 E n) a0 a1 h
  else
  (hp_gr h a0 11 70).bind fun v9 =>
  (hp_ldi h v9 a1).bind fun v11 =>
  (fX10_take E zd a0 v11 h).bind fun w14 =>
  bX10_mark_111 E (bX10_mark_83 E n) a0 a1 w14) := id rfl
theorem u_bX10_mark_35 (E : ah_E) (n : Nat) (a0 : Option Nat) (a1 : Int32) (h : ah_H) : bX10_mark_35 E (n + 1) a0 a1 h = ((hp_gi h a0 11 50).bind fun v1 =>
  if v1 ≤ a1 then
    bX10_mark_83 E zf a0 (0 : Int32) h
  else
  (hp_gr h a0 11 27).bind fun v4 =>
  (hp_gr h a0 11 47).bind fun v6 =>
  (hp_ldi h v6 a1).bind fun v8 =>
  (hp_ldi h v4 v8).bind fun v10 =>
  if v10 = (-1 : Int32) then
    bX10_mark_75 E (bX10_mark_35 E n) a0 a1 h
  else
  (hp_gr h a0 11 76).bind fun v13 =>
  (hp_gr h a0 11 27).bind fun v15 =>
  (hp_gr h a0 11 47).bind fun v17 =>
  (hp_ldi h v17 a1).bind fun v19 =>
  (hp_ldi h v15 v19).bind fun v21 =>
  (hp_stb h v13 v21 (1 : Int32)).bind fun w23 =>
  bX10_mark_75 E (bX10_mark_35 E n) a0 a1 w23) := id rfl
theorem u_bX10_mark_2 (E : ah_E) (n : Nat) (a0 : Option Nat) (a1 : Int32) (h : ah_H) : bX10_mark_2 E (n + 1) a0 a1 h = (if (1000 : Int32) ≤ a1 then
    (hp_gi h a0 11 51).bind fun v2 =>
    if v2 = 0 then
      (fX10_spreadChanges E a0 h).bind fun w6 =>
      bX10_mark_35 E zf a0 (0 : Int32) w6
    else
    bX10_mark_117 E a0 h
  else
  (hp_gr h a0 11 76).bind fun v8 =>
  (hp_stb h v8 a1 (0 : Int32)).bind fun w10 =>
  bX10_mark_2 E n a0 (a1 + 1) w10) := id rfl
theorem u_bX10_freePlaces_8 (E : ah_E) (n : Nat) (a0 : Option Nat) (a1 : Int32) (a2 : Int32) (h : ah_H) : bX10_freePlaces_8 E (n + 1) a0 a1 a2 h = (if (1000 : Int32) ≤ a2 then
    some (a1, h)
  else
  (hp_gr h a0 11 76).bind fun v2 =>
  (hp_ldb h v2 a2).bind fun v4 =>
  if v4 = 0 then
    bX10_freePlaces_30 E (bX10_freePlaces_8 E n) a0 a2 a1 (1 : Int32) h
  else
  bX10_freePlaces_30 E (bX10_freePlaces_8 E n) a0 a2 a1 (0 : Int32) h) := id rfl
theorem u_bX10_get_40 (E : ah_E) (n : Nat) (a0 : Option Nat) (a3 : Int32) (a4 : Int32) (h : ah_H) : bX10_get_40 E (n + 1) a0 a3 a4 h = ((hp_gi h a0 11 2).bind fun v1 =>
  if v1 ≤ a4 then
    (hp_gi h a0 11 2).bind fun v4 =>
    some (v4, h)
  else
  (hp_gr h a0 11 1).bind fun v6 =>
  (hp_gr h a0 11 5).bind fun v8 =>
  (hp_ldb h v8 (((20 : Int32) * a3) + a4)).bind fun v10 =>
  (hp_stb h v6 a4 v10).bind fun w12 =>
  bX10_get_40 E n a0 a3 (a4 + 1) w12) := id rfl
theorem u_bX10_height_17 (E : ah_E) (n : Nat) (a0 : Option Nat) (a1 : Int32) (a2 : Int32) (h : ah_H) : bX10_height_17 E (n + 1) a0 a1 a2 h = ((hp_gr h a0 11 18).bind fun v1 =>
  (hp_ldb h v1 a2).bind fun v3 =>
  if v3 = 0 then
    (hp_gr h a0 11 22).bind fun v6 =>
    (hp_ldi h v6 ((128 : Int32) * a2)).bind fun v8 =>
    bX10_height_17 E n a0 (a1 + 1) v8 h
  else
  some (a1, h)) := id rfl
theorem u_bX10_clearPages_83 (E : ah_E) (n : Nat) (a0 : Option Nat) (a1 : Int32) (h : ah_H) : bX10_clearPages_83 E (n + 1) a0 a1 h = (if (14000 : Int32) ≤ a1 then
    (hp_pv h a0 11 40 (.int (0 : Int32))).bind fun w2 =>
    some w2
  else
  (hp_gr h a0 11 39).bind fun v4 =>
  if (14000 : Int32) ≤ (a1 + (1 : Int32)) then
    bX10_clearPages_111 E (bX10_clearPages_83 E n) a0 a1 v4 a1 (-1 : Int32) h
  else
  bX10_clearPages_111 E (bX10_clearPages_83 E n) a0 a1 v4 a1 (a1 + (1 : Int32)) h) := id rfl
theorem u_bX10_clearPages_41 (E : ah_E) (n : Nat) (a0 : Option Nat) (a1 : Int32) (h : ah_H) : bX10_clearPages_41 E (n + 1) a0 a1 h = (if (7000 : Int32) ≤ a1 then
    (hp_pv h a0 11 35 (.int (0 : Int32))).bind fun w2 =>
    bX10_clearPages_83 E zf a0 (0 : Int32) w2
  else
  (hp_gr h a0 11 34).bind fun v4 =>
  if (7000 : Int32) ≤ (a1 + (1 : Int32)) then
    bX10_clearPages_69 E (bX10_clearPages_41 E n) a0 a1 v4 a1 (-1 : Int32) h
  else
  bX10_clearPages_69 E (bX10_clearPages_41 E n) a0 a1 v4 a1 (a1 + (1 : Int32)) h) := id rfl
theorem u_bX10_clearPages_9 (E : ah_E) (n : Nat) (a0 : Option Nat) (a1 : Int32) (h : ah_H) : bX10_clearPages_9 E (n + 1) a0 a1 h = (if a1 < 0 then
    bX10_clearPages_41 E zf a0 (0 : Int32) h
  else
  (hp_gr h a0 11 28).bind fun v2 =>
  (hp_gi h a0 11 29).bind fun v4 =>
  (hp_sti h v2 v4 a1).bind fun w6 =>
  (hp_gi w6 a0 11 29).bind fun v8 =>
  (hp_pv w6 a0 11 29 (.int (v8 + (1 : Int32)))).bind fun w10 =>
  bX10_clearPages_9 E n a0 (a1 + (-1)) w10) := id rfl
theorem u_bX10_letter__72 (E : ah_E) (n : Nat) (a0 : Option Nat) (a2 : Int32) (a3 : Int32) (a4 : Int32) (a5 : Int32) (h : ah_H) : bX10_letter__72 E (n + 1) a0 a2 a3 a4 a5 h = (if a2 ≤ a5 then
    if a3 = 0 then
      (hp_gr h a0 11 8).bind fun v3 =>
      (hp_gr h a0 11 36).bind fun v5 =>
      (hp_ldi h v5 a4).bind fun v7 =>
      (hp_ldi h v3 v7).bind fun v9 =>
      bX10_letter__124 E v9 h
    else
    (hp_gr h a0 11 13).bind fun v11 =>
    (hp_gr h a0 11 36).bind fun v13 =>
    (hp_ldi h v13 a4).bind fun v15 =>
    (hp_ldi h v11 v15).bind fun v17 =>
    bX10_letter__124 E v17 h
  else
  (hp_gr h a0 11 39).bind fun v19 =>
  (hp_ldi h v19 a4).bind fun v21 =>
  bX10_letter__72 E n a0 a2 a3 v21 (a5 + 1) h) := id rfl
theorem u_bX10_letters_18 (E : ah_E) (n : Nat) (a0 : Option Nat) (a1 : Int32) (a2 : Int32) (h : ah_H) : bX10_letters_18 E (n + 1) a0 a1 a2 h = ((hp_gi h a0 11 50).bind fun v1 =>
  if v1 ≤ a2 then
    some (a1, h)
  else
  (hp_gr h a0 11 26).bind fun v4 =>
  (hp_gr h a0 11 47).bind fun v6 =>
  (hp_ldi h v6 a2).bind fun v8 =>
  (hp_ldi h v4 v8).bind fun v10 =>
  bX10_letters_18 E n a0 (a1 + v10) (a2 + 1) h) := id rfl
theorem u_bX10_pictureAt_2 (E : ah_E) (n : Nat) (a0 : Option Nat) (a1 : Int32) (a2 : Int32) (h : ah_H) : bX10_pictureAt_2 E (n + 1) a0 a1 a2 h = ((hp_gi h a0 11 71).bind fun v1 =>
  if v1 ≤ a2 then
    some ((-1 : Int32), h)
  else
  (hp_gr h a0 11 69).bind fun v4 =>
  (hp_ldi h v4 a2).bind fun v6 =>
  if v6 = a1 then
    some (a2, h)
  else
  bX10_pictureAt_2 E n a0 a1 (a2 + 1) h) := id rfl
theorem u_bX10_look_63 (E : ah_E) (k38 : Option Nat → Int64 → Int32 → Int32 → ah_H → Option (Int32 × ah_H)) (n : Nat) (a0 : Option Nat) (a2 : Int64) (a5 : Int32) (a6 : Int32) (a7 : Int32) (h : ah_H) : bX10_look_63 E k38 (n + 1) a0 a2 a5 a6 a7 h = ((hp_gr h a0 11 53).bind fun v1 =>
  (hp_ldi h v1 a6).bind fun v3 =>
  if v3 ≤ (a7 + (1 : Int32)) then
    bX10_look_103 E k38 a0 a2 a5 a6 a7 h
  else
  (hp_gr h a0 11 54).bind fun v6 =>
  (hp_ldl h v6 ((((6 : Int32) * a6) + a7) + (1 : Int32))).bind fun v8 =>
  if a2 < v8 then
    bX10_look_103 E k38 a0 a2 a5 a6 a7 h
  else
  bX10_look_63 E k38 n a0 a2 a5 a6 (a7 + 1) h) := id rfl
theorem u_bX10_look_180 (E : ah_E) (k133 : Option Nat → Int64 → Int32 → Int32 → Int32 → ah_H → Option (Int32 × ah_H)) (n : Nat) (a0 : Option Nat) (a2 : Int64) (a5 : Int32) (a6 : Int32) (a7 : Int32) (a8 : Int32) (h : ah_H) : bX10_look_180 E k133 (n + 1) a0 a2 a5 a6 a7 a8 h = (if (20 : Int32) ≤ a8 then
    bX10_look_213 E k133 a0 a2 a5 a6 a7 h
  else
  (hp_gr h a0 11 16).bind fun v2 =>
  (hp_gr h a0 11 56).bind fun v4 =>
  (hp_ldb h v4 (((20 : Int32) * a7) + a8)).bind fun v6 =>
  (hp_stb h v2 a8 v6).bind fun w8 =>
  bX10_look_180 E k133 n a0 a2 a5 a6 a7 (a8 + 1) w8) := id rfl
theorem u_bX10_look_242 (E : ah_E) (k225 : Option Nat → Int64 → Int32 → ah_H → Option (Int32 × ah_H)) (n : Nat) (a0 : Option Nat) (a2 : Int64) (a7 : Int32) (a8 : Int32) (h : ah_H) : bX10_look_242 E k225 (n + 1) a0 a2 a7 a8 h = ((hp_gr h a0 11 77).bind fun v1 =>
  (hp_ldi h v1 a7).bind fun v3 =>
  (hp_gr h a0 11 58).bind fun v5 =>
  (hp_gr h a0 11 77).bind fun v7 =>
  (hp_ldi h v7 a7).bind fun v9 =>
  (hp_ldi h v5 v9).bind fun v11 =>
  if (((8 : Int32) * v3) + v11) ≤ a8 then
    k225 a0 a2 (a7 + (-1)) h
  else
  (hp_gr h a0 11 60).bind fun v14 =>
  (hp_ldl h v14 a8).bind fun v16 =>
  if a2 < v16 then
    bX10_look_312 E k225 (bX10_look_242 E k225 n) a0 a2 a7 a8 h
  else
  (hp_gr h a0 11 61).bind fun v19 =>
  (hp_ldl h v19 a8).bind fun v21 =>
  if v21 < a2 then
    bX10_look_312 E k225 (bX10_look_242 E k225 n) a0 a2 a7 a8 h
  else
  (hp_gr h a0 11 59).bind fun v24 =>
  (hp_ldi h v24 a8).bind fun v26 =>
  ob2 (fX10_acts E a0 v26 h) fun v30 w29 =>
  if v30 = 0 then
    bX10_look_312 E k225 (bX10_look_242 E k225 n) a0 a2 a7 a8 w29
  else
  bX10_look_313 E k225 (bX10_look_242 E k225 n) a0 a2 a7 a8 (1 : Int32) w29) := id rfl
theorem u_bX10_look_348 (E : ah_E) (n : Nat) (a0 : Option Nat) (a7 : Int32) (h : ah_H) : bX10_look_348 E (n + 1) a0 a7 h = ((hp_gi h a0 11 17).bind fun v1 =>
  if v1 ≤ a7 then
    (hp_gi h a0 11 17).bind fun v4 =>
    some (v4, h)
  else
  (hp_gr h a0 11 1).bind fun v6 =>
  (hp_gr h a0 11 16).bind fun v8 =>
  (hp_ldb h v8 a7).bind fun v10 =>
  (hp_stb h v6 a7 v10).bind fun w12 =>
  bX10_look_348 E n a0 (a7 + 1) w12) := id rfl
theorem u_bX10_look_225 (E : ah_E) (n : Nat) (a0 : Option Nat) (a2 : Int64) (a7 : Int32) (h : ah_H) : bX10_look_225 E (n + 1) a0 a2 a7 h = (if a7 < 0 then
    (hp_gi h a0 11 17).bind fun v2 =>
    if v2 = (-1 : Int32) then
      some ((-1 : Int32), h)
    else
    (hp_gi h a0 11 17).bind fun v5 =>
    (hp_pv h a0 11 2 (.int v5)).bind fun w7 =>
    bX10_look_348 E zf a0 (0 : Int32) w7
  else
  (hp_gr h a0 11 77).bind fun v9 =>
  (hp_ldi h v9 a7).bind fun v11 =>
  bX10_look_242 E (bX10_look_225 E n) zf a0 a2 a7 ((8 : Int32) * v11) h) := id rfl
theorem u_bX10_look_133 (E : ah_E) (n : Nat) (a0 : Option Nat) (a2 : Int64) (a5 : Int32) (a6 : Int32) (a7 : Int32) (h : ah_H) : bX10_look_133 E (n + 1) a0 a2 a5 a6 a7 h = ((hp_gr h a0 11 53).bind fun v1 =>
  (hp_ldi h v1 a6).bind fun v3 =>
  if (((6 : Int32) * a6) + v3) ≤ a7 then
    bX10_look_225 E zf a0 a2 (a5 - (1 : Int32)) h
  else
  (hp_gr h a0 11 54).bind fun v6 =>
  (hp_ldl h v6 a7).bind fun v8 =>
  if v8 = a2 then
    (hp_gr h a0 11 55).bind fun v11 =>
    (hp_ldi h v11 a7).bind fun v13 =>
    (hp_pv h a0 11 17 (.int v13)).bind fun w15 =>
    bX10_look_180 E (bX10_look_133 E n) zf a0 a2 a5 a6 a7 (0 : Int32) w15
  else
  bX10_look_213 E (bX10_look_133 E n) a0 a2 a5 a6 a7 h) := id rfl
theorem u_bX10_look_38 (E : ah_E) (n : Nat) (a0 : Option Nat) (a2 : Int64) (a5 : Int32) (a6 : Int32) (h : ah_H) : bX10_look_38 E (n + 1) a0 a2 a5 a6 h = ((hp_gr h a0 11 52).bind fun v1 =>
  (hp_ldb h v1 a6).bind fun v3 =>
  if v3 = 0 then
    (hp_gr h a0 11 77).bind fun v6 =>
    (hp_sti h v6 a5 a6).bind fun w8 =>
    bX10_look_63 E (bX10_look_38 E n) zf a0 a2 (a5 + 1) a6 (0 : Int32) w8
  else
  (hp_pv h a0 11 17 (.int (-1 : Int32))).bind fun w10 =>
  bX10_look_133 E zf a0 a2 a5 a6 ((6 : Int32) * a6) w10) := id rfl
theorem u_bX10_met_37 (E : ah_E) (k18 : Option Nat → Int64 → Int32 → Int32 → ah_H → Option (Int32 × ah_H)) (n : Nat) (a0 : Option Nat) (a1 : Int64) (a3 : Int32) (a4 : Int32) (a5 : Int32) (h : ah_H) : bX10_met_37 E k18 (n + 1) a0 a1 a3 a4 a5 h = (if a5 = (-1 : Int32) then
    (hp_gr h a0 11 22).bind fun v2 =>
    ob2 (fX10_kidFor E a0 a4 a1 h) fun v6 w5 =>
    (hp_ldi w5 v2 (((128 : Int32) * a4) + v6)).bind fun v8 =>
    k18 a0 a1 a3 v8 w5
  else
  (hp_gr h a0 11 37).bind fun v10 =>
  (hp_ldl h v10 a5).bind fun v12 =>
  if a1 < v12 then
    bX10_met_72 E k18 (bX10_met_37 E k18 n) a0 a1 a4 a5 a3 h
  else
  (hp_gr h a0 11 38).bind fun v15 =>
  (hp_ldl h v15 a5).bind fun v17 =>
  if v17 < a1 then
    bX10_met_72 E k18 (bX10_met_37 E k18 n) a0 a1 a4 a5 a3 h
  else
  bX10_met_73 E k18 (bX10_met_37 E k18 n) a0 a1 a4 a5 a3 (1 : Int32) h) := id rfl
theorem u_bX10_met_18 (E : ah_E) (n : Nat) (a0 : Option Nat) (a1 : Int64) (a3 : Int32) (a4 : Int32) (h : ah_H) : bX10_met_18 E (n + 1) a0 a1 a3 a4 h = ((hp_gr h a0 11 18).bind fun v1 =>
  (hp_ldb h v1 a4).bind fun v3 =>
  if v3 = 0 then
    (hp_gr h a0 11 24).bind fun v6 =>
    (hp_ldi h v6 a4).bind fun v8 =>
    bX10_met_37 E (bX10_met_18 E n) zf a0 a1 a3 a4 v8 h
  else
  some (a3, h)) := id rfl
theorem u_bX10_changedPages_4 (E : ah_E) (n : Nat) (a0 : Option Nat) (a1 : Int32) (a2 : Int32) (h : ah_H) : bX10_changedPages_4 E (n + 1) a0 a1 a2 h = ((hp_gi h a0 11 50).bind fun v1 =>
  if v1 ≤ a2 then
    some (a1, h)
  else
  (hp_gr h a0 11 27).bind fun v4 =>
  (hp_gr h a0 11 47).bind fun v6 =>
  (hp_ldi h v6 a2).bind fun v8 =>
  (hp_ldi h v4 v8).bind fun v10 =>
  if v10 = (-1 : Int32) then
    bX10_changedPages_33 E (bX10_changedPages_4 E n) a0 a2 a1 (1 : Int32) h
  else
  bX10_changedPages_33 E (bX10_changedPages_4 E n) a0 a2 a1 (0 : Int32) h) := id rfl
theorem u_bX10_lay_83 (E : ah_E) (k38 : Option Nat → Int32 → Int32 → Int32 → ah_H → Option ah_H) (n : Nat) (a0 : Option Nat) (a2 : Int32) (a3 : Int32) (a4 : Int32) (a5 : Int32) (h : ah_H) : bX10_lay_83 E k38 (n + 1) a0 a2 a3 a4 a5 h = (if (20 : Int32) ≤ a5 then
    (hp_gr h a0 11 34).bind fun v2 =>
    (hp_ldi h v2 a4).bind fun v4 =>
    k38 a0 a2 (a3 + 1) v4 h
  else
  (hp_gr h a0 11 56).bind fun v6 =>
  (hp_gr h a0 11 33).bind fun v8 =>
  (hp_ldb h v8 (((20 : Int32) * a4) + a5)).bind fun v10 =>
  (hp_stb h v6 (((20 : Int32) * (((6 : Int32) * a2) + a3)) + a5) v10).bind fun w12 =>
  bX10_lay_83 E k38 n a0 a2 a3 a4 (a5 + 1) w12) := id rfl
theorem u_bX10_lay_38 (E : ah_E) (n : Nat) (a0 : Option Nat) (a2 : Int32) (a3 : Int32) (a4 : Int32) (h : ah_H) : bX10_lay_38 E (n + 1) a0 a2 a3 a4 h = (if a4 = (-1 : Int32) then
    (hp_gr h a0 11 53).bind fun v2 =>
    (hp_sti h v2 a2 a3).bind fun w4 =>
    some w4
  else
  (hp_gr h a0 11 54).bind fun v6 =>
  (hp_gr h a0 11 31).bind fun v8 =>
  (hp_ldl h v8 a4).bind fun v10 =>
  (hp_stl h v6 (((6 : Int32) * a2) + a3) v10).bind fun w12 =>
  (hp_gr w12 a0 11 55).bind fun v14 =>
  (hp_gr w12 a0 11 32).bind fun v16 =>
  (hp_ldi w12 v16 a4).bind fun v18 =>
  (hp_sti w12 v14 (((6 : Int32) * a2) + a3) v18).bind fun w20 =>
  bX10_lay_83 E (bX10_lay_38 E n) zf a0 a2 a3 a4 (0 : Int32) w20) := id rfl
theorem u_bX10_lay_244 (E : ah_E) (n : Nat) (a0 : Option Nat) (a2 : Int32) (a3 : Int32) (a4 : Int32) (h : ah_H) : bX10_lay_244 E (n + 1) a0 a2 a3 a4 h = (if a4 = (-1 : Int32) then
    (hp_gr h a0 11 58).bind fun v2 =>
    (hp_sti h v2 a2 a3).bind fun w4 =>
    some w4
  else
  (hp_gr h a0 11 59).bind fun v6 =>
  (hp_gr h a0 11 36).bind fun v8 =>
  (hp_ldi h v8 a4).bind fun v10 =>
  (hp_sti h v6 (((8 : Int32) * a2) + a3) v10).bind fun w12 =>
  (hp_gr w12 a0 11 60).bind fun v14 =>
  (hp_gr w12 a0 11 37).bind fun v16 =>
  (hp_ldl w12 v16 a4).bind fun v18 =>
  (hp_stl w12 v14 (((8 : Int32) * a2) + a3) v18).bind fun w20 =>
  (hp_gr w20 a0 11 61).bind fun v22 =>
  (hp_gr w20 a0 11 38).bind fun v24 =>
  (hp_ldl w20 v24 a4).bind fun v26 =>
  (hp_stl w20 v22 (((8 : Int32) * a2) + a3) v26).bind fun w28 =>
  (hp_gr w28 a0 11 39).bind fun v30 =>
  (hp_ldi w28 v30 a4).bind fun v32 =>
  bX10_lay_244 E n a0 a2 (a3 + 1) v32 w28) := id rfl
theorem u_bX10_lay_152 (E : ah_E) (n : Nat) (a0 : Option Nat) (a1 : Int32) (a2 : Int32) (a3 : Int32) (a4 : Int32) (h : ah_H) : bX10_lay_152 E (n + 1) a0 a1 a2 a3 a4 h = ((hp_gr h a0 11 21).bind fun v1 =>
  (hp_ldi h v1 a1).bind fun v3 =>
  if v3 ≤ a4 then
    (hp_gr h a0 11 53).bind fun v6 =>
    (hp_gr h a0 11 21).bind fun v8 =>
    (hp_ldi h v8 a1).bind fun v10 =>
    (hp_sti h v6 a2 v10).bind fun w12 =>
    (hp_gr w12 a0 11 24).bind fun v14 =>
    (hp_ldi w12 v14 a1).bind fun v16 =>
    bX10_lay_244 E zf a0 a2 a3 v16 w12
  else
  (hp_gr h a0 11 57).bind fun v18 =>
  (hp_gr h a0 11 27).bind fun v20 =>
  (hp_gr h a0 11 22).bind fun v22 =>
  (hp_ldi h v22 (((128 : Int32) * a1) + a4)).bind fun v24 =>
  (hp_ldi h v20 v24).bind fun v26 =>
  (hp_sti h v18 (((6 : Int32) * a2) + a4) v26).bind fun w28 =>
  (hp_gr w28 a0 11 54).bind fun v30 =>
  (hp_gr w28 a0 11 23).bind fun v32 =>
  (hp_ldl w28 v32 (((128 : Int32) * a1) + a4)).bind fun v34 =>
  (hp_stl w28 v30 (((6 : Int32) * a2) + a4) v34).bind fun w36 =>
  bX10_lay_152 E n a0 a1 a2 a3 (a4 + 1) w36) := id rfl
theorem u_bX10_leastFree_2 (E : ah_E) (n : Nat) (a0 : Option Nat) (a1 : Int32) (h : ah_H) : bX10_leastFree_2 E (n + 1) a0 a1 h = ((hp_gr h a0 11 76).bind fun v1 =>
  (hp_ldb h v1 a1).bind fun v3 =>
  if v3 = 0 then
    some (a1, h)
  else
  bX10_leastFree_2 E n a0 (a1 + 1) h) := id rfl
theorem u_bX10_laysAll_14 (E : ah_E) (kr : Option Nat → Int32 → ah_H → Option (Int32 × ah_H)) (n : Nat) (a0 : Option Nat) (a1 : Int32) (a2 : Int32) (h : ah_H) : bX10_laysAll_14 E kr (n + 1) a0 a1 a2 h = ((hp_gr h a0 11 21).bind fun v1 =>
  (hp_ldi h v1 a1).bind fun v3 =>
  if v3 ≤ a2 then
    bX10_laysAll_60 E kr a0 a1 h
  else
  (hp_gr h a0 11 18).bind fun v6 =>
  (hp_ldb h v6 a1).bind fun v8 =>
  if v8 = 0 then
    (hp_gr h a0 11 22).bind fun v11 =>
    (hp_ldi h v11 (((128 : Int32) * a1) + a2)).bind fun v13 =>
    ob2 (kr a0 v13 h) fun v17 w16 =>
    if v17 = 0 then
      some ((0 : Int32), w16)
    else
    bX10_laysAll_14 E kr n a0 a1 (a2 + 1) w16
  else
  bX10_laysAll_60 E kr a0 a1 h) := id rfl
theorem u_fX10_laysAll (E : ah_E) (n : Nat) (a0 : Option Nat) (a1 : Int32) (h : ah_H) : fX10_laysAll E (n + 1) a0 a1 h = (gX10_laysAll E (fX10_laysAll E n) a0 a1 h) := id rfl
theorem u_bX10_writeAll_155 (E : ah_E) (n : Nat) (a0 : Option Nat) (a1 : Int32) (a2 : Int32) (a3 : Int32) (h : ah_H) : bX10_writeAll_155 E (n + 1) a0 a1 a2 a3 h = ((hp_gi h a0 11 71).bind fun v1 =>
  if v1 ≤ a3 then
    some ((a1 + (1 : Int32)), h)
  else
  (hp_gr h a0 11 67).bind fun v4 =>
  (hp_gr h a0 11 69).bind fun v6 =>
  (hp_ldi h v6 a3).bind fun v8 =>
  (hp_sti h v4 (((12 : Int32) * a2) + a3) v8).bind fun w10 =>
  (hp_gr w10 a0 11 68).bind fun v12 =>
  (hp_gr w10 a0 11 70).bind fun v14 =>
  (hp_ldi w10 v14 a3).bind fun v16 =>
  (hp_sti w10 v12 (((12 : Int32) * a2) + a3) v16).bind fun w18 =>
  bX10_writeAll_155 E n a0 a1 a2 (a3 + 1) w18) := id rfl
theorem u_bX10_release_25 (E : ah_E) (n : Nat) (a0 : Option Nat) (a3 : Int32) (h : ah_H) : bX10_release_25 E (n + 1) a0 a3 h = ((hp_gi h a0 11 71).bind fun v1 =>
  if v1 ≤ (a3 + (1 : Int32)) then
    (hp_gi h a0 11 71).bind fun v4 =>
    (hp_pv h a0 11 71 (.int (v4 - (1 : Int32)))).bind fun w6 =>
    (hp_gi w6 a0 11 71).bind fun v8 =>
    some (v8, w6)
  else
  (hp_gr h a0 11 69).bind fun v10 =>
  (hp_gr h a0 11 69).bind fun v12 =>
  (hp_ldi h v12 (a3 + (1 : Int32))).bind fun v14 =>
  (hp_sti h v10 a3 v14).bind fun w16 =>
  (hp_gr w16 a0 11 70).bind fun v18 =>
  (hp_gr w16 a0 11 70).bind fun v20 =>
  (hp_ldi w16 v20 (a3 + (1 : Int32))).bind fun v22 =>
  (hp_sti w16 v18 a3 v22).bind fun w24 =>
  bX10_release_25 E n a0 (a3 + 1) w24) := id rfl
theorem u_bX10_load_81 (E : ah_E) (kr : Option Nat → Int32 → ah_H → Option (Int32 × ah_H)) (k35 : Option Nat → Int32 → Int32 → Int32 → Int32 → ah_H → Option (Int32 × ah_H)) (n : Nat) (a0 : Option Nat) (a1 : Int32) (a2 : Int32) (a3 : Int32) (a4 : Int32) (a5 : Int32) (h : ah_H) : bX10_load_81 E kr k35 (n + 1) a0 a1 a2 a3 a4 a5 h = (if (20 : Int32) ≤ a5 then
    k35 a0 a1 a2 a3 (a4 + 1) h
  else
  (hp_gr h a0 11 33).bind fun v2 =>
  (hp_gr h a0 11 56).bind fun v4 =>
  (hp_ldb h v4 (((20 : Int32) * a4) + a5)).bind fun v6 =>
  (hp_stb h v2 (((20 : Int32) * a3) + a5) v6).bind fun w8 =>
  bX10_load_81 E kr k35 n a0 a1 a2 a3 a4 (a5 + 1) w8) := id rfl
theorem u_bX10_load_35 (E : ah_E) (kr : Option Nat → Int32 → ah_H → Option (Int32 × ah_H)) (n : Nat) (a0 : Option Nat) (a1 : Int32) (a2 : Int32) (a3 : Int32) (a4 : Int32) (h : ah_H) : bX10_load_35 E kr (n + 1) a0 a1 a2 a3 a4 h = ((hp_gr h a0 11 53).bind fun v1 =>
  (hp_ldi h v1 a1).bind fun v3 =>
  if (((6 : Int32) * a1) + v3) ≤ a4 then
    some (a2, h)
  else
  (hp_gr h a0 11 54).bind fun v6 =>
  (hp_ldl h v6 a4).bind fun v8 =>
  ob2 (fX10_entry E a0 a2 a3 v8 h) fun v12 w11 =>
  (hp_gr w11 a0 11 32).bind fun v14 =>
  (hp_gr w11 a0 11 55).bind fun v16 =>
  (hp_ldi w11 v16 a4).bind fun v18 =>
  (hp_sti w11 v14 v12 v18).bind fun w20 =>
  bX10_load_81 E kr (bX10_load_35 E kr n) zf a0 a1 a2 v12 a4 (0 : Int32) w20) := id rfl
theorem u_bX10_load_197 (E : ah_E) (kr : Option Nat → Int32 → ah_H → Option (Int32 × ah_H)) (n : Nat) (a0 : Option Nat) (a1 : Int32) (a2 : Int32) (a3 : Int32) (h : ah_H) : bX10_load_197 E kr (n + 1) a0 a1 a2 a3 h = ((hp_gr h a0 11 53).bind fun v1 =>
  (hp_ldi h v1 a1).bind fun v3 =>
  if v3 ≤ a3 then
    some (a2, h)
  else
  (hp_gr h a0 11 23).bind fun v6 =>
  (hp_gr h a0 11 54).bind fun v8 =>
  (hp_ldl h v8 (((6 : Int32) * a1) + a3)).bind fun v10 =>
  (hp_stl h v6 (((128 : Int32) * a2) + a3) v10).bind fun w12 =>
  (hp_gr w12 a0 11 22).bind fun v14 =>
  (hp_gr w12 a0 11 57).bind fun v16 =>
  (hp_ldi w12 v16 (((6 : Int32) * a1) + a3)).bind fun v18 =>
  ob2 (kr a0 v18 w12) fun v22 w21 =>
  (hp_sti w21 v14 (((128 : Int32) * a2) + a3) v22).bind fun w24 =>
  bX10_load_197 E kr n a0 a1 a2 (a3 + 1) w24) := id rfl
theorem u_bX10_load_132 (E : ah_E) (kr : Option Nat → Int32 → ah_H → Option (Int32 × ah_H)) (n : Nat) (a0 : Option Nat) (a1 : Int32) (a2 : Int32) (a3 : Int32) (h : ah_H) : bX10_load_132 E kr (n + 1) a0 a1 a2 a3 h = ((hp_gr h a0 11 58).bind fun v1 =>
  (hp_ldi h v1 a1).bind fun v3 =>
  if (((8 : Int32) * a1) + v3) ≤ a3 then
    (hp_gr h a0 11 27).bind fun v6 =>
    (hp_sti h v6 a2 a1).bind fun w8 =>
    (hp_gr w8 a0 11 21).bind fun v10 =>
    (hp_gr w8 a0 11 53).bind fun v12 =>
    (hp_ldi w8 v12 a1).bind fun v14 =>
    (hp_sti w8 v10 a2 v14).bind fun w16 =>
    bX10_load_197 E kr zf a0 a1 a2 (0 : Int32) w16
  else
  (hp_gr h a0 11 59).bind fun v18 =>
  (hp_ldi h v18 a3).bind fun v20 =>
  (hp_gr h a0 11 60).bind fun v22 =>
  (hp_ldl h v22 a3).bind fun v24 =>
  (hp_gr h a0 11 61).bind fun v26 =>
  (hp_ldl h v26 a3).bind fun v28 =>
  (fX10_letter E a0 a2 v20 v24 v28 h).bind fun w31 =>
  bX10_load_132 E kr n a0 a1 a2 (a3 + 1) w31) := id rfl
theorem u_fX10_load (E : ah_E) (n : Nat) (a0 : Option Nat) (a1 : Int32) (h : ah_H) : fX10_load E (n + 1) a0 a1 h = (gX10_load E (fX10_load E n) a0 a1 h) := id rfl
theorem u_bX10_read_53 (E : ah_E) (kr : Option Nat → Int32 → ah_H → Option ah_H) (k16 : Option Nat → Int32 → ah_H → Option ah_H) (n : Nat) (a0 : Option Nat) (a2 : Int32) (a3 : Int32) (h : ah_H) : bX10_read_53 E kr k16 (n + 1) a0 a2 a3 h = (if (20 : Int32) ≤ a3 then
    (hp_gi h a0 11 6).bind fun v2 =>
    (hp_pv h a0 11 6 (.int (v2 + (1 : Int32)))).bind fun w4 =>
    (hp_gr w4 a0 11 34).bind fun v6 =>
    (hp_ldi w4 v6 a2).bind fun v8 =>
    k16 a0 v8 w4
  else
  (hp_gr h a0 11 5).bind fun v10 =>
  (hp_gi h a0 11 6).bind fun v12 =>
  (hp_gr h a0 11 33).bind fun v14 =>
  (hp_ldb h v14 (((20 : Int32) * a2) + a3)).bind fun v16 =>
  (hp_stb h v10 (((20 : Int32) * v12) + a3) v16).bind fun w18 =>
  bX10_read_53 E kr k16 n a0 a2 (a3 + 1) w18) := id rfl
theorem u_bX10_read_16 (E : ah_E) (kr : Option Nat → Int32 → ah_H → Option ah_H) (n : Nat) (a0 : Option Nat) (a2 : Int32) (h : ah_H) : bX10_read_16 E kr (n + 1) a0 a2 h = (if a2 = (-1 : Int32) then
    some h
  else
  (hp_gr h a0 11 3).bind fun v2 =>
  (hp_gi h a0 11 6).bind fun v4 =>
  (hp_gr h a0 11 31).bind fun v6 =>
  (hp_ldl h v6 a2).bind fun v8 =>
  (hp_stl h v2 v4 v8).bind fun w10 =>
  (hp_gr w10 a0 11 4).bind fun v12 =>
  (hp_gi w10 a0 11 6).bind fun v14 =>
  (hp_gr w10 a0 11 32).bind fun v16 =>
  (hp_ldi w10 v16 a2).bind fun v18 =>
  (hp_sti w10 v12 v14 v18).bind fun w20 =>
  bX10_read_53 E kr (bX10_read_16 E kr n) zf a0 a2 (0 : Int32) w20) := id rfl
theorem u_bX10_read_152 (E : ah_E) (kr : Option Nat → Int32 → ah_H → Option ah_H) (n : Nat) (a0 : Option Nat) (a2 : Int32) (h : ah_H) : bX10_read_152 E kr (n + 1) a0 a2 h = (if a2 = (-1 : Int32) then
    some h
  else
  (hp_gr h a0 11 36).bind fun v2 =>
  (hp_ldi h v2 a2).bind fun v4 =>
  (hp_gr h a0 11 8).bind fun v6 =>
  (hp_ldi h v6 v4).bind fun v8 =>
  if v8 = (5 : Int32) then
    (hp_gr h a0 11 38).bind fun v11 =>
    (hp_ldl h v11 a2).bind fun v13 =>
    if v13 = (9223372036854775807 : Int64) then
      (hp_gi h a0 11 6).bind fun v16 =>
      bX10_read_206 E kr (bX10_read_152 E kr n) a0 a2 v16 h
    else
    (hp_gr h a0 11 38).bind fun v18 =>
    (hp_ldl h v18 a2).bind fun v20 =>
    ob2 (fX10_place E a0 (v20 + (1 : Int64)) h) fun v24 w23 =>
    bX10_read_206 E kr (bX10_read_152 E kr n) a0 a2 v24 w23
  else
  ob2 (fX10_actsOnMap E a0 v4 h) fun v28 w27 =>
  bX10_read_234 E kr (bX10_read_152 E kr n) a0 a2 w27) := id rfl
theorem u_bX10_read_113 (E : ah_E) (kr : Option Nat → Int32 → ah_H → Option ah_H) (n : Nat) (a0 : Option Nat) (a1 : Int32) (a2 : Int32) (h : ah_H) : bX10_read_113 E kr (n + 1) a0 a1 a2 h = ((hp_gr h a0 11 21).bind fun v1 =>
  (hp_ldi h v1 a1).bind fun v3 =>
  if v3 ≤ a2 then
    (hp_gr h a0 11 24).bind fun v6 =>
    (hp_ldi h v6 a1).bind fun v8 =>
    bX10_read_152 E kr zf a0 v8 h
  else
  (hp_gr h a0 11 22).bind fun v10 =>
  (hp_ldi h v10 (((128 : Int32) * a1) + a2)).bind fun v12 =>
  (kr a0 v12 h).bind fun w15 =>
  bX10_read_113 E kr n a0 a1 (a2 + 1) w15) := id rfl
theorem u_fX10_read (E : ah_E) (n : Nat) (a0 : Option Nat) (a1 : Int32) (h : ah_H) : fX10_read E (n + 1) a0 a1 h = (gX10_read E (fX10_read E n) a0 a1 h) := id rfl
theorem u_bX10_rise_157 (E : ah_E) (n : Nat) (a0 : Option Nat) (a1 : Int32) (a2 : Int32) (h : ah_H) : bX10_rise_157 E (n + 1) a0 a1 a2 h = ((hp_gi h a0 11 71).bind fun v1 =>
  if v1 ≤ a2 then
    (hp_gr h a0 11 63).bind fun v4 =>
    (hp_ldi h v4 a1).bind fun v6 =>
    ob2 (fX10_load E zd a0 v6 h) fun v10 w9 =>
    (hp_pv w9 a0 11 30 (.int v10)).bind fun w12 =>
    (hp_gi w12 a0 11 30).bind fun v14 =>
    (fX10_read E zd a0 v14 w12).bind fun w17 =>
    (hp_gi w17 a0 11 73).bind fun v19 =>
    some (v19, w17)
  else
  (hp_gr h a0 11 69).bind fun v21 =>
  (hp_gr h a0 11 67).bind fun v23 =>
  (hp_ldi h v23 (((12 : Int32) * a1) + a2)).bind fun v25 =>
  (hp_sti h v21 a2 v25).bind fun w27 =>
  (hp_gr w27 a0 11 70).bind fun v29 =>
  (hp_gr w27 a0 11 68).bind fun v31 =>
  (hp_ldi w27 v31 (((12 : Int32) * a1) + a2)).bind fun v33 =>
  (hp_sti w27 v29 a2 v33).bind fun w35 =>
  bX10_rise_157 E n a0 a1 (a2 + 1) w35) := id rfl
theorem u_bX10_rise_67 (E : ah_E) (n : Nat) (a0 : Option Nat) (a1 : Int32) (a2 : Int32) (h : ah_H) : bX10_rise_67 E (n + 1) a0 a1 a2 h = (if (2 : Int32) ≤ a2 then
    (hp_gi h a0 11 73).bind fun v2 =>
    if v2 = 0 then
      (hp_pv h a0 11 15 (.int (0 : Int32))).bind fun w5 =>
      ob2 (fX10_page E a0 (1 : Int32) w5) fun v9 w8 =>
      (hp_pv w8 a0 11 30 (.int v9)).bind fun w11 =>
      some ((0 : Int32), w11)
    else
    (hp_gr h a0 11 64).bind fun v13 =>
    (hp_ldi h v13 a1).bind fun v15 =>
    (hp_pv h a0 11 15 (.int v15)).bind fun w17 =>
    (hp_gr w17 a0 11 65).bind fun v19 =>
    (hp_ldi w17 v19 a1).bind fun v21 =>
    (hp_pv w17 a0 11 71 (.int v21)).bind fun w23 =>
    bX10_rise_157 E zf a0 a1 (0 : Int32) w23
  else
  (hp_gr h a0 11 62).bind fun v25 =>
  (hp_ldi h v25 a2).bind fun v27 =>
  if v27 ≤ 0 then
    bX10_rise_106 E (bX10_rise_67 E n) a0 a1 a2 h
  else
  (hp_gr h a0 11 66).bind fun v30 =>
  (hp_ldi h v30 a2).bind fun v32 =>
  (hp_gi h a0 11 72).bind fun v34 =>
  if v32 < v34 then
    bX10_rise_106 E (bX10_rise_67 E n) a0 a1 a2 h
  else
  (hp_gr h a0 11 66).bind fun v37 =>
  (hp_ldi h v37 a2).bind fun v39 =>
  (hp_pv h a0 11 72 (.int (v39 + (1 : Int32)))).bind fun w41 =>
  bX10_rise_106 E (bX10_rise_67 E n) a0 a1 a2 w41) := id rfl
theorem u_bX10_settle_73 (E : ah_E) (k12 : Option Nat → Int32 → ah_H → Option (Int32 × ah_H)) (n : Nat) (a0 : Option Nat) (a1 : Int32) (a3 : Int32) (h : ah_H) : bX10_settle_73 E k12 (n + 1) a0 a1 a3 h = ((hp_gi h a0 11 30).bind fun v1 =>
  if a3 = v1 then
    bX10_settle_115 E k12 a0 a1 h
  else
  ob2 (fX10_isTooBig E a0 a3 h) fun v6 w5 =>
  if v6 = 0 then
    bX10_settle_115 E k12 a0 a1 w5
  else
  (hp_gr w5 a0 11 48).bind fun v9 =>
  (hp_ldi w5 v9 a3).bind fun v11 =>
  (hp_gr w5 a0 11 49).bind fun v13 =>
  (hp_ldi w5 v13 a3).bind fun v15 =>
  (fX10_partKid E a0 v11 v15 w5).bind fun w18 =>
  bX10_settle_73 E k12 n a0 a1 v11 w18) := id rfl
theorem u_bX10_settle_18 (E : ah_E) (k12 : Option Nat → Int32 → ah_H → Option (Int32 × ah_H)) (n : Nat) (a0 : Option Nat) (a1 : Int32) (a2 : Int32) (h : ah_H) : bX10_settle_18 E k12 (n + 1) a0 a1 a2 h = ((hp_gi h a0 11 50).bind fun v1 =>
  if v1 ≤ a2 then
    bX10_settle_46 E k12 a0 a1 a2 h
  else
  (hp_gr h a0 11 26).bind fun v4 =>
  (hp_gr h a0 11 47).bind fun v6 =>
  (hp_ldi h v6 a2).bind fun v8 =>
  (hp_ldi h v4 v8).bind fun v10 =>
  if v10 = 0 then
    bX10_settle_18 E k12 n a0 a1 (a2 + 1) h
  else
  bX10_settle_46 E k12 a0 a1 a2 h) := id rfl
theorem u_bX10_settle_12 (E : ah_E) (n : Nat) (a0 : Option Nat) (a1 : Int32) (h : ah_H) : bX10_settle_12 E (n + 1) a0 a1 h = ((fX10_number E a0 h).bind fun w2 =>
  bX10_settle_18 E (bX10_settle_12 E n) zf a0 a1 (0 : Int32) w2) := id rfl
