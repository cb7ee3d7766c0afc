noncomputable def bX9_write_63 (E : ah_E) (a0 : Option Nat) (a1 : Int32) (a2 : Int64) (a4 : Int64) (a7 : Option Nat) (a8 : Option Nat) (h : ah_H) : Option (Int32 × ah_H) :=
  (hp_gi h a0 10 6).bind fun v1 =>
  (hp_pv h a0 10 6 (.int (v1 + (1 : Int32)))).bind fun w3 =>
  (hp_new w3 5 nf_5 6).bind fun w5 =>
  (hp_gi w5 a0 10 6).bind fun v7 =>
  (fX4_init E (some w3.1) a1 v7 a2 a4 a7 a8 w5).bind fun w10 =>
  (hp_new w10 0 nf_0 3).bind fun w12 =>
  (fJx4a65c_init_da8c8 E (some w10.1) w12).bind fun w15 =>
  ob2 (fJx4a65c_add_9ea2d E (some w10.1) (some w3.1) w15) fun v19 w18 =>
  (hp_gr w18 a0 10 2).bind fun v21 =>
  (hp_gr w18 a0 10 2).bind fun v23 =>
  (hp_gr w18 v23 9 0).bind fun v25 =>
  ob2 (fX8_give E zd v25 (some w10.1) (0 : Int32) w18) fun v29 w28 =>
  (hp_pv w28 v21 9 0 (va_rf v29)).bind fun w31 =>
  (hp_gr w31 a0 10 2).bind fun v33 =>
  (fX8_partRoot E v33 w31).bind fun w36 =>
  (hp_gr w36 a0 10 3).bind fun v38 =>
  ob2 (fX1_act E v38 (some w3.1) w36) fun v42 w41 =>
  some (v42, w41)
set_option maxRecDepth 20000 in
set_option maxHeartbeats 4000000 in
theorem rX9_write_63 {X : ah_X} {d : Nat} (hd : 101 ≤ d) {a0 : Option Nat} {a1 : Int32} {a2 : Int64} {a4 : Int64} {a7 : Option Nat} {a8 : Option Nat} {h : ah_H} {r : Int32} {h2 : ah_H} (hf : bX9_write_63 X.2.2.2 a0 a1 a2 a4 a7 a8 h = some (r, h2)) : Rt X yX9_write cX9_write 11 (d + 1) 63 [(0, va_rf a0), (1, .int a1), (2, .long a2), (4, .long a4), (7, va_rf a7), (8, va_rf a8)] [] h (some (.int r)) h2 := by
  unfold bX9_write_63 at hf
  refine rt_aload_n (pc := 63) (k0 := 0) (x := a0) 0 rfl dX9_write_63 ?_
  refine rt_dup (pc := 64) (rt_cat _) dX9_write_64 ?_
  obtain ⟨v1, e2, hf⟩ := ob1 hf
  refine rt_gi (pc := 65) fd_X9_236 dX9_write_65 e2 ?_
  refine rt_iconst (pc := 68) (n := 1) (v := (1 : Int32)) (by decide) dX9_write_68 ?_
  refine rt_iadd (pc := 69) (x := v1) (z := (1 : Int32)) dX9_write_69 ?_
  obtain ⟨w3, e4, hf⟩ := ob1 hf
  refine rt_putf (pc := 70) (x := a0) fw_X9_236 (Or.inl rfl) (pf_i _).1 (pf_i _).2 dX9_write_70 e4 ?_
  obtain ⟨w5, e6, hf⟩ := ob1 hf
  refine rt_newB (pc := 73) nw_X9_158 dX9_write_73 e6 ?_
  refine rt_dup (pc := 76) (rt_cat _) dX9_write_76 ?_
  refine rt_iload_n (pc := 77) (k0 := 1) (x := a1) 1 rfl dX9_write_77 ?_
  refine rt_aload_n (pc := 78) (k0 := 0) (x := a0) 0 rfl dX9_write_78 ?_
  obtain ⟨v7, e8, hf⟩ := ob1 hf
  refine rt_gi (pc := 79) fd_X9_236 dX9_write_79 e8 ?_
  refine rt_lload_n (pc := 82) (k0 := 2) (x := a2) 2 rfl dX9_write_82 ?_
  refine rt_lload (pc := 83) (i := 4) (x := a4) 3 rfl dX9_write_83 ?_
  refine rt_aload (pc := 85) (i := 7) (x := a7) 4 rfl dX9_write_85 ?_
  refine rt_aload (pc := 87) (i := 8) (x := a8) 5 rfl dX9_write_87 ?_
  obtain ⟨w10, e9, hf⟩ := ob1 hf
  have g11 := sX4_init d (by omega) e9
  refine rt_callI (pc := 89) (As := [.int a1, .int v7, .long a2, .long a4, va_rf a7, va_rf a8]) (st := [va_rf (some w3.1)]) (ci := 5) me_X4_init mI_X4_init wl_X9_246 dX9_write_89 rfl (by simp [rt_cat, cat_i, cat_l]) rfl g11.1 g11.2 ?_
  refine rt_astore (pc := 92) (i := 9) (x := (some w3.1)) (l2 := [(9, va_rf (some w3.1)), (0, va_rf a0), (1, .int a1), (2, .long a2), (4, .long a4), (7, va_rf a7), (8, va_rf a8)]) (by decide) (by first | rfl | (simp [rt_cat, cat_i, cat_l]; done) | (simp [rt_cat, cat_i, cat_l]; decide)) dX9_write_92 ?_
  obtain ⟨w12, e13, hf⟩ := ob1 hf
  refine rt_newB (pc := 94) nw_X9_37 dX9_write_94 e13 ?_
  refine rt_dup (pc := 97) (rt_cat _) dX9_write_97 ?_
  obtain ⟨w15, e14, hf⟩ := ob1 hf
  have g16 := sJx4a65c_init_da8c8 d (by omega) e14
  refine rt_callI (pc := 98) (As := []) (st := [va_rf (some w10.1)]) (ci := 0) me_Jx4a65c_init_da8c8 mI_Jx4a65c_init_da8c8 wl_X9_39 dX9_write_98 rfl (by simp [rt_cat, cat_i, cat_l]) rfl g16.1 g16.2 ?_
  refine rt_astore (pc := 101) (i := 10) (x := (some w10.1)) (l2 := [(10, va_rf (some w10.1)), (9, va_rf (some w3.1)), (0, va_rf a0), (1, .int a1), (2, .long a2), (4, .long a4), (7, va_rf a7), (8, va_rf a8)]) (by decide) (by first | rfl | (simp [rt_cat, cat_i, cat_l]; done) | (simp [rt_cat, cat_i, cat_l]; decide)) dX9_write_101 ?_
  refine rt_aload (pc := 103) (i := 10) (x := (some w10.1)) 0 rfl dX9_write_103 ?_
  refine rt_aload (pc := 105) (i := 9) (x := (some w3.1)) 1 rfl dX9_write_105 ?_
  obtain ⟨v19, w18, e17, hf⟩ := ob2_of hf
  have g20 := sJx4a65c_add_9ea2d d (by omega) e17
  refine rt_callV (pc := 107) (As := [va_rf (some w3.1)]) (st := []) me_Jx4a65c_add_9ea2d mi_Jx4a65c_add_9ea2d wl_X9_186 dX9_write_107 rfl (by decide) rfl g20.1 g20.2 ?_
  refine rt_pop (pc := 110) rfl dX9_write_110 ?_
  refine rt_aload_n (pc := 111) (k0 := 0) (x := a0) 2 rfl dX9_write_111 ?_
  obtain ⟨v21, e22, hf⟩ := ob1 hf
  refine rt_gr (pc := 112) fd_X9_26 dX9_write_112 e22 ?_
  refine rt_aload_n (pc := 115) (k0 := 0) (x := a0) 2 rfl dX9_write_115 ?_
  obtain ⟨v23, e24, hf⟩ := ob1 hf
  refine rt_gr (pc := 116) fd_X9_26 dX9_write_116 e24 ?_
  obtain ⟨v25, e26, hf⟩ := ob1 hf
  refine rt_gr (pc := 119) fd_X9_107 dX9_write_119 e26 ?_
  refine rt_aload (pc := 122) (i := 10) (x := (some w10.1)) 0 rfl dX9_write_122 ?_
  refine rt_iconst (pc := 124) (n := 0) (v := (0 : Int32)) (by decide) dX9_write_124 ?_
  obtain ⟨v29, w28, e27, hf⟩ := ob2_of hf
  have g30 := sX8_give zd d (by unfold zd; omega) _ _ _ _ _ _ e27
  refine rt_callSN (pc := 125) (As := [va_rf v25, va_rf (some w10.1), .int (0 : Int32)]) (st := [va_rf v21]) me_X8_give ms_X8_give wln_X9_249 dX9_write_125 rfl (by simp [rt_cat, cat_i, cat_l]) rfl g30 ?_
  obtain ⟨w31, e32, hf⟩ := ob1 hf
  refine rt_putf (pc := 128) (x := v21) fw_X9_107 (Or.inl rfl) (pf_o _ _).1 (pf_o _ _).2 dX9_write_128 e32 ?_
  refine rt_aload_n (pc := 131) (k0 := 0) (x := a0) 2 rfl dX9_write_131 ?_
  obtain ⟨v33, e34, hf⟩ := ob1 hf
  refine rt_gr (pc := 132) fd_X9_26 dX9_write_132 e34 ?_
  obtain ⟨w36, e35, hf⟩ := ob1 hf
  have g37 := sX8_partRoot d (by omega) e35
  refine rt_callVN (pc := 135) (As := []) (st := []) me_X8_partRoot mi_X8_partRoot wln_X9_253 dX9_write_135 rfl (by decide) rfl g37.1 g37.2 ?_
  refine rt_aload_n (pc := 138) (k0 := 0) (x := a0) 2 rfl dX9_write_138 ?_
  obtain ⟨v38, e39, hf⟩ := ob1 hf
  refine rt_gr (pc := 139) fd_X9_33 dX9_write_139 e39 ?_
  refine rt_aload (pc := 142) (i := 9) (x := (some w3.1)) 1 rfl dX9_write_142 ?_
  obtain ⟨v42, w41, e40, hf⟩ := ob2_of hf
  have g43 := sX1_act d (by omega) e40
  refine rt_callV (pc := 144) (As := [va_rf (some w3.1)]) (st := []) me_X1_act mi_X1_act wl_X9_256 dX9_write_144 rfl (by decide) rfl g43.1 g43.2 ?_
  cases hf
  exact rt_ret (pc := 147) dX9_write_147 rfl
noncomputable def bX9_write_25 (E : ah_E) (a0 : Option Nat) (a1 : Int32) (a2 : Int64) (a4 : Int64) (a6 : Int32) (h : ah_H) : Option (Int32 × ah_H) :=
  (hp_gr h a0 10 0).bind fun v1 =>
  ob2 (fX7_part E v1 (0 : Int32) a6 h) fun v5 w4 =>
  (hp_gr w4 a0 10 0).bind fun v7 =>
  (hp_gr w4 a0 10 0).bind fun v9 =>
  (hp_gi w4 v9 8 1).bind fun v11 =>
  ob2 (fX7_part E v7 a6 v11 w4) fun v15 w14 =>
  (hp_gr w14 a0 10 0).bind fun v17 =>
  (hp_pv w14 v17 8 1 (.int (0 : Int32))).bind fun w19 =>
  bX9_write_63 E a0 a1 a2 a4 v5 v15 w19
set_option maxRecDepth 20000 in
set_option maxHeartbeats 4000000 in
theorem rX9_write_25 {X : ah_X} {d : Nat} (hd : 101 ≤ d) {a0 : Option Nat} {a1 : Int32} {a2 : Int64} {a4 : Int64} {a6 : Int32} {h : ah_H} {r : Int32} {h2 : ah_H} (hf : bX9_write_25 X.2.2.2 a0 a1 a2 a4 a6 h = some (r, h2)) : Rt X yX9_write cX9_write 11 (d + 1) 25 [(0, va_rf a0), (1, .int a1), (2, .long a2), (4, .long a4), (6, .int a6)] [] h (some (.int r)) h2 := by
  unfold bX9_write_25 at hf
  refine rt_aload_n (pc := 25) (k0 := 0) (x := a0) 0 rfl dX9_write_25 ?_
  obtain ⟨v1, e2, hf⟩ := ob1 hf
  refine rt_gr (pc := 26) fd_X9_10 dX9_write_26 e2 ?_
  refine rt_iconst (pc := 29) (n := 0) (v := (0 : Int32)) (by decide) dX9_write_29 ?_
  refine rt_iload (pc := 30) (i := 6) (x := a6) 4 rfl dX9_write_30 ?_
  obtain ⟨v5, w4, e3, hf⟩ := ob2_of hf
  have g6 := sX7_part d (by omega) e3
  refine rt_callV (pc := 32) (As := [.int (0 : Int32), .int a6]) (st := []) me_X7_part mi_X7_part wl_X9_242 dX9_write_32 rfl (by decide) rfl g6.1 g6.2 ?_
  refine rt_astore (pc := 35) (i := 7) (x := v5) (l2 := [(7, va_rf v5), (0, va_rf a0), (1, .int a1), (2, .long a2), (4, .long a4), (6, .int a6)]) (by decide) (by first | rfl | (simp [rt_cat, cat_i, cat_l]; done) | (simp [rt_cat, cat_i, cat_l]; decide)) dX9_write_35 ?_
  refine rt_aload_n (pc := 37) (k0 := 0) (x := a0) 1 rfl dX9_write_37 ?_
  obtain ⟨v7, e8, hf⟩ := ob1 hf
  refine rt_gr (pc := 38) fd_X9_10 dX9_write_38 e8 ?_
  refine rt_iload (pc := 41) (i := 6) (x := a6) 5 rfl dX9_write_41 ?_
  refine rt_aload_n (pc := 43) (k0 := 0) (x := a0) 1 rfl dX9_write_43 ?_
  obtain ⟨v9, e10, hf⟩ := ob1 hf
  refine rt_gr (pc := 44) fd_X9_10 dX9_write_44 e10 ?_
  obtain ⟨v11, e12, hf⟩ := ob1 hf
  refine rt_gi (pc := 47) fd_X9_47 dX9_write_47 e12 ?_
  obtain ⟨v15, w14, e13, hf⟩ := ob2_of hf
  have g16 := sX7_part d (by omega) e13
  refine rt_callV (pc := 50) (As := [.int a6, .int v11]) (st := []) me_X7_part mi_X7_part wl_X9_242 dX9_write_50 rfl (by decide) rfl g16.1 g16.2 ?_
  refine rt_astore (pc := 53) (i := 8) (x := v15) (l2 := [(8, va_rf v15), (7, va_rf v5), (0, va_rf a0), (1, .int a1), (2, .long a2), (4, .long a4), (6, .int a6)]) (by decide) (by first | rfl | (simp [rt_cat, cat_i, cat_l]; done) | (simp [rt_cat, cat_i, cat_l]; decide)) dX9_write_53 ?_
  refine rt_aload_n (pc := 55) (k0 := 0) (x := a0) 2 rfl dX9_write_55 ?_
  obtain ⟨v17, e18, hf⟩ := ob1 hf
  refine rt_gr (pc := 56) fd_X9_10 dX9_write_56 e18 ?_
  refine rt_iconst (pc := 59) (n := 0) (v := (0 : Int32)) (by decide) dX9_write_59 ?_
  obtain ⟨w19, e20, hf⟩ := ob1 hf
  refine rt_putf (pc := 60) (x := v17) fw_X9_47 (Or.inl rfl) (pf_i _).1 (pf_i _).2 dX9_write_60 e20 ?_
  exact rt_locals (rt_sub [2, 3, 4, 5, 1, 0] rfl) (rX9_write_63 hd hf)
noncomputable def bX9_write_0 (E : ah_E) (a0 : Option Nat) (a1 : Int32) (a2 : Int64) (a4 : Int64) (a6 : Int32) (h : ah_H) : Option (Int32 × ah_H) :=
  if a1 = (1 : Int32) then
    bX9_write_25 E a0 a1 a2 a4 a6 h
  else
  if a1 = (2 : Int32) then
    bX9_write_25 E a0 a1 a2 a4 a6 h
  else
  if a1 = (3 : Int32) then
    bX9_write_25 E a0 a1 a2 a4 a6 h
  else
  bX9_write_63 E a0 a1 a2 a4 (some E.2.1) (some E.2.1) h
set_option maxRecDepth 20000 in
set_option maxHeartbeats 4000000 in
theorem rX9_write_0 {X : ah_X} {d : Nat} (hd : 101 ≤ d) {a0 : Option Nat} {a1 : Int32} {a2 : Int64} {a4 : Int64} {a6 : Int32} {h : ah_H} {r : Int32} {h2 : ah_H} (hf : bX9_write_0 X.2.2.2 a0 a1 a2 a4 a6 h = some (r, h2)) : Rt X yX9_write cX9_write 11 (d + 1) 0 [(0, va_rf a0), (1, .int a1), (2, .long a2), (4, .long a4), (6, .int a6)] [] h (some (.int r)) h2 := by
  unfold bX9_write_0 at hf
  refine rt_getN (pc := 0) wf_X9_239 dX9_write_0 ?_
  refine rt_astore (pc := 3) (i := 7) (x := (some X.2.2.2.2.1)) (l2 := [(7, va_rf (some X.2.2.2.2.1)), (0, va_rf a0), (1, .int a1), (2, .long a2), (4, .long a4), (6, .int a6)]) (by decide) (by first | rfl | (simp [rt_cat, cat_i, cat_l]; done) | (simp [rt_cat, cat_i, cat_l]; decide)) dX9_write_3 ?_
  refine rt_getN (pc := 5) wf_X9_239 dX9_write_5 ?_
  refine rt_astore (pc := 8) (i := 8) (x := (some X.2.2.2.2.1)) (l2 := [(8, va_rf (some X.2.2.2.2.1)), (7, va_rf (some X.2.2.2.2.1)), (0, va_rf a0), (1, .int a1), (2, .long a2), (4, .long a4), (6, .int a6)]) (by decide) (by first | rfl | (simp [rt_cat, cat_i, cat_l]; done) | (simp [rt_cat, cat_i, cat_l]; decide)) dX9_write_8 ?_
  refine rt_iload_n (pc := 10) (k0 := 1) (x := a1) 3 rfl dX9_write_10 ?_
  refine rt_iconst (pc := 11) (n := 1) (v := (1 : Int32)) (by decide) dX9_write_11 ?_
  by_cases c1 : a1 = (1 : Int32)
  · rw [if_pos c1] at hf
    refine rt_icmp_eq_p (pc := 12) (x := a1) (z := (1 : Int32)) (tgt := 25) (by decide) dX9_write_12 c1 ?_
    exact rt_locals (rt_sub [2, 3, 4, 5, 6] rfl) (rX9_write_25 hd hf)
  rw [if_neg c1] at hf
  refine rt_icmp_eq_n (pc := 12) (x := a1) (z := (1 : Int32)) (tgt := 25) (by decide) dX9_write_12 c1 ?_
  refine rt_iload_n (pc := 15) (k0 := 1) (x := a1) 3 rfl dX9_write_15 ?_
  refine rt_iconst (pc := 16) (n := 2) (v := (2 : Int32)) (by decide) dX9_write_16 ?_
  by_cases c2 : a1 = (2 : Int32)
  · rw [if_pos c2] at hf
    refine rt_icmp_eq_p (pc := 17) (x := a1) (z := (2 : Int32)) (tgt := 25) (by decide) dX9_write_17 c2 ?_
    exact rt_locals (rt_sub [2, 3, 4, 5, 6] rfl) (rX9_write_25 hd hf)
  rw [if_neg c2] at hf
  refine rt_icmp_eq_n (pc := 17) (x := a1) (z := (2 : Int32)) (tgt := 25) (by decide) dX9_write_17 c2 ?_
  refine rt_iload_n (pc := 20) (k0 := 1) (x := a1) 3 rfl dX9_write_20 ?_
  refine rt_iconst (pc := 21) (n := 3) (v := (3 : Int32)) (by decide) dX9_write_21 ?_
  by_cases c3 : a1 = (3 : Int32)
  · rw [if_pos c3] at hf
    refine rt_icmp_ne_p (pc := 22) (x := a1) (z := (3 : Int32)) (tgt := 63) (by decide) dX9_write_22 c3 ?_
    exact rt_locals (rt_sub [2, 3, 4, 5, 6] rfl) (rX9_write_25 hd hf)
  rw [if_neg c3] at hf
  refine rt_icmp_ne_n (pc := 22) (x := a1) (z := (3 : Int32)) (tgt := 63) (by decide) dX9_write_22 c3 ?_
  exact rt_locals (rt_sub [2, 3, 4, 5, 1, 0] rfl) (rX9_write_63 hd hf)
noncomputable def fX9_write (E : ah_E) (a0 : Option Nat) (a1 : Int32) (a2 : Int64) (a4 : Int64) (a6 : Int32) (h : ah_H) : Option (Int32 × ah_H) := if hp_rcv h a0 10 = false then none else bX9_write_0 E a0 a1 a2 a4 a6 h
set_option maxRecDepth 20000 in
set_option maxHeartbeats 4000000 in
theorem sX9_write {X : ah_X} (d : Nat) (hd : 102 ≤ d) {a0 : Option Nat} {a1 : Int32} {a2 : Int64} {a4 : Int64} {a6 : Int32} {h : ah_H} {r : Int32} {h2 : ah_H} (hf : fX9_write X.2.2.2 a0 a1 a2 a4 a6 h = some (r, h2)) : hp_rcv h a0 10 = true ∧ Rn X yX9_write cX9_write 11 (some .int) d [va_rf a0, .int a1, .long a2, .long a4, .int a6] h (some (.int r)) h2 := by
  unfold fX9_write at hf
  by_cases c0 : hp_rcv h a0 10 = false
  · rw [if_pos c0] at hf; cases hf
  rw [if_neg c0] at hf
  refine ⟨(Bool.not_eq_false _).mp c0, ?_⟩
  obtain ⟨d, rfl⟩ : ∃ k, d = k + 1 := ⟨d - 1, by omega⟩
  exact Rn.of2 me_X9_write (by simp [lg_sl, rt_cat, cat_i, cat_l]) (ok_i _) (l := [(0, va_rf a0), (1, .int a1), (2, .long a2), (4, .long a4), (6, .int a6)]) (by simp [lv_args, rt_cat, cat_i, cat_l]) (rX9_write_0 (by omega) hf)
noncomputable def bX9_writeRefusal_33 (E : ah_E) (s0 : Int32) (h : ah_H) : Option (Int32 × ah_H) :=
  some (s0, h)
set_option maxRecDepth 20000 in
set_option maxHeartbeats 4000000 in
theorem rX9_writeRefusal_33 {X : ah_X} {d : Nat} {s0 : Int32} {h : ah_H} {r : Int32} {h2 : ah_H} (hf : bX9_writeRefusal_33 X.2.2.2 s0 h = some (r, h2)) : Rt X yX9_writeRefusal cX9_writeRefusal 2 d 33 [] [.int s0] h (some (.int r)) h2 := by
  unfold bX9_writeRefusal_33 at hf
  cases hf
  exact rt_ret (pc := 33) dX9_writeRefusal_33 rfl
noncomputable def bX9_writeRefusal_0 (E : ah_E) (a0 : Option Nat) (a1 : Int32) (h : ah_H) : Option (Int32 × ah_H) :=
  (hp_gi h a0 10 9).bind fun v1 =>
  if v1 = 0 then
    if a1 = 0 then
      (hp_gi h a0 10 6).bind fun v5 =>
      if v5 < (512 : Int32) then
        bX9_writeRefusal_33 E (0 : Int32) h
      else
      bX9_writeRefusal_33 E (-3 : Int32) h
    else
    some ((-2 : Int32), h)
  else
  some ((-4 : Int32), h)
set_option maxRecDepth 20000 in
set_option maxHeartbeats 4000000 in
theorem rX9_writeRefusal_0 {X : ah_X} {d : Nat} {a0 : Option Nat} {a1 : Int32} {h : ah_H} {r : Int32} {h2 : ah_H} (hf : bX9_writeRefusal_0 X.2.2.2 a0 a1 h = some (r, h2)) : Rt X yX9_writeRefusal cX9_writeRefusal 2 d 0 [(0, va_rf a0), (1, .int a1)] [] h (some (.int r)) h2 := by
  unfold bX9_writeRefusal_0 at hf
  refine rt_aload_n (pc := 0) (k0 := 0) (x := a0) 0 rfl dX9_writeRefusal_0 ?_
  obtain ⟨v1, e2, hf⟩ := ob1 hf
  refine rt_gi (pc := 1) fd_X9_71 dX9_writeRefusal_1 e2 ?_
  by_cases c3 : v1 = 0
  · rw [if_pos c3] at hf
    refine rt_if_eq_p (pc := 4) (x := v1) (tgt := 10) (by decide) dX9_writeRefusal_4 c3 ?_
    refine rt_iload_n (pc := 10) (k0 := 1) (x := a1) 1 rfl dX9_writeRefusal_10 ?_
    by_cases c4 : a1 = 0
    · rw [if_pos c4] at hf
      refine rt_if_eq_p (pc := 11) (x := a1) (tgt := 17) (by decide) dX9_writeRefusal_11 c4 ?_
      refine rt_aload_n (pc := 17) (k0 := 0) (x := a0) 0 rfl dX9_writeRefusal_17 ?_
      obtain ⟨v5, e6, hf⟩ := ob1 hf
      refine rt_gi (pc := 18) fd_X9_236 dX9_writeRefusal_18 e6 ?_
      refine rt_sipush (pc := 21) (n := 512) (v := (512 : Int32)) (by decide) dX9_writeRefusal_21 ?_
      by_cases c7 : v5 < (512 : Int32)
      · rw [if_pos c7] at hf
        refine rt_icmp_lt_p (pc := 24) (x := v5) (z := (512 : Int32)) (tgt := 32) (by decide) dX9_writeRefusal_24 c7 ?_
        refine rt_iconst (pc := 32) (n := 0) (v := (0 : Int32)) (by decide) dX9_writeRefusal_32 ?_
        exact rt_locals (rt_sub [] rfl) (rX9_writeRefusal_33 hf)
      rw [if_neg c7] at hf
      refine rt_icmp_lt_n (pc := 24) (x := v5) (z := (512 : Int32)) (tgt := 32) (by decide) dX9_writeRefusal_24 c7 ?_
      refine rt_bipush (pc := 27) (n := -3) (v := (-3 : Int32)) (by decide) dX9_writeRefusal_27 ?_
      refine rt_goto (pc := 29) (tgt := 33) (by decide) dX9_writeRefusal_29 ?_
      exact rt_locals (rt_sub [] rfl) (rX9_writeRefusal_33 hf)
    rw [if_neg c4] at hf
    refine rt_if_eq_n (pc := 11) (x := a1) (tgt := 17) (by decide) dX9_writeRefusal_11 c4 ?_
    refine rt_bipush (pc := 14) (n := -2) (v := (-2 : Int32)) (by decide) dX9_writeRefusal_14 ?_
    cases hf
    exact rt_ret (pc := 16) dX9_writeRefusal_16 rfl
  rw [if_neg c3] at hf
  refine rt_if_eq_n (pc := 4) (x := v1) (tgt := 10) (by decide) dX9_writeRefusal_4 c3 ?_
  refine rt_bipush (pc := 7) (n := -4) (v := (-4 : Int32)) (by decide) dX9_writeRefusal_7 ?_
  cases hf
  exact rt_ret (pc := 9) dX9_writeRefusal_9 rfl
noncomputable def fX9_writeRefusal (E : ah_E) (a0 : Option Nat) (a1 : Int32) (h : ah_H) : Option (Int32 × ah_H) := if hp_rcv h a0 10 = false then none else bX9_writeRefusal_0 E a0 a1 h
set_option maxRecDepth 20000 in
set_option maxHeartbeats 4000000 in
theorem sX9_writeRefusal {X : ah_X} (d : Nat) (hd : 0 ≤ d) {a0 : Option Nat} {a1 : Int32} {h : ah_H} {r : Int32} {h2 : ah_H} (hf : fX9_writeRefusal X.2.2.2 a0 a1 h = some (r, h2)) : hp_rcv h a0 10 = true ∧ Rn X yX9_writeRefusal cX9_writeRefusal 2 (some .int) d [va_rf a0, .int a1] h (some (.int r)) h2 := by
  unfold fX9_writeRefusal at hf
  by_cases c0 : hp_rcv h a0 10 = false
  · rw [if_pos c0] at hf; cases hf
  rw [if_neg c0] at hf
  refine ⟨(Bool.not_eq_false _).mp c0, ?_⟩
  exact Rn.of2 me_X9_writeRefusal (by simp [lg_sl, rt_cat, cat_i, cat_l]) (ok_i _) (l := [(0, va_rf a0), (1, .int a1)]) (by simp [lv_args, rt_cat, cat_i, cat_l]) (rX9_writeRefusal_0 hf)
noncomputable def bX9_append_59 (E : ah_E) (s0 : Int32) (h : ah_H) : Option (Int32 × ah_H) :=
  some (s0, h)
set_option maxRecDepth 20000 in
set_option maxHeartbeats 4000000 in
theorem rX9_append_59 {X : ah_X} {d : Nat} (hd : 102 ≤ d) {s0 : Int32} {h : ah_H} {r : Int32} {h2 : ah_H} (hf : bX9_append_59 X.2.2.2 s0 h = some (r, h2)) : Rt X yX9_append cX9_append 5 (d + 1) 59 [] [.int s0] h (some (.int r)) h2 := by
  unfold bX9_append_59 at hf
  cases hf
  exact rt_ret (pc := 59) dX9_append_59 rfl
noncomputable def bX9_append_18 (E : ah_E) (a0 : Option Nat) (a1 : Int64) (s0 : Option Nat) (s1 : Int32) (h : ah_H) : Option (Int32 × ah_H) :=
  ob2 (fX9_writeRefusal E s0 s1 h) fun v3 w2 =>
  if v3 = 0 then
    ob2 (fX9_write E a0 (2 : Int32) a1 a1 (0 : Int32) w2) fun v8 w7 =>
    (hp_gr w7 a0 10 3).bind fun v10 =>
    ob2 (fX1_rowOf E v10 a1 w7) fun v14 w13 =>
    if v14 = none then
      bX9_append_59 E (0 : Int32) w13
    else
    (hp_len w13 v14).bind fun v17 =>
    bX9_append_59 E v17 w13
  else
  some (v3, w2)
set_option maxRecDepth 20000 in
set_option maxHeartbeats 4000000 in
theorem rX9_append_18 {X : ah_X} {d : Nat} (hd : 102 ≤ d) {a0 : Option Nat} {a1 : Int64} {s0 : Option Nat} {s1 : Int32} {h : ah_H} {r : Int32} {h2 : ah_H} (hf : bX9_append_18 X.2.2.2 a0 a1 s0 s1 h = some (r, h2)) : Rt X yX9_append cX9_append 5 (d + 1) 18 [(0, va_rf a0), (1, .long a1)] [.int s1, va_rf s0] h (some (.int r)) h2 := by
  unfold bX9_append_18 at hf
  obtain ⟨v3, w2, e1, hf⟩ := ob2_of hf
  have g4 := sX9_writeRefusal d (by omega) e1
  refine rt_callV (pc := 18) (As := [.int s1]) (st := []) me_X9_writeRefusal mi_X9_writeRefusal wl_X9_59 dX9_append_18 rfl (by decide) rfl g4.1 g4.2 ?_
  refine rt_istore_n (pc := 21) (k0 := 3) (x := v3) (l2 := [(3, .int v3), (0, va_rf a0), (1, .long a1)]) (by decide) (by first | rfl | (simp [rt_cat, cat_i, cat_l]; done) | (simp [rt_cat, cat_i, cat_l]; decide)) dX9_append_21 ?_
  refine rt_iload_n (pc := 22) (k0 := 3) (x := v3) 0 rfl dX9_append_22 ?_
  by_cases c5 : v3 = 0
  · rw [if_pos c5] at hf
    refine rt_if_eq_p (pc := 23) (x := v3) (tgt := 28) (by decide) dX9_append_23 c5 ?_
    refine rt_aload_n (pc := 28) (k0 := 0) (x := a0) 1 rfl dX9_append_28 ?_
    refine rt_iconst (pc := 29) (n := 2) (v := (2 : Int32)) (by decide) dX9_append_29 ?_
    refine rt_lload_n (pc := 30) (k0 := 1) (x := a1) 2 rfl dX9_append_30 ?_
    refine rt_lload_n (pc := 31) (k0 := 1) (x := a1) 2 rfl dX9_append_31 ?_
    refine rt_iconst (pc := 32) (n := 0) (v := (0 : Int32)) (by decide) dX9_append_32 ?_
    obtain ⟨v8, w7, e6, hf⟩ := ob2_of hf
    have g9 := sX9_write d (by omega) e6
    refine rt_callV (pc := 33) (As := [.int (2 : Int32), .long a1, .long a1, .int (0 : Int32)]) (st := []) me_X9_write mi_X9_write wl_X9_67 dX9_append_33 rfl (by decide) rfl g9.1 g9.2 ?_
    refine rt_pop (pc := 36) rfl dX9_append_36 ?_
    refine rt_aload_n (pc := 37) (k0 := 0) (x := a0) 1 rfl dX9_append_37 ?_
    obtain ⟨v10, e11, hf⟩ := ob1 hf
    refine rt_gr (pc := 38) fd_X9_33 dX9_append_38 e11 ?_
    refine rt_lload_n (pc := 41) (k0 := 1) (x := a1) 2 rfl dX9_append_41 ?_
    obtain ⟨v14, w13, e12, hf⟩ := ob2_of hf
    have g15 := sX1_rowOf d (by omega) e12
    refine rt_callV (pc := 42) (As := [.long a1]) (st := []) me_X1_rowOf mi_X1_rowOf wl_X9_63 dX9_append_42 rfl (by decide) rfl g15.1 g15.2 ?_
    refine rt_astore (pc := 45) (i := 4) (x := v14) (l2 := [(4, va_rf v14), (3, .int v3), (0, va_rf a0), (1, .long a1)]) (by decide) (by first | rfl | (simp [rt_cat, cat_i, cat_l]; done) | (simp [rt_cat, cat_i, cat_l]; decide)) dX9_append_45 ?_
    refine rt_aload (pc := 47) (i := 4) (x := v14) 0 rfl dX9_append_47 ?_
    by_cases c16 : v14 = none
    · rw [if_pos c16] at hf
      refine rt_ifnonnull_p (pc := 49) (x := v14) (tgt := 56) (by decide) dX9_append_49 c16 ?_
      refine rt_iconst (pc := 52) (n := 0) (v := (0 : Int32)) (by decide) dX9_append_52 ?_
      refine rt_goto (pc := 53) (tgt := 59) (by decide) dX9_append_53 ?_
      exact rt_locals (rt_sub [] rfl) (rX9_append_59 hd hf)
    rw [if_neg c16] at hf
    refine rt_ifnonnull_n (pc := 49) (x := v14) (tgt := 56) (by decide) dX9_append_49 c16 ?_
    refine rt_aload (pc := 56) (i := 4) (x := v14) 0 rfl dX9_append_56 ?_
    obtain ⟨v17, e18, hf⟩ := ob1 hf
    refine rt_alen (pc := 58) dX9_append_58 e18 ?_
    exact rt_locals (rt_sub [] rfl) (rX9_append_59 hd hf)
  rw [if_neg c5] at hf
  refine rt_if_eq_n (pc := 23) (x := v3) (tgt := 28) (by decide) dX9_append_23 c5 ?_
  refine rt_iload_n (pc := 26) (k0 := 3) (x := v3) 0 rfl dX9_append_26 ?_
  cases hf
  exact rt_ret (pc := 27) dX9_append_27 rfl
noncomputable def bX9_append_0 (E : ah_E) (a0 : Option Nat) (a1 : Int64) (h : ah_H) : Option (Int32 × ah_H) :=
  (hp_gr h a0 10 0).bind fun v1 =>
  (hp_gi h v1 8 1).bind fun v3 =>
  if v3 ≤ (20 : Int32) then
    bX9_append_18 E a0 a1 a0 (0 : Int32) h
  else
  bX9_append_18 E a0 a1 a0 (1 : Int32) h
set_option maxRecDepth 20000 in
set_option maxHeartbeats 4000000 in
theorem rX9_append_0 {X : ah_X} {d : Nat} (hd : 102 ≤ d) {a0 : Option Nat} {a1 : Int64} {h : ah_H} {r : Int32} {h2 : ah_H} (hf : bX9_append_0 X.2.2.2 a0 a1 h = some (r, h2)) : Rt X yX9_append cX9_append 5 (d + 1) 0 [(0, va_rf a0), (1, .long a1)] [] h (some (.int r)) h2 := by
  unfold bX9_append_0 at hf
  refine rt_aload_n (pc := 0) (k0 := 0) (x := a0) 0 rfl dX9_append_0 ?_
  refine rt_aload_n (pc := 1) (k0 := 0) (x := a0) 0 rfl dX9_append_1 ?_
  obtain ⟨v1, e2, hf⟩ := ob1 hf
  refine rt_gr (pc := 2) fd_X9_10 dX9_append_2 e2 ?_
  obtain ⟨v3, e4, hf⟩ := ob1 hf
  refine rt_gi (pc := 5) fd_X9_47 dX9_append_5 e4 ?_
  refine rt_bipush (pc := 8) (n := 20) (v := (20 : Int32)) (by decide) dX9_append_8 ?_
  by_cases c5 : v3 ≤ (20 : Int32)
  · rw [if_pos c5] at hf
    refine rt_icmp_le_p (pc := 10) (x := v3) (z := (20 : Int32)) (tgt := 17) (by decide) dX9_append_10 c5 ?_
    refine rt_iconst (pc := 17) (n := 0) (v := (0 : Int32)) (by decide) dX9_append_17 ?_
    exact rX9_append_18 hd hf
  rw [if_neg c5] at hf
  refine rt_icmp_le_n (pc := 10) (x := v3) (z := (20 : Int32)) (tgt := 17) (by decide) dX9_append_10 c5 ?_
  refine rt_iconst (pc := 13) (n := 1) (v := (1 : Int32)) (by decide) dX9_append_13 ?_
  refine rt_goto (pc := 14) (tgt := 18) (by decide) dX9_append_14 ?_
  exact rX9_append_18 hd hf
noncomputable def fX9_append (E : ah_E) (a0 : Option Nat) (a1 : Int64) (h : ah_H) : Option (Int32 × ah_H) := if hp_rcv h a0 10 = false then none else bX9_append_0 E a0 a1 h
set_option maxRecDepth 20000 in
set_option maxHeartbeats 4000000 in
theorem sX9_append {X : ah_X} (d : Nat) (hd : 103 ≤ d) {a0 : Option Nat} {a1 : Int64} {h : ah_H} {r : Int32} {h2 : ah_H} (hf : fX9_append X.2.2.2 a0 a1 h = some (r, h2)) : hp_rcv h a0 10 = true ∧ Rn X yX9_append cX9_append 5 (some .int) d [va_rf a0, .long a1] h (some (.int r)) h2 := by
  unfold fX9_append at hf
  by_cases c0 : hp_rcv h a0 10 = false
  · rw [if_pos c0] at hf; cases hf
  rw [if_neg c0] at hf
  refine ⟨(Bool.not_eq_false _).mp c0, ?_⟩
  obtain ⟨d, rfl⟩ : ∃ k, d = k + 1 := ⟨d - 1, by omega⟩
  exact Rn.of2 me_X9_append (by simp [lg_sl, rt_cat, cat_i, cat_l]) (ok_i _) (l := [(0, va_rf a0), (1, .long a1)]) (by simp [lv_args, rt_cat, cat_i, cat_l]) (rX9_append_0 (by omega) hf)
noncomputable def bX9_bend_9 (E : ah_E) (h : ah_H) : Option (Int32 × ah_H) :=
  some ((-1 : Int32), h)
set_option maxRecDepth 20000 in
set_option maxHeartbeats 4000000 in
theorem rX9_bend_9 {X : ah_X} {d : Nat}  {h : ah_H} {r : Int32} {h2 : ah_H} (hf : bX9_bend_9 X.2.2.2  h = some (r, h2)) : Rt X yX9_bend cX9_bend 3 d 9 [] [] h (some (.int r)) h2 := by
  unfold bX9_bend_9 at hf
  refine rt_iconst (pc := 9) (n := -1) (v := (-1 : Int32)) (by decide) dX9_bend_9 ?_
  cases hf
  exact rt_ret (pc := 10) dX9_bend_10 rfl
noncomputable def bX9_bend_28 (E : ah_E) (a0 : Option Nat) (a1 : Int32) (s0 : Int32) (h : ah_H) : Option (Int32 × ah_H) :=
  (hp_gr h a0 10 1).bind fun v1 =>
  (hp_gr h v1 1 0).bind fun v3 =>
  (hp_stq h v3 a1 none).bind fun w5 =>
  some (s0, w5)
set_option maxRecDepth 20000 in
set_option maxHeartbeats 4000000 in
theorem rX9_bend_28 {X : ah_X} {d : Nat} {a0 : Option Nat} {a1 : Int32} {s0 : Int32} {h : ah_H} {r : Int32} {h2 : ah_H} (hf : bX9_bend_28 X.2.2.2 a0 a1 s0 h = some (r, h2)) : Rt X yX9_bend cX9_bend 3 d 28 [(0, va_rf a0), (1, .int a1)] [.int s0] h (some (.int r)) h2 := by
  unfold bX9_bend_28 at hf
  refine rt_istore_n (pc := 28) (k0 := 2) (x := s0) (l2 := [(2, .int s0), (0, va_rf a0), (1, .int a1)]) (by decide) (by first | rfl | (simp [rt_cat, cat_i, cat_l]; done) | (simp [rt_cat, cat_i, cat_l]; decide)) dX9_bend_28 ?_
  refine rt_aload_n (pc := 29) (k0 := 0) (x := a0) 1 rfl dX9_bend_29 ?_
  obtain ⟨v1, e2, hf⟩ := ob1 hf
  refine rt_gr (pc := 30) fd_X9_19 dX9_bend_30 e2 ?_
  obtain ⟨v3, e4, hf⟩ := ob1 hf
  refine rt_gr (pc := 33) fd_X9_222 dX9_bend_33 e4 ?_
  refine rt_iload_n (pc := 36) (k0 := 1) (x := a1) 2 rfl dX9_bend_36 ?_
  refine rt_null (pc := 37) dX9_bend_37 ?_
  obtain ⟨w5, e6, hf⟩ := ob1 hf
  refine rt_aast (pc := 38) dX9_bend_38 e6 ?_
  refine rt_iload_n (pc := 39) (k0 := 2) (x := s0) 0 rfl dX9_bend_39 ?_
  cases hf
  exact rt_ret (pc := 40) dX9_bend_40 rfl
noncomputable def bX9_bend_0 (E : ah_E) (a0 : Option Nat) (a1 : Int32) (h : ah_H) : Option (Int32 × ah_H) :=
  if a1 < 0 then
    bX9_bend_9 E  h
  else
  if a1 ≤ (1 : Int32) then
    (hp_gr h a0 10 1).bind fun v3 =>
    (hp_gr h v3 1 0).bind fun v5 =>
    (hp_ldq h v5 a1).bind fun v7 =>
    if v7 = none then
      bX9_bend_28 E a0 a1 (0 : Int32) h
    else
    bX9_bend_28 E a0 a1 (1 : Int32) h
  else
  bX9_bend_9 E  h
set_option maxRecDepth 20000 in
set_option maxHeartbeats 4000000 in
theorem rX9_bend_0 {X : ah_X} {d : Nat} {a0 : Option Nat} {a1 : Int32} {h : ah_H} {r : Int32} {h2 : ah_H} (hf : bX9_bend_0 X.2.2.2 a0 a1 h = some (r, h2)) : Rt X yX9_bend cX9_bend 3 d 0 [(0, va_rf a0), (1, .int a1)] [] h (some (.int r)) h2 := by
  unfold bX9_bend_0 at hf
  refine rt_iload_n (pc := 0) (k0 := 1) (x := a1) 1 rfl dX9_bend_0 ?_
  by_cases c1 : a1 < 0
  · rw [if_pos c1] at hf
    refine rt_if_lt_p (pc := 1) (x := a1) (tgt := 9) (by decide) dX9_bend_1 c1 ?_
    exact rt_locals (rt_sub [] rfl) (rX9_bend_9 hf)
  rw [if_neg c1] at hf
  refine rt_if_lt_n (pc := 1) (x := a1) (tgt := 9) (by decide) dX9_bend_1 c1 ?_
  refine rt_iload_n (pc := 4) (k0 := 1) (x := a1) 1 rfl dX9_bend_4 ?_
  refine rt_iconst (pc := 5) (n := 1) (v := (1 : Int32)) (by decide) dX9_bend_5 ?_
  by_cases c2 : a1 ≤ (1 : Int32)
  · rw [if_pos c2] at hf
    refine rt_icmp_le_p (pc := 6) (x := a1) (z := (1 : Int32)) (tgt := 11) (by decide) dX9_bend_6 c2 ?_
    refine rt_aload_n (pc := 11) (k0 := 0) (x := a0) 0 rfl dX9_bend_11 ?_
    obtain ⟨v3, e4, hf⟩ := ob1 hf
    refine rt_gr (pc := 12) fd_X9_19 dX9_bend_12 e4 ?_
    obtain ⟨v5, e6, hf⟩ := ob1 hf
    refine rt_gr (pc := 15) fd_X9_222 dX9_bend_15 e6 ?_
    refine rt_iload_n (pc := 18) (k0 := 1) (x := a1) 1 rfl dX9_bend_18 ?_
    obtain ⟨v7, e8, hf⟩ := ob1 hf
    refine rt_aald (pc := 19) dX9_bend_19 e8 ?_
    by_cases c9 : v7 = none
    · rw [if_pos c9] at hf
      refine rt_ifnonnull_p (pc := 20) (x := v7) (tgt := 27) (by decide) dX9_bend_20 c9 ?_
      refine rt_iconst (pc := 23) (n := 0) (v := (0 : Int32)) (by decide) dX9_bend_23 ?_
      refine rt_goto (pc := 24) (tgt := 28) (by decide) dX9_bend_24 ?_
      exact rX9_bend_28 hf
    rw [if_neg c9] at hf
    refine rt_ifnonnull_n (pc := 20) (x := v7) (tgt := 27) (by decide) dX9_bend_20 c9 ?_
    refine rt_iconst (pc := 27) (n := 1) (v := (1 : Int32)) (by decide) dX9_bend_27 ?_
    exact rX9_bend_28 hf
  rw [if_neg c2] at hf
  refine rt_icmp_le_n (pc := 6) (x := a1) (z := (1 : Int32)) (tgt := 11) (by decide) dX9_bend_6 c2 ?_
  exact rt_locals (rt_sub [] rfl) (rX9_bend_9 hf)
noncomputable def fX9_bend (E : ah_E) (a0 : Option Nat) (a1 : Int32) (h : ah_H) : Option (Int32 × ah_H) := if hp_rcv h a0 10 = false then none else bX9_bend_0 E a0 a1 h
set_option maxRecDepth 20000 in
set_option maxHeartbeats 4000000 in
theorem sX9_bend {X : ah_X} (d : Nat) (hd : 0 ≤ d) {a0 : Option Nat} {a1 : Int32} {h : ah_H} {r : Int32} {h2 : ah_H} (hf : fX9_bend X.2.2.2 a0 a1 h = some (r, h2)) : hp_rcv h a0 10 = true ∧ Rn X yX9_bend cX9_bend 3 (some .int) d [va_rf a0, .int a1] h (some (.int r)) h2 := by
  unfold fX9_bend at hf
  by_cases c0 : hp_rcv h a0 10 = false
  · rw [if_pos c0] at hf; cases hf
  rw [if_neg c0] at hf
  refine ⟨(Bool.not_eq_false _).mp c0, ?_⟩
  exact Rn.of2 me_X9_bend (by simp [lg_sl, rt_cat, cat_i, cat_l]) (ok_i _) (l := [(0, va_rf a0), (1, .int a1)]) (by simp [lv_args, rt_cat, cat_i, cat_l]) (rX9_bend_0 hf)
noncomputable def bX9_border_32 (E : ah_E) (h : ah_H) : Option (Int32 × ah_H) :=
  some ((-1 : Int32), h)
set_option maxRecDepth 20000 in
set_option maxHeartbeats 4000000 in
theorem rX9_border_32 {X : ah_X} {d : Nat} (hd : 94 ≤ d)  {h : ah_H} {r : Int32} {h2 : ah_H} (hf : bX9_border_32 X.2.2.2  h = some (r, h2)) : Rt X yX9_border cX9_border 4 (d + 1) 32 [] [] h (some (.int r)) h2 := by
  unfold bX9_border_32 at hf
  refine rt_iconst (pc := 32) (n := -1) (v := (-1 : Int32)) (by decide) dX9_border_32 ?_
  cases hf
  exact rt_ret (pc := 33) dX9_border_33 rfl
noncomputable def bX9_border_80 (E : ah_E) (a0 : Option Nat) (a2 : Int32) (a3 : Option Nat) (h : ah_H) : Option (Int32 × ah_H) :=
  (hp_gr h a3 6 2).bind fun v1 =>
  ob2 (fJx4a65c_size_8abf5 E v1 h) fun v5 w4 =>
  if v5 ≤ a2 then
    some ((-1 : Int32), w4)
  else
  (hp_gr w4 a3 6 2).bind fun v8 =>
  ob2 (fJx4a65c_get_915e3 E v8 a2 w4) fun v12 w11 =>
  if hp_cls w11 v12 6 = false then none else
  (hp_gl w11 v12 6 0).bind fun v15 =>
  (hp_pv w11 a0 10 8 (.long v15)).bind fun w17 =>
  some ((1 : Int32), w17)
set_option maxRecDepth 20000 in
set_option maxHeartbeats 4000000 in
theorem rX9_border_80 {X : ah_X} {d : Nat} (hd : 94 ≤ d) {a0 : Option Nat} {a2 : Int32} {a3 : Option Nat} {h : ah_H} {r : Int32} {h2 : ah_H} (hf : bX9_border_80 X.2.2.2 a0 a2 a3 h = some (r, h2)) : Rt X yX9_border cX9_border 4 (d + 1) 80 [(0, va_rf a0), (2, .int a2), (3, va_rf a3)] [] h (some (.int r)) h2 := by
  unfold bX9_border_80 at hf
  refine rt_iload_n (pc := 80) (k0 := 2) (x := a2) 1 rfl dX9_border_80 ?_
  refine rt_aload_n (pc := 81) (k0 := 3) (x := a3) 2 rfl dX9_border_81 ?_
  obtain ⟨v1, e2, hf⟩ := ob1 hf
  refine rt_gr (pc := 82) fd_X9_152 dX9_border_82 e2 ?_
  obtain ⟨v5, w4, e3, hf⟩ := ob2_of hf
  have g6 := sJx4a65c_size_8abf5 d (by omega) e3
  refine rt_callV (pc := 85) (As := []) (st := [.int a2]) me_Jx4a65c_size_8abf5 mi_Jx4a65c_size_8abf5 wl_X9_98 dX9_border_85 rfl (by simp [rt_cat, cat_i, cat_l]) rfl g6.1 g6.2 ?_
  by_cases c7 : v5 ≤ a2
  · rw [if_pos c7] at hf
    refine rt_icmp_ge_p (pc := 88) (x := a2) (z := v5) (tgt := 111) (by decide) dX9_border_88 c7 ?_
    refine rt_iconst (pc := 111) (n := -1) (v := (-1 : Int32)) (by decide) dX9_border_111 ?_
    cases hf
    exact rt_ret (pc := 112) dX9_border_112 rfl
  rw [if_neg c7] at hf
  refine rt_icmp_ge_n (pc := 88) (x := a2) (z := v5) (tgt := 111) (by decide) dX9_border_88 c7 ?_
  refine rt_aload_n (pc := 91) (k0 := 0) (x := a0) 0 rfl dX9_border_91 ?_
  refine rt_aload_n (pc := 92) (k0 := 3) (x := a3) 2 rfl dX9_border_92 ?_
  obtain ⟨v8, e9, hf⟩ := ob1 hf
  refine rt_gr (pc := 93) fd_X9_152 dX9_border_93 e9 ?_
  refine rt_iload_n (pc := 96) (k0 := 2) (x := a2) 1 rfl dX9_border_96 ?_
  obtain ⟨v12, w11, e10, hf⟩ := ob2_of hf
  have g13 := sJx4a65c_get_915e3 d (by omega) e10
  refine rt_callV (pc := 97) (As := [.int a2]) (st := [va_rf a0]) me_Jx4a65c_get_915e3 mi_Jx4a65c_get_915e3 wl_X9_143 dX9_border_97 rfl (by simp [rt_cat, cat_i, cat_l]) rfl g13.1 g13.2 ?_
  by_cases c14 : hp_cls w11 v12 6 = false
  · rw [if_pos c14] at hf; cases hf
  rw [if_neg c14] at hf
  refine rt_cast (pc := 100) (x := v12) (show vwCl[6]? = some (RX5, TX5, 5) from rfl) wc_X9_126 dX9_border_100 ((Bool.not_eq_false _).mp c14) ?_
  obtain ⟨v15, e16, hf⟩ := ob1 hf
  refine rt_gl (pc := 103) fd_X9_155 dX9_border_103 e16 ?_
  obtain ⟨w17, e18, hf⟩ := ob1 hf
  refine rt_putf (pc := 106) (x := a0) fw_X9_91 (Or.inl rfl) (pf_l _).1 (pf_l _).2 dX9_border_106 e18 ?_
  refine rt_iconst (pc := 109) (n := 1) (v := (1 : Int32)) (by decide) dX9_border_109 ?_
  cases hf
  exact rt_ret (pc := 110) dX9_border_110 rfl
noncomputable def bX9_border_0 (E : ah_E) (a0 : Option Nat) (a1 : Int32) (a2 : Int32) (h : ah_H) : Option (Int32 × ah_H) :=
  (hp_gi h a0 10 9).bind fun v1 =>
  if v1 = 0 then
    (hp_gr h a0 10 2).bind fun v4 =>
    (hp_gr h v4 9 0).bind fun v6 =>
    ob2 (fX8_pageAt E zd v6 a1 (0 : Int32) h) fun v10 w9 =>
    if v10 = none then
      bX9_border_32 E  w9
    else
    if (1 : Int32) ≤ a2 then
      ob2 (fX5_isLeaf E v10 w9) fun v16 w15 =>
      if v16 = 0 then
        bX9_border_80 E a0 a2 v10 w15
      else
      (hp_gr w15 v10 6 1).bind fun v19 =>
      (hp_gr w15 v19 2 0).bind fun v21 =>
      ob2 (fJx4a65c_size_8abf5 E v21 w15) fun v25 w24 =>
      if v25 < a2 then
        bX9_border_80 E a0 a2 v10 w24
      else
      (hp_gr w24 v10 6 1).bind fun v28 =>
      (hp_gr w24 v28 2 0).bind fun v30 =>
      ob2 (fJx4a65c_get_915e3 E v30 (a2 - (1 : Int32)) w24) fun v34 w33 =>
      if hp_cls w33 v34 3 = false then none else
      (hp_gl w33 v34 3 0).bind fun v37 =>
      (hp_pv w33 a0 10 8 (.long v37)).bind fun w39 =>
      some ((1 : Int32), w39)
    else
    bX9_border_32 E  w9
  else
  some ((-4 : Int32), h)
set_option maxRecDepth 20000 in
set_option maxHeartbeats 4000000 in
theorem rX9_border_0 {X : ah_X} {d : Nat} (hd : 94 ≤ d) {a0 : Option Nat} {a1 : Int32} {a2 : Int32} {h : ah_H} {r : Int32} {h2 : ah_H} (hf : bX9_border_0 X.2.2.2 a0 a1 a2 h = some (r, h2)) : Rt X yX9_border cX9_border 4 (d + 1) 0 [(0, va_rf a0), (1, .int a1), (2, .int a2)] [] h (some (.int r)) h2 := by
  unfold bX9_border_0 at hf
  refine rt_aload_n (pc := 0) (k0 := 0) (x := a0) 0 rfl dX9_border_0 ?_
  obtain ⟨v1, e2, hf⟩ := ob1 hf
  refine rt_gi (pc := 1) fd_X9_71 dX9_border_1 e2 ?_
  by_cases c3 : v1 = 0
  · rw [if_pos c3] at hf
    refine rt_if_eq_p (pc := 4) (x := v1) (tgt := 10) (by decide) dX9_border_4 c3 ?_
    refine rt_aload_n (pc := 10) (k0 := 0) (x := a0) 0 rfl dX9_border_10 ?_
    obtain ⟨v4, e5, hf⟩ := ob1 hf
    refine rt_gr (pc := 11) fd_X9_26 dX9_border_11 e5 ?_
    obtain ⟨v6, e7, hf⟩ := ob1 hf
    refine rt_gr (pc := 14) fd_X9_107 dX9_border_14 e7 ?_
    refine rt_iload_n (pc := 17) (k0 := 1) (x := a1) 1 rfl dX9_border_17 ?_
    refine rt_iconst (pc := 18) (n := 0) (v := (0 : Int32)) (by decide) dX9_border_18 ?_
    obtain ⟨v10, w9, e8, hf⟩ := ob2_of hf
    have g11 := sX8_pageAt zd d (by unfold zd; omega) _ _ _ _ _ _ e8
    refine rt_callSN (pc := 19) (As := [va_rf v6, .int a1, .int (0 : Int32)]) (st := []) me_X8_pageAt ms_X8_pageAt wln_X9_121 dX9_border_19 rfl (by decide) rfl g11 ?_
    refine rt_astore_n (pc := 22) (k0 := 3) (x := v10) (l2 := [(3, va_rf v10), (0, va_rf a0), (1, .int a1), (2, .int a2)]) (by decide) (by first | rfl | (simp [rt_cat, cat_i, cat_l]; done) | (simp [rt_cat, cat_i, cat_l]; decide)) dX9_border_22 ?_
    refine rt_aload_n (pc := 23) (k0 := 3) (x := v10) 0 rfl dX9_border_23 ?_
    by_cases c12 : v10 = none
    · rw [if_pos c12] at hf
      refine rt_ifnull_p (pc := 24) (x := v10) (tgt := 32) (by decide) dX9_border_24 c12 ?_
      exact rt_locals (rt_sub [] rfl) (rX9_border_32 hd hf)
    rw [if_neg c12] at hf
    refine rt_ifnull_n (pc := 24) (x := v10) (tgt := 32) (by decide) dX9_border_24 c12 ?_
    refine rt_iload_n (pc := 27) (k0 := 2) (x := a2) 3 rfl dX9_border_27 ?_
    refine rt_iconst (pc := 28) (n := 1) (v := (1 : Int32)) (by decide) dX9_border_28 ?_
    by_cases c13 : (1 : Int32) ≤ a2
    · rw [if_pos c13] at hf
      refine rt_icmp_ge_p (pc := 29) (x := a2) (z := (1 : Int32)) (tgt := 34) (by decide) dX9_border_29 c13 ?_
      refine rt_aload_n (pc := 34) (k0 := 3) (x := v10) 0 rfl dX9_border_34 ?_
      obtain ⟨v16, w15, e14, hf⟩ := ob2_of hf
      have g17 := sX5_isLeaf d (by omega) e14
      refine rt_callV (pc := 35) (As := []) (st := []) me_X5_isLeaf mi_X5_isLeaf wl_X9_125 dX9_border_35 rfl (by decide) rfl g17.1 g17.2 ?_
      by_cases c18 : v16 = 0
      · rw [if_pos c18] at hf
        refine rt_if_eq_p (pc := 38) (x := v16) (tgt := 80) (by decide) dX9_border_38 c18 ?_
        exact rt_locals (rt_sub [1, 3, 0] rfl) (rX9_border_80 hd hf)
      rw [if_neg c18] at hf
      refine rt_if_eq_n (pc := 38) (x := v16) (tgt := 80) (by decide) dX9_border_38 c18 ?_
      refine rt_iload_n (pc := 41) (k0 := 2) (x := a2) 3 rfl dX9_border_41 ?_
      refine rt_aload_n (pc := 42) (k0 := 3) (x := v10) 0 rfl dX9_border_42 ?_
      obtain ⟨v19, e20, hf⟩ := ob1 hf
      refine rt_gr (pc := 43) fd_X9_140 dX9_border_43 e20 ?_
      obtain ⟨v21, e22, hf⟩ := ob1 hf
      refine rt_gr (pc := 46) fd_X9_95 dX9_border_46 e22 ?_
      obtain ⟨v25, w24, e23, hf⟩ := ob2_of hf
      have g26 := sJx4a65c_size_8abf5 d (by omega) e23
      refine rt_callV (pc := 49) (As := []) (st := [.int a2]) me_Jx4a65c_size_8abf5 mi_Jx4a65c_size_8abf5 wl_X9_98 dX9_border_49 rfl (by simp [rt_cat, cat_i, cat_l]) rfl g26.1 g26.2 ?_
      by_cases c27 : v25 < a2
      · rw [if_pos c27] at hf
        refine rt_icmp_gt_p (pc := 52) (x := a2) (z := v25) (tgt := 80) (by decide) dX9_border_52 c27 ?_
        exact rt_locals (rt_sub [1, 3, 0] rfl) (rX9_border_80 hd hf)
      rw [if_neg c27] at hf
      refine rt_icmp_gt_n (pc := 52) (x := a2) (z := v25) (tgt := 80) (by decide) dX9_border_52 c27 ?_
      refine rt_aload_n (pc := 55) (k0 := 0) (x := a0) 1 rfl dX9_border_55 ?_
      refine rt_aload_n (pc := 56) (k0 := 3) (x := v10) 0 rfl dX9_border_56 ?_
      obtain ⟨v28, e29, hf⟩ := ob1 hf
      refine rt_gr (pc := 57) fd_X9_140 dX9_border_57 e29 ?_
      obtain ⟨v30, e31, hf⟩ := ob1 hf
      refine rt_gr (pc := 60) fd_X9_95 dX9_border_60 e31 ?_
      refine rt_iload_n (pc := 63) (k0 := 2) (x := a2) 3 rfl dX9_border_63 ?_
      refine rt_iconst (pc := 64) (n := 1) (v := (1 : Int32)) (by decide) dX9_border_64 ?_
      refine rt_isub (pc := 65) (x := a2) (z := (1 : Int32)) dX9_border_65 ?_
      obtain ⟨v34, w33, e32, hf⟩ := ob2_of hf
      have g35 := sJx4a65c_get_915e3 d (by omega) e32
      refine rt_callV (pc := 66) (As := [.int (a2 - (1 : Int32))]) (st := [va_rf a0]) me_Jx4a65c_get_915e3 mi_Jx4a65c_get_915e3 wl_X9_143 dX9_border_66 rfl (by simp [rt_cat, cat_i, cat_l]) rfl g35.1 g35.2 ?_
      by_cases c36 : hp_cls w33 v34 3 = false
      · rw [if_pos c36] at hf; cases hf
      rw [if_neg c36] at hf
      refine rt_cast (pc := 69) (x := v34) (show vwCl[3]? = some (RX2, TX2, 2) from rfl) wc_X9_147 dX9_border_69 ((Bool.not_eq_false _).mp c36) ?_
      obtain ⟨v37, e38, hf⟩ := ob1 hf
      refine rt_gl (pc := 72) fd_X9_149 dX9_border_72 e38 ?_
      obtain ⟨w39, e40, hf⟩ := ob1 hf
      refine rt_putf (pc := 75) (x := a0) fw_X9_91 (Or.inl rfl) (pf_l _).1 (pf_l _).2 dX9_border_75 e40 ?_
      refine rt_iconst (pc := 78) (n := 1) (v := (1 : Int32)) (by decide) dX9_border_78 ?_
      cases hf
      exact rt_ret (pc := 79) dX9_border_79 rfl
    rw [if_neg c13] at hf
    refine rt_icmp_ge_n (pc := 29) (x := a2) (z := (1 : Int32)) (tgt := 34) (by decide) dX9_border_29 c13 ?_
    exact rt_locals (rt_sub [] rfl) (rX9_border_32 hd hf)
  rw [if_neg c3] at hf
  refine rt_if_eq_n (pc := 4) (x := v1) (tgt := 10) (by decide) dX9_border_4 c3 ?_
  refine rt_bipush (pc := 7) (n := -4) (v := (-4 : Int32)) (by decide) dX9_border_7 ?_
  cases hf
  exact rt_ret (pc := 9) dX9_border_9 rfl
noncomputable def fX9_border (E : ah_E) (a0 : Option Nat) (a1 : Int32) (a2 : Int32) (h : ah_H) : Option (Int32 × ah_H) := if hp_rcv h a0 10 = false then none else bX9_border_0 E a0 a1 a2 h
set_option maxRecDepth 20000 in
set_option maxHeartbeats 4000000 in
theorem sX9_border {X : ah_X} (d : Nat) (hd : 95 ≤ d) {a0 : Option Nat} {a1 : Int32} {a2 : Int32} {h : ah_H} {r : Int32} {h2 : ah_H} (hf : fX9_border X.2.2.2 a0 a1 a2 h = some (r, h2)) : hp_rcv h a0 10 = true ∧ Rn X yX9_border cX9_border 4 (some .int) d [va_rf a0, .int a1, .int a2] h (some (.int r)) h2 := by
  unfold fX9_border at hf
  by_cases c0 : hp_rcv h a0 10 = false
  · rw [if_pos c0] at hf; cases hf
  rw [if_neg c0] at hf
  refine ⟨(Bool.not_eq_false _).mp c0, ?_⟩
  obtain ⟨d, rfl⟩ : ∃ k, d = k + 1 := ⟨d - 1, by omega⟩
  exact Rn.of2 me_X9_border (by simp [lg_sl, rt_cat, cat_i, cat_l]) (ok_i _) (l := [(0, va_rf a0), (1, .int a1), (2, .int a2)]) (by simp [lv_args, rt_cat, cat_i, cat_l]) (rX9_border_0 (by omega) hf)
noncomputable def bX9_byteAt_15 (E : ah_E) (h : ah_H) : Option (Int32 × ah_H) :=
  some ((-1 : Int32), h)
set_option maxRecDepth 20000 in
set_option maxHeartbeats 4000000 in
theorem rX9_byteAt_15 {X : ah_X} {d : Nat}  {h : ah_H} {r : Int32} {h2 : ah_H} (hf : bX9_byteAt_15 X.2.2.2  h = some (r, h2)) : Rt X yX9_byteAt cX9_byteAt 2 d 15 [] [] h (some (.int r)) h2 := by
  unfold bX9_byteAt_15 at hf
  refine rt_iconst (pc := 15) (n := -1) (v := (-1 : Int32)) (by decide) dX9_byteAt_15 ?_
  cases hf
  exact rt_ret (pc := 16) dX9_byteAt_16 rfl
noncomputable def bX9_byteAt_0 (E : ah_E) (a0 : Option Nat) (a1 : Int32) (h : ah_H) : Option (Int32 × ah_H) :=
  if a1 < 0 then
    bX9_byteAt_15 E  h
  else
  (hp_gr h a0 10 0).bind fun v2 =>
  (hp_gi h v2 8 1).bind fun v4 =>
  if a1 < v4 then
    (hp_gr h a0 10 0).bind fun v7 =>
    (hp_gr h v7 8 0).bind fun v9 =>
    (hp_ldb h v9 a1).bind fun v11 =>
    some ((v11 &&& (255 : Int32)), h)
  else
  bX9_byteAt_15 E  h
set_option maxRecDepth 20000 in
set_option maxHeartbeats 4000000 in
theorem rX9_byteAt_0 {X : ah_X} {d : Nat} {a0 : Option Nat} {a1 : Int32} {h : ah_H} {r : Int32} {h2 : ah_H} (hf : bX9_byteAt_0 X.2.2.2 a0 a1 h = some (r, h2)) : Rt X yX9_byteAt cX9_byteAt 2 d 0 [(0, va_rf a0), (1, .int a1)] [] h (some (.int r)) h2 := by
  unfold bX9_byteAt_0 at hf
  refine rt_iload_n (pc := 0) (k0 := 1) (x := a1) 1 rfl dX9_byteAt_0 ?_
  by_cases c1 : a1 < 0
  · rw [if_pos c1] at hf
    refine rt_if_lt_p (pc := 1) (x := a1) (tgt := 15) (by decide) dX9_byteAt_1 c1 ?_
    exact rt_locals (rt_sub [] rfl) (rX9_byteAt_15 hf)
  rw [if_neg c1] at hf
  refine rt_if_lt_n (pc := 1) (x := a1) (tgt := 15) (by decide) dX9_byteAt_1 c1 ?_
  refine rt_iload_n (pc := 4) (k0 := 1) (x := a1) 1 rfl dX9_byteAt_4 ?_
  refine rt_aload_n (pc := 5) (k0 := 0) (x := a0) 0 rfl dX9_byteAt_5 ?_
  obtain ⟨v2, e3, hf⟩ := ob1 hf
  refine rt_gr (pc := 6) fd_X9_10 dX9_byteAt_6 e3 ?_
  obtain ⟨v4, e5, hf⟩ := ob1 hf
  refine rt_gi (pc := 9) fd_X9_47 dX9_byteAt_9 e5 ?_
  by_cases c6 : a1 < v4
  · rw [if_pos c6] at hf
    refine rt_icmp_lt_p (pc := 12) (x := a1) (z := v4) (tgt := 17) (by decide) dX9_byteAt_12 c6 ?_
    refine rt_aload_n (pc := 17) (k0 := 0) (x := a0) 0 rfl dX9_byteAt_17 ?_
    obtain ⟨v7, e8, hf⟩ := ob1 hf
    refine rt_gr (pc := 18) fd_X9_10 dX9_byteAt_18 e8 ?_
    obtain ⟨v9, e10, hf⟩ := ob1 hf
    refine rt_gr (pc := 21) fd_X9_55 dX9_byteAt_21 e10 ?_
    refine rt_iload_n (pc := 24) (k0 := 1) (x := a1) 1 rfl dX9_byteAt_24 ?_
    obtain ⟨v11, e12, hf⟩ := ob1 hf
    refine rt_bald (pc := 25) dX9_byteAt_25 e12 ?_
    refine rt_sipush (pc := 26) (n := 255) (v := (255 : Int32)) (by decide) dX9_byteAt_26 ?_
    refine rt_iand (pc := 29) (x := v11) (z := (255 : Int32)) dX9_byteAt_29 ?_
    cases hf
    exact rt_ret (pc := 30) dX9_byteAt_30 rfl
  rw [if_neg c6] at hf
  refine rt_icmp_lt_n (pc := 12) (x := a1) (z := v4) (tgt := 17) (by decide) dX9_byteAt_12 c6 ?_
  exact rt_locals (rt_sub [] rfl) (rX9_byteAt_15 hf)
noncomputable def fX9_byteAt (E : ah_E) (a0 : Option Nat) (a1 : Int32) (h : ah_H) : Option (Int32 × ah_H) := if hp_rcv h a0 10 = false then none else bX9_byteAt_0 E a0 a1 h
set_option maxRecDepth 20000 in
set_option maxHeartbeats 4000000 in
theorem sX9_byteAt {X : ah_X} (d : Nat) (hd : 0 ≤ d) {a0 : Option Nat} {a1 : Int32} {h : ah_H} {r : Int32} {h2 : ah_H} (hf : fX9_byteAt X.2.2.2 a0 a1 h = some (r, h2)) : hp_rcv h a0 10 = true ∧ Rn X yX9_byteAt cX9_byteAt 2 (some .int) d [va_rf a0, .int a1] h (some (.int r)) h2 := by
  unfold fX9_byteAt at hf
  by_cases c0 : hp_rcv h a0 10 = false
  · rw [if_pos c0] at hf; cases hf
  rw [if_neg c0] at hf
  refine ⟨(Bool.not_eq_false _).mp c0, ?_⟩
  exact Rn.of2 me_X9_byteAt (by simp [lg_sl, rt_cat, cat_i, cat_l]) (ok_i _) (l := [(0, va_rf a0), (1, .int a1)]) (by simp [lv_args, rt_cat, cat_i, cat_l]) (rX9_byteAt_0 hf)
noncomputable def bX9_count_22 (E : ah_E) (s0 : Int32) (h : ah_H) : Option (Int32 × ah_H) :=
  some (s0, h)
set_option maxRecDepth 20000 in
set_option maxHeartbeats 4000000 in
theorem rX9_count_22 {X : ah_X} {d : Nat} (hd : 0 ≤ d) {s0 : Int32} {h : ah_H} {r : Int32} {h2 : ah_H} (hf : bX9_count_22 X.2.2.2 s0 h = some (r, h2)) : Rt X yX9_count cX9_count 1 (d + 1) 22 [] [.int s0] h (some (.int r)) h2 := by
  unfold bX9_count_22 at hf
  cases hf
  exact rt_ret (pc := 22) dX9_count_22 rfl
noncomputable def bX9_count_0 (E : ah_E) (a0 : Option Nat) (h : ah_H) : Option (Int32 × ah_H) :=
  (hp_gi h a0 10 9).bind fun v1 =>
  if v1 = 0 then
    (hp_gr h a0 10 3).bind fun v4 =>
    (hp_gr h v4 2 0).bind fun v6 =>
    ob2 (fJx4a65c_size_8abf5 E v6 h) fun v10 w9 =>
    bX9_count_22 E v10 w9
  else
  bX9_count_22 E (-4 : Int32) h
set_option maxRecDepth 20000 in
set_option maxHeartbeats 4000000 in
theorem rX9_count_0 {X : ah_X} {d : Nat} (hd : 0 ≤ d) {a0 : Option Nat} {h : ah_H} {r : Int32} {h2 : ah_H} (hf : bX9_count_0 X.2.2.2 a0 h = some (r, h2)) : Rt X yX9_count cX9_count 1 (d + 1) 0 [(0, va_rf a0)] [] h (some (.int r)) h2 := by
  unfold bX9_count_0 at hf
  refine rt_aload_n (pc := 0) (k0 := 0) (x := a0) 0 rfl dX9_count_0 ?_
  obtain ⟨v1, e2, hf⟩ := ob1 hf
  refine rt_gi (pc := 1) fd_X9_71 dX9_count_1 e2 ?_
  by_cases c3 : v1 = 0
  · rw [if_pos c3] at hf
    refine rt_if_eq_p (pc := 4) (x := v1) (tgt := 12) (by decide) dX9_count_4 c3 ?_
    refine rt_aload_n (pc := 12) (k0 := 0) (x := a0) 0 rfl dX9_count_12 ?_
    obtain ⟨v4, e5, hf⟩ := ob1 hf
    refine rt_gr (pc := 13) fd_X9_33 dX9_count_13 e5 ?_
    obtain ⟨v6, e7, hf⟩ := ob1 hf
    refine rt_gr (pc := 16) fd_X9_95 dX9_count_16 e7 ?_
    obtain ⟨v10, w9, e8, hf⟩ := ob2_of hf
    have g11 := sJx4a65c_size_8abf5 d (by omega) e8
    refine rt_callV (pc := 19) (As := []) (st := []) me_Jx4a65c_size_8abf5 mi_Jx4a65c_size_8abf5 wl_X9_98 dX9_count_19 rfl (by decide) rfl g11.1 g11.2 ?_
    exact rt_locals (rt_sub [] rfl) (rX9_count_22 hd hf)
  rw [if_neg c3] at hf
  refine rt_if_eq_n (pc := 4) (x := v1) (tgt := 12) (by decide) dX9_count_4 c3 ?_
  refine rt_bipush (pc := 7) (n := -4) (v := (-4 : Int32)) (by decide) dX9_count_7 ?_
  refine rt_goto (pc := 9) (tgt := 22) (by decide) dX9_count_9 ?_
  exact rt_locals (rt_sub [] rfl) (rX9_count_22 hd hf)
noncomputable def fX9_count (E : ah_E) (a0 : Option Nat) (h : ah_H) : Option (Int32 × ah_H) := if hp_rcv h a0 10 = false then none else bX9_count_0 E a0 h
set_option maxRecDepth 20000 in
set_option maxHeartbeats 4000000 in
theorem sX9_count {X : ah_X} (d : Nat) (hd : 1 ≤ d) {a0 : Option Nat} {h : ah_H} {r : Int32} {h2 : ah_H} (hf : fX9_count X.2.2.2 a0 h = some (r, h2)) : hp_rcv h a0 10 = true ∧ Rn X yX9_count cX9_count 1 (some .int) d [va_rf a0] h (some (.int r)) h2 := by
  unfold fX9_count at hf
  by_cases c0 : hp_rcv h a0 10 = false
  · rw [if_pos c0] at hf; cases hf
  rw [if_neg c0] at hf
  refine ⟨(Bool.not_eq_false _).mp c0, ?_⟩
  obtain ⟨d, rfl⟩ : ∃ k, d = k + 1 := ⟨d - 1, by omega⟩
  exact Rn.of2 me_X9_count (by simp [lg_sl, rt_cat, cat_i, cat_l]) (ok_i _) (l := [(0, va_rf a0)]) (by simp [lv_args, rt_cat, cat_i, cat_l]) (rX9_count_0 (by omega) hf)
noncomputable def bX9_startAnew_0 (E : ah_E) (a0 : Option Nat) (h : ah_H) : Option ah_H :=
  (hp_gr h a0 10 2).bind fun v1 =>
  (hp_new h 6 nf_6 5).bind fun w3 =>
  (hp_new w3 2 nf_2 1).bind fun w5 =>
  (fX1_init E (some w3.1) w5).bind fun w8 =>
  (fX5_init E (some h.1) (-9223372036854775808 : Int64) (some w3.1) w8).bind fun w11 =>
  (hp_pv w11 v1 9 0 (va_rf (some h.1))).bind fun w13 =>
  (hp_gr w13 a0 10 3).bind fun v15 =>
  (hp_gr w13 v15 2 0).bind fun v17 =>
  (fJx4a65c_clear_da8c8 E v17 w13).bind fun w20 =>
  (hp_gr w20 a0 10 4).bind fun v22 =>
  (fJx4a65c_clear_da8c8 E v22 w20).bind fun w25 =>
  (hp_pv w25 a0 10 5 (.int (0 : Int32))).bind fun w27 =>
  (hp_pv w27 a0 10 6 (.int (0 : Int32))).bind fun w29 =>
  (hp_pv w29 a0 10 7 (.int (0 : Int32))).bind fun w31 =>
  (hp_pv w31 a0 10 9 (.int (0 : Int32))).bind fun w33 =>
  some w33
set_option maxRecDepth 20000 in
set_option maxHeartbeats 4000000 in
theorem rX9_startAnew_0 {X : ah_X} {d : Nat} (hd : 4 ≤ d) {a0 : Option Nat} {h : ah_H} {h2 : ah_H} (hf : bX9_startAnew_0 X.2.2.2 a0 h = some h2) : Rt X yX9_startAnew cX9_startAnew 1 (d + 1) 0 [(0, va_rf a0)] [] h none h2 := by
  unfold bX9_startAnew_0 at hf
  refine rt_aload_n (pc := 0) (k0 := 0) (x := a0) 0 rfl dX9_startAnew_0 ?_
  obtain ⟨v1, e2, hf⟩ := ob1 hf
  refine rt_gr (pc := 1) fd_X9_26 dX9_startAnew_1 e2 ?_
  obtain ⟨w3, e4, hf⟩ := ob1 hf
  refine rt_newB (pc := 4) nw_X9_126 dX9_startAnew_4 e4 ?_
  refine rt_dup (pc := 7) (rt_cat _) dX9_startAnew_7 ?_
  refine rt_ldc2 (pc := 8) wj_X9_286 dX9_startAnew_8 ?_
  obtain ⟨w5, e6, hf⟩ := ob1 hf
  refine rt_newB (pc := 11) nw_X9_30 dX9_startAnew_11 e6 ?_
  refine rt_dup (pc := 14) (rt_cat _) dX9_startAnew_14 ?_
  obtain ⟨w8, e7, hf⟩ := ob1 hf
  have g9 := sX1_init d (by omega) e7
  refine rt_callIN (pc := 15) (As := []) (st := [va_rf (some w3.1), .long (-9223372036854775808 : Int64), va_rf (some h.1), va_rf (some h.1), va_rf v1]) (ci := 2) me_X1_init mI_X1_init wln_X9_32 dX9_startAnew_15 rfl (by simp [rt_cat, cat_i, cat_l]) rfl g9.1 g9.2 ?_
  obtain ⟨w11, e10, hf⟩ := ob1 hf
  have g12 := sX5_init d (by omega) e10
  refine rt_callI (pc := 18) (As := [.long (-9223372036854775808 : Int64), va_rf (some w3.1)]) (st := [va_rf (some h.1), va_rf v1]) (ci := 6) me_X5_init mI_X5_init wl_X9_288 dX9_startAnew_18 rfl (by simp [rt_cat, cat_i, cat_l]) rfl g12.1 g12.2 ?_
  obtain ⟨w13, e14, hf⟩ := ob1 hf
  refine rt_putf (pc := 21) (x := v1) fw_X9_107 (Or.inl rfl) (pf_o _ _).1 (pf_o _ _).2 dX9_startAnew_21 e14 ?_
  refine rt_aload_n (pc := 24) (k0 := 0) (x := a0) 0 rfl dX9_startAnew_24 ?_
  obtain ⟨v15, e16, hf⟩ := ob1 hf
  refine rt_gr (pc := 25) fd_X9_33 dX9_startAnew_25 e16 ?_
  obtain ⟨v17, e18, hf⟩ := ob1 hf
  refine rt_gr (pc := 28) fd_X9_95 dX9_startAnew_28 e18 ?_
  obtain ⟨w20, e19, hf⟩ := ob1 hf
  have g21 := sJx4a65c_clear_da8c8 d (by omega) e19
  refine rt_callV (pc := 31) (As := []) (st := []) me_Jx4a65c_clear_da8c8 mi_Jx4a65c_clear_da8c8 wl_X9_291 dX9_startAnew_31 rfl (by decide) rfl g21.1 g21.2 ?_
  refine rt_aload_n (pc := 34) (k0 := 0) (x := a0) 0 rfl dX9_startAnew_34 ?_
  obtain ⟨v22, e23, hf⟩ := ob1 hf
  refine rt_gr (pc := 35) fd_X9_40 dX9_startAnew_35 e23 ?_
  obtain ⟨w25, e24, hf⟩ := ob1 hf
  have g26 := sJx4a65c_clear_da8c8 d (by omega) e24
  refine rt_callV (pc := 38) (As := []) (st := []) me_Jx4a65c_clear_da8c8 mi_Jx4a65c_clear_da8c8 wl_X9_291 dX9_startAnew_38 rfl (by decide) rfl g26.1 g26.2 ?_
  refine rt_aload_n (pc := 41) (k0 := 0) (x := a0) 0 rfl dX9_startAnew_41 ?_
  refine rt_iconst (pc := 42) (n := 0) (v := (0 : Int32)) (by decide) dX9_startAnew_42 ?_
  obtain ⟨w27, e28, hf⟩ := ob1 hf
  refine rt_putf (pc := 43) (x := a0) fw_X9_178 (Or.inl rfl) (pf_i _).1 (pf_i _).2 dX9_startAnew_43 e28 ?_
  refine rt_aload_n (pc := 46) (k0 := 0) (x := a0) 0 rfl dX9_startAnew_46 ?_
  refine rt_iconst (pc := 47) (n := 0) (v := (0 : Int32)) (by decide) dX9_startAnew_47 ?_
  obtain ⟨w29, e30, hf⟩ := ob1 hf
  refine rt_putf (pc := 48) (x := a0) fw_X9_236 (Or.inl rfl) (pf_i _).1 (pf_i _).2 dX9_startAnew_48 e30 ?_
  refine rt_aload_n (pc := 51) (k0 := 0) (x := a0) 0 rfl dX9_startAnew_51 ?_
  refine rt_iconst (pc := 52) (n := 0) (v := (0 : Int32)) (by decide) dX9_startAnew_52 ?_
  obtain ⟨w31, e32, hf⟩ := ob1 hf
  refine rt_putf (pc := 53) (x := a0) fw_X9_219 (Or.inl rfl) (pf_i _).1 (pf_i _).2 dX9_startAnew_53 e32 ?_
  refine rt_aload_n (pc := 56) (k0 := 0) (x := a0) 0 rfl dX9_startAnew_56 ?_
  refine rt_iconst (pc := 57) (n := 0) (v := (0 : Int32)) (by decide) dX9_startAnew_57 ?_
  obtain ⟨w33, e34, hf⟩ := ob1 hf
  refine rt_putf (pc := 58) (x := a0) fw_X9_71 (Or.inl rfl) (by decide) (by decide) dX9_startAnew_58 e34 ?_
  cases hf
  exact rt_ret (pc := 61) dX9_startAnew_61 rfl
noncomputable def fX9_startAnew (E : ah_E) (a0 : Option Nat) (h : ah_H) : Option ah_H := if hp_rcv h a0 10 = false then none else bX9_startAnew_0 E a0 h
set_option maxRecDepth 20000 in
set_option maxHeartbeats 4000000 in
theorem sX9_startAnew {X : ah_X} (d : Nat) (hd : 5 ≤ d) {a0 : Option Nat} {h : ah_H} {h2 : ah_H} (hf : fX9_startAnew X.2.2.2 a0 h = some h2) : hp_rcv h a0 10 = true ∧ Rn X yX9_startAnew cX9_startAnew 1 none d [va_rf a0] h none h2 := by
  unfold fX9_startAnew at hf
  by_cases c0 : hp_rcv h a0 10 = false
  · rw [if_pos c0] at hf; cases hf
  rw [if_neg c0] at hf
  refine ⟨(Bool.not_eq_false _).mp c0, ?_⟩
  obtain ⟨d, rfl⟩ : ∃ k, d = k + 1 := ⟨d - 1, by omega⟩
  exact Rn.of2 me_X9_startAnew (by simp [lg_sl, rt_cat, cat_i, cat_l]) rfl (l := [(0, va_rf a0)]) (by simp [lv_args, rt_cat, cat_i, cat_l]) (rX9_startAnew_0 (by omega) hf)
noncomputable def bX9_goDown_0 (E : ah_E) (a0 : Option Nat) (h : ah_H) : Option ah_H :=
  (fX9_startAnew E a0 h).bind fun w2 =>
  (hp_pv w2 a0 10 9 (.int (1 : Int32))).bind fun w4 =>
  some w4
set_option maxRecDepth 20000 in
set_option maxHeartbeats 4000000 in
theorem rX9_goDown_0 {X : ah_X} {d : Nat} (hd : 5 ≤ d) {a0 : Option Nat} {h : ah_H} {h2 : ah_H} (hf : bX9_goDown_0 X.2.2.2 a0 h = some h2) : Rt X yX9_goDown cX9_goDown 1 (d + 1) 0 [(0, va_rf a0)] [] h none h2 := by
  unfold bX9_goDown_0 at hf
  refine rt_aload_n (pc := 0) (k0 := 0) (x := a0) 0 rfl dX9_goDown_0 ?_
  obtain ⟨w2, e1, hf⟩ := ob1 hf
  have g3 := sX9_startAnew d (by omega) e1
  refine rt_callV (pc := 1) (As := []) (st := []) me_X9_startAnew mi_X9_startAnew wl_X9_44 dX9_goDown_1 rfl (by decide) rfl g3.1 g3.2 ?_
  refine rt_aload_n (pc := 4) (k0 := 0) (x := a0) 0 rfl dX9_goDown_4 ?_
  refine rt_iconst (pc := 5) (n := 1) (v := (1 : Int32)) (by decide) dX9_goDown_5 ?_
  obtain ⟨w4, e5, hf⟩ := ob1 hf
  refine rt_putf (pc := 6) (x := a0) fw_X9_71 (Or.inl rfl) (by decide) (by decide) dX9_goDown_6 e5 ?_
  cases hf
  exact rt_ret (pc := 9) dX9_goDown_9 rfl
noncomputable def fX9_goDown (E : ah_E) (a0 : Option Nat) (h : ah_H) : Option ah_H := if hp_rcv h a0 10 = false then none else bX9_goDown_0 E a0 h
set_option maxRecDepth 20000 in
set_option maxHeartbeats 4000000 in
theorem sX9_goDown {X : ah_X} (d : Nat) (hd : 6 ≤ d) {a0 : Option Nat} {h : ah_H} {h2 : ah_H} (hf : fX9_goDown X.2.2.2 a0 h = some h2) : hp_rcv h a0 10 = true ∧ Rn X yX9_goDown cX9_goDown 1 none d [va_rf a0] h none h2 := by
  unfold fX9_goDown at hf
  by_cases c0 : hp_rcv h a0 10 = false
  · rw [if_pos c0] at hf; cases hf
  rw [if_neg c0] at hf
  refine ⟨(Bool.not_eq_false _).mp c0, ?_⟩
  obtain ⟨d, rfl⟩ : ∃ k, d = k + 1 := ⟨d - 1, by omega⟩
  exact Rn.of2 me_X9_goDown (by simp [lg_sl, rt_cat, cat_i, cat_l]) rfl (l := [(0, va_rf a0)]) (by simp [lv_args, rt_cat, cat_i, cat_l]) (rX9_goDown_0 (by omega) hf)
noncomputable def bX9_crash_0 (E : ah_E) (a0 : Option Nat) (h : ah_H) : Option (Int32 × ah_H) :=
  (hp_gi h a0 10 9).bind fun v1 =>
  if v1 = 0 then
    (fX9_goDown E a0 h).bind fun w5 =>
    some ((0 : Int32), w5)
  else
  some ((-4 : Int32), h)
set_option maxRecDepth 20000 in
set_option maxHeartbeats 4000000 in
theorem rX9_crash_0 {X : ah_X} {d : Nat} (hd : 6 ≤ d) {a0 : Option Nat} {h : ah_H} {r : Int32} {h2 : ah_H} (hf : bX9_crash_0 X.2.2.2 a0 h = some (r, h2)) : Rt X yX9_crash cX9_crash 1 (d + 1) 0 [(0, va_rf a0)] [] h (some (.int r)) h2 := by
  unfold bX9_crash_0 at hf
  refine rt_aload_n (pc := 0) (k0 := 0) (x := a0) 0 rfl dX9_crash_0 ?_
  obtain ⟨v1, e2, hf⟩ := ob1 hf
  refine rt_gi (pc := 1) fd_X9_71 dX9_crash_1 e2 ?_
  by_cases c3 : v1 = 0
  · rw [if_pos c3] at hf
    refine rt_if_eq_p (pc := 4) (x := v1) (tgt := 10) (by decide) dX9_crash_4 c3 ?_
    refine rt_aload_n (pc := 10) (k0 := 0) (x := a0) 0 rfl dX9_crash_10 ?_
    obtain ⟨w5, e4, hf⟩ := ob1 hf
    have g6 := sX9_goDown d (by omega) e4
    refine rt_callV (pc := 11) (As := []) (st := []) me_X9_goDown mi_X9_goDown wl_X9_205 dX9_crash_11 rfl (by decide) rfl g6.1 g6.2 ?_
    refine rt_iconst (pc := 14) (n := 0) (v := (0 : Int32)) (by decide) dX9_crash_14 ?_
    cases hf
    exact rt_ret (pc := 15) dX9_crash_15 rfl
  rw [if_neg c3] at hf
  refine rt_if_eq_n (pc := 4) (x := v1) (tgt := 10) (by decide) dX9_crash_4 c3 ?_
  refine rt_bipush (pc := 7) (n := -4) (v := (-4 : Int32)) (by decide) dX9_crash_7 ?_
  cases hf
  exact rt_ret (pc := 9) dX9_crash_9 rfl
noncomputable def fX9_crash (E : ah_E) (a0 : Option Nat) (h : ah_H) : Option (Int32 × ah_H) := if hp_rcv h a0 10 = false then none else bX9_crash_0 E a0 h
set_option maxRecDepth 20000 in
set_option maxHeartbeats 4000000 in
theorem sX9_crash {X : ah_X} (d : Nat) (hd : 7 ≤ d) {a0 : Option Nat} {h : ah_H} {r : Int32} {h2 : ah_H} (hf : fX9_crash X.2.2.2 a0 h = some (r, h2)) : hp_rcv h a0 10 = true ∧ Rn X yX9_crash cX9_crash 1 (some .int) d [va_rf a0] h (some (.int r)) h2 := by
  unfold fX9_crash at hf
  by_cases c0 : hp_rcv h a0 10 = false
  · rw [if_pos c0] at hf; cases hf
  rw [if_neg c0] at hf
  refine ⟨(Bool.not_eq_false _).mp c0, ?_⟩
  obtain ⟨d, rfl⟩ : ∃ k, d = k + 1 := ⟨d - 1, by omega⟩
  exact Rn.of2 me_X9_crash (by simp [lg_sl, rt_cat, cat_i, cat_l]) (ok_i _) (l := [(0, va_rf a0)]) (by simp [lv_args, rt_cat, cat_i, cat_l]) (rX9_crash_0 (by omega) hf)
noncomputable def bX9_cut_15 (E : ah_E) (h : ah_H) : Option (Int32 × ah_H) :=
  some ((-2 : Int32), h)
set_option maxRecDepth 20000 in
set_option maxHeartbeats 4000000 in
theorem rX9_cut_15 {X : ah_X} {d : Nat}  {h : ah_H} {r : Int32} {h2 : ah_H} (hf : bX9_cut_15 X.2.2.2  h = some (r, h2)) : Rt X yX9_cut cX9_cut 2 d 15 [] [] h (some (.int r)) h2 := by
  unfold bX9_cut_15 at hf
  refine rt_bipush (pc := 15) (n := -2) (v := (-2 : Int32)) (by decide) dX9_cut_15 ?_
  cases hf
  exact rt_ret (pc := 17) dX9_cut_17 rfl
noncomputable def bX9_cut_0 (E : ah_E) (a0 : Option Nat) (a1 : Int32) (h : ah_H) : Option (Int32 × ah_H) :=
  if a1 < 0 then
    bX9_cut_15 E  h
  else
  (hp_gr h a0 10 0).bind fun v2 =>
  (hp_gi h v2 8 1).bind fun v4 =>
  if a1 ≤ v4 then
    (hp_gr h a0 10 0).bind fun v7 =>
    (hp_pv h v7 8 1 (.int a1)).bind fun w9 =>
    some (a1, w9)
  else
  bX9_cut_15 E  h
set_option maxRecDepth 20000 in
set_option maxHeartbeats 4000000 in
theorem rX9_cut_0 {X : ah_X} {d : Nat} {a0 : Option Nat} {a1 : Int32} {h : ah_H} {r : Int32} {h2 : ah_H} (hf : bX9_cut_0 X.2.2.2 a0 a1 h = some (r, h2)) : Rt X yX9_cut cX9_cut 2 d 0 [(0, va_rf a0), (1, .int a1)] [] h (some (.int r)) h2 := by
  unfold bX9_cut_0 at hf
  refine rt_iload_n (pc := 0) (k0 := 1) (x := a1) 1 rfl dX9_cut_0 ?_
  by_cases c1 : a1 < 0
  · rw [if_pos c1] at hf
    refine rt_if_lt_p (pc := 1) (x := a1) (tgt := 15) (by decide) dX9_cut_1 c1 ?_
    exact rt_locals (rt_sub [] rfl) (rX9_cut_15 hf)
  rw [if_neg c1] at hf
  refine rt_if_lt_n (pc := 1) (x := a1) (tgt := 15) (by decide) dX9_cut_1 c1 ?_
  refine rt_iload_n (pc := 4) (k0 := 1) (x := a1) 1 rfl dX9_cut_4 ?_
  refine rt_aload_n (pc := 5) (k0 := 0) (x := a0) 0 rfl dX9_cut_5 ?_
  obtain ⟨v2, e3, hf⟩ := ob1 hf
  refine rt_gr (pc := 6) fd_X9_10 dX9_cut_6 e3 ?_
  obtain ⟨v4, e5, hf⟩ := ob1 hf
  refine rt_gi (pc := 9) fd_X9_47 dX9_cut_9 e5 ?_
  by_cases c6 : a1 ≤ v4
  · rw [if_pos c6] at hf
    refine rt_icmp_le_p (pc := 12) (x := a1) (z := v4) (tgt := 18) (by decide) dX9_cut_12 c6 ?_
    refine rt_aload_n (pc := 18) (k0 := 0) (x := a0) 0 rfl dX9_cut_18 ?_
    obtain ⟨v7, e8, hf⟩ := ob1 hf
    refine rt_gr (pc := 19) fd_X9_10 dX9_cut_19 e8 ?_
    refine rt_iload_n (pc := 22) (k0 := 1) (x := a1) 1 rfl dX9_cut_22 ?_
    obtain ⟨w9, e10, hf⟩ := ob1 hf
    refine rt_putf (pc := 23) (x := v7) fw_X9_47 (Or.inl rfl) (pf_i _).1 (pf_i _).2 dX9_cut_23 e10 ?_
    refine rt_iload_n (pc := 26) (k0 := 1) (x := a1) 1 rfl dX9_cut_26 ?_
    cases hf
    exact rt_ret (pc := 27) dX9_cut_27 rfl
  rw [if_neg c6] at hf
  refine rt_icmp_le_n (pc := 12) (x := a1) (z := v4) (tgt := 18) (by decide) dX9_cut_12 c6 ?_
  exact rt_locals (rt_sub [] rfl) (rX9_cut_15 hf)
noncomputable def fX9_cut (E : ah_E) (a0 : Option Nat) (a1 : Int32) (h : ah_H) : Option (Int32 × ah_H) := if hp_rcv h a0 10 = false then none else bX9_cut_0 E a0 a1 h
set_option maxRecDepth 20000 in
set_option maxHeartbeats 4000000 in
theorem sX9_cut {X : ah_X} (d : Nat) (hd : 0 ≤ d) {a0 : Option Nat} {a1 : Int32} {h : ah_H} {r : Int32} {h2 : ah_H} (hf : fX9_cut X.2.2.2 a0 a1 h = some (r, h2)) : hp_rcv h a0 10 = true ∧ Rn X yX9_cut cX9_cut 2 (some .int) d [va_rf a0, .int a1] h (some (.int r)) h2 := by
  unfold fX9_cut at hf
  by_cases c0 : hp_rcv h a0 10 = false
  · rw [if_pos c0] at hf; cases hf
  rw [if_neg c0] at hf
  refine ⟨(Bool.not_eq_false _).mp c0, ?_⟩
  exact Rn.of2 me_X9_cut (by simp [lg_sl, rt_cat, cat_i, cat_l]) (ok_i _) (l := [(0, va_rf a0), (1, .int a1)]) (by simp [lv_args, rt_cat, cat_i, cat_l]) (rX9_cut_0 hf)
noncomputable def bX9_disk_18 (E : ah_E) (h : ah_H) : Option (Int32 × ah_H) :=
  some ((-1 : Int32), h)
set_option maxRecDepth 20000 in
set_option maxHeartbeats 4000000 in
theorem rX9_disk_18 {X : ah_X} {d : Nat} (hd : 48 ≤ d)  {h : ah_H} {r : Int32} {h2 : ah_H} (hf : bX9_disk_18 X.2.2.2  h = some (r, h2)) : Rt X yX9_disk cX9_disk 4 (d + 1) 18 [] [] h (some (.int r)) h2 := by
  unfold bX9_disk_18 at hf
  refine rt_iconst (pc := 18) (n := -1) (v := (-1 : Int32)) (by decide) dX9_disk_18 ?_
  cases hf
  exact rt_ret (pc := 19) dX9_disk_19 rfl
noncomputable def bX9_disk_0 (E : ah_E) (a0 : Option Nat) (a1 : Int32) (a2 : Int32) (h : ah_H) : Option (Int32 × ah_H) :=
  if a1 < 0 then
    bX9_disk_18 E  h
  else
  if (1 : Int32) < a1 then
    bX9_disk_18 E  h
  else
  if a2 < 0 then
    bX9_disk_18 E  h
  else
  if a2 ≤ (3 : Int32) then
    (hp_gr h a0 10 1).bind fun v5 =>
    (hp_gr h v5 1 0).bind fun v7 =>
    (hp_ldq h v7 a1).bind fun v9 =>
    if v9 = none then
      some ((0 : Int32), h)
    else
    if a2 = 0 then
      (hp_gi h v9 4 0).bind fun v13 =>
      some (v13, h)
    else
    if a2 = 1 then
      (hp_gi h v9 4 1).bind fun v16 =>
      some (v16, h)
    else
    if a2 = 2 then
      (hp_gr h v9 4 4).bind fun v19 =>
      ob2 (fJx4a65c_size_8abf5 E v19 h) fun v23 w22 =>
      some (v23, w22)
    else
    (hp_gr h v9 4 2).bind fun v25 =>
    ob2 (fX8_pagesIn E zd v25 (0 : Int32) h) fun v29 w28 =>
    some (v29, w28)
  else
  bX9_disk_18 E  h
set_option maxRecDepth 20000 in
set_option maxHeartbeats 4000000 in
theorem rX9_disk_0 {X : ah_X} {d : Nat} (hd : 48 ≤ d) {a0 : Option Nat} {a1 : Int32} {a2 : Int32} {h : ah_H} {r : Int32} {h2 : ah_H} (hf : bX9_disk_0 X.2.2.2 a0 a1 a2 h = some (r, h2)) : Rt X yX9_disk cX9_disk 4 (d + 1) 0 [(0, va_rf a0), (1, .int a1), (2, .int a2)] [] h (some (.int r)) h2 := by
  unfold bX9_disk_0 at hf
  refine rt_iload_n (pc := 0) (k0 := 1) (x := a1) 1 rfl dX9_disk_0 ?_
  by_cases c1 : a1 < 0
  · rw [if_pos c1] at hf
    refine rt_if_lt_p (pc := 1) (x := a1) (tgt := 18) (by decide) dX9_disk_1 c1 ?_
    exact rt_locals (rt_sub [] rfl) (rX9_disk_18 hd hf)
  rw [if_neg c1] at hf
  refine rt_if_lt_n (pc := 1) (x := a1) (tgt := 18) (by decide) dX9_disk_1 c1 ?_
  refine rt_iload_n (pc := 4) (k0 := 1) (x := a1) 1 rfl dX9_disk_4 ?_
  refine rt_iconst (pc := 5) (n := 1) (v := (1 : Int32)) (by decide) dX9_disk_5 ?_
  by_cases c2 : (1 : Int32) < a1
  · rw [if_pos c2] at hf
    refine rt_icmp_gt_p (pc := 6) (x := a1) (z := (1 : Int32)) (tgt := 18) (by decide) dX9_disk_6 c2 ?_
    exact rt_locals (rt_sub [] rfl) (rX9_disk_18 hd hf)
  rw [if_neg c2] at hf
  refine rt_icmp_gt_n (pc := 6) (x := a1) (z := (1 : Int32)) (tgt := 18) (by decide) dX9_disk_6 c2 ?_
  refine rt_iload_n (pc := 9) (k0 := 2) (x := a2) 2 rfl dX9_disk_9 ?_
  by_cases c3 : a2 < 0
  · rw [if_pos c3] at hf
    refine rt_if_lt_p (pc := 10) (x := a2) (tgt := 18) (by decide) dX9_disk_10 c3 ?_
    exact rt_locals (rt_sub [] rfl) (rX9_disk_18 hd hf)
  rw [if_neg c3] at hf
  refine rt_if_lt_n (pc := 10) (x := a2) (tgt := 18) (by decide) dX9_disk_10 c3 ?_
  refine rt_iload_n (pc := 13) (k0 := 2) (x := a2) 2 rfl dX9_disk_13 ?_
  refine rt_iconst (pc := 14) (n := 3) (v := (3 : Int32)) (by decide) dX9_disk_14 ?_
  by_cases c4 : a2 ≤ (3 : Int32)
  · rw [if_pos c4] at hf
    refine rt_icmp_le_p (pc := 15) (x := a2) (z := (3 : Int32)) (tgt := 20) (by decide) dX9_disk_15 c4 ?_
    refine rt_aload_n (pc := 20) (k0 := 0) (x := a0) 0 rfl dX9_disk_20 ?_
    obtain ⟨v5, e6, hf⟩ := ob1 hf
    refine rt_gr (pc := 21) fd_X9_19 dX9_disk_21 e6 ?_
    obtain ⟨v7, e8, hf⟩ := ob1 hf
    refine rt_gr (pc := 24) fd_X9_222 dX9_disk_24 e8 ?_
    refine rt_iload_n (pc := 27) (k0 := 1) (x := a1) 1 rfl dX9_disk_27 ?_
    obtain ⟨v9, e10, hf⟩ := ob1 hf
    refine rt_aald (pc := 28) dX9_disk_28 e10 ?_
    refine rt_astore_n (pc := 29) (k0 := 3) (x := v9) (l2 := [(3, va_rf v9), (0, va_rf a0), (1, .int a1), (2, .int a2)]) (by decide) (by first | rfl | (simp [rt_cat, cat_i, cat_l]; done) | (simp [rt_cat, cat_i, cat_l]; decide)) dX9_disk_29 ?_
    refine rt_aload_n (pc := 30) (k0 := 3) (x := v9) 0 rfl dX9_disk_30 ?_
    by_cases c11 : v9 = none
    · rw [if_pos c11] at hf
      refine rt_ifnonnull_p (pc := 31) (x := v9) (tgt := 36) (by decide) dX9_disk_31 c11 ?_
      refine rt_iconst (pc := 34) (n := 0) (v := (0 : Int32)) (by decide) dX9_disk_34 ?_
      cases hf
      exact rt_ret (pc := 35) dX9_disk_35 rfl
    rw [if_neg c11] at hf
    refine rt_ifnonnull_n (pc := 31) (x := v9) (tgt := 36) (by decide) dX9_disk_31 c11 ?_
    refine rt_iload_n (pc := 36) (k0 := 2) (x := a2) 3 rfl dX9_disk_36 ?_
    by_cases c12 : a2 = 0
    · rw [if_pos c12] at hf
      refine rt_tableIn (pc := 37) (x := a2) (off := 27) (tgt := 64) dX9_disk_37 (by rw [c12]; decide) (by rw [c12]; decide) (by rw [c12]; rfl) (by decide) ?_
      refine rt_aload_n (pc := 64) (k0 := 3) (x := v9) 0 rfl dX9_disk_64 ?_
      obtain ⟨v13, e14, hf⟩ := ob1 hf
      refine rt_gi (pc := 65) fd_X9_226 dX9_disk_65 e14 ?_
      cases hf
      exact rt_ret (pc := 68) dX9_disk_68 rfl
    rw [if_neg c12] at hf
    by_cases c15 : a2 = 1
    · rw [if_pos c15] at hf
      refine rt_tableIn (pc := 37) (x := a2) (off := 32) (tgt := 69) dX9_disk_37 (by rw [c15]; decide) (by rw [c15]; decide) (by rw [c15]; rfl) (by decide) ?_
      refine rt_aload_n (pc := 69) (k0 := 3) (x := v9) 0 rfl dX9_disk_69 ?_
      obtain ⟨v16, e17, hf⟩ := ob1 hf
      refine rt_gi (pc := 70) fd_X9_229 dX9_disk_70 e17 ?_
      cases hf
      exact rt_ret (pc := 73) dX9_disk_73 rfl
    rw [if_neg c15] at hf
    by_cases c18 : a2 = 2
    · rw [if_pos c18] at hf
      refine rt_tableIn (pc := 37) (x := a2) (off := 37) (tgt := 74) dX9_disk_37 (by rw [c18]; decide) (by rw [c18]; decide) (by rw [c18]; rfl) (by decide) ?_
      refine rt_aload_n (pc := 74) (k0 := 3) (x := v9) 0 rfl dX9_disk_74 ?_
      obtain ⟨v19, e20, hf⟩ := ob1 hf
      refine rt_gr (pc := 75) fd_X9_230 dX9_disk_75 e20 ?_
      obtain ⟨v23, w22, e21, hf⟩ := ob2_of hf
      have g24 := sJx4a65c_size_8abf5 d (by omega) e21
      refine rt_callV (pc := 78) (As := []) (st := []) me_Jx4a65c_size_8abf5 mi_Jx4a65c_size_8abf5 wl_X9_98 dX9_disk_78 rfl (by decide) rfl g24.1 g24.2 ?_
      cases hf
      exact rt_ret (pc := 81) dX9_disk_81 rfl
    rw [if_neg c18] at hf
    refine rt_tableOut (pc := 37) (x := a2) (tgt := 82) (by decide) dX9_disk_37 (by have q0 := lv_neT (a := 0) c12 (by decide); have q1 := lv_neT (a := 1) c15 (by decide); have q2 := lv_neT (a := 2) c18 (by decide); omega) ?_
    refine rt_aload_n (pc := 82) (k0 := 3) (x := v9) 0 rfl dX9_disk_82 ?_
    obtain ⟨v25, e26, hf⟩ := ob1 hf
    refine rt_gr (pc := 83) fd_X9_231 dX9_disk_83 e26 ?_
    refine rt_iconst (pc := 86) (n := 0) (v := (0 : Int32)) (by decide) dX9_disk_86 ?_
    obtain ⟨v29, w28, e27, hf⟩ := ob2_of hf
    have g30 := sX8_pagesIn zd d (by unfold zd; omega) _ _ _ _ _ e27
    refine rt_callSN (pc := 87) (As := [va_rf v25, .int (0 : Int32)]) (st := []) me_X8_pagesIn ms_X8_pagesIn wln_X9_111 dX9_disk_87 rfl (by decide) rfl g30 ?_
    cases hf
    exact rt_ret (pc := 90) dX9_disk_90 rfl
  rw [if_neg c4] at hf
  refine rt_icmp_le_n (pc := 15) (x := a2) (z := (3 : Int32)) (tgt := 20) (by decide) dX9_disk_15 c4 ?_
  exact rt_locals (rt_sub [] rfl) (rX9_disk_18 hd hf)
noncomputable def fX9_disk (E : ah_E) (a0 : Option Nat) (a1 : Int32) (a2 : Int32) (h : ah_H) : Option (Int32 × ah_H) := if hp_rcv h a0 10 = false then none else bX9_disk_0 E a0 a1 a2 h
set_option maxRecDepth 20000 in
set_option maxHeartbeats 4000000 in
theorem sX9_disk {X : ah_X} (d : Nat) (hd : 49 ≤ d) {a0 : Option Nat} {a1 : Int32} {a2 : Int32} {h : ah_H} {r : Int32} {h2 : ah_H} (hf : fX9_disk X.2.2.2 a0 a1 a2 h = some (r, h2)) : hp_rcv h a0 10 = true ∧ Rn X yX9_disk cX9_disk 4 (some .int) d [va_rf a0, .int a1, .int a2] h (some (.int r)) h2 := by
  unfold fX9_disk at hf
  by_cases c0 : hp_rcv h a0 10 = false
  · rw [if_pos c0] at hf; cases hf
  rw [if_neg c0] at hf
  refine ⟨(Bool.not_eq_false _).mp c0, ?_⟩
  obtain ⟨d, rfl⟩ : ∃ k, d = k + 1 := ⟨d - 1, by omega⟩
  exact Rn.of2 me_X9_disk (by simp [lg_sl, rt_cat, cat_i, cat_l]) (ok_i _) (l := [(0, va_rf a0), (1, .int a1), (2, .int a2)]) (by simp [lv_args, rt_cat, cat_i, cat_l]) (rX9_disk_0 (by omega) hf)
noncomputable def bX9_drop_0 (E : ah_E) (a0 : Option Nat) (a1 : Int64) (h : ah_H) : Option (Int32 × ah_H) :=
  ob2 (fX9_writeRefusal E a0 (0 : Int32) h) fun v3 w2 =>
  if v3 = 0 then
    ob2 (fX9_write E a0 (4 : Int32) a1 a1 (0 : Int32) w2) fun v8 w7 =>
    some (v8, w7)
  else
  some (v3, w2)
set_option maxRecDepth 20000 in
set_option maxHeartbeats 4000000 in
theorem rX9_drop_0 {X : ah_X} {d : Nat} (hd : 102 ≤ d) {a0 : Option Nat} {a1 : Int64} {h : ah_H} {r : Int32} {h2 : ah_H} (hf : bX9_drop_0 X.2.2.2 a0 a1 h = some (r, h2)) : Rt X yX9_drop cX9_drop 4 (d + 1) 0 [(0, va_rf a0), (1, .long a1)] [] h (some (.int r)) h2 := by
  unfold bX9_drop_0 at hf
  refine rt_aload_n (pc := 0) (k0 := 0) (x := a0) 0 rfl dX9_drop_0 ?_
  refine rt_iconst (pc := 1) (n := 0) (v := (0 : Int32)) (by decide) dX9_drop_1 ?_
  obtain ⟨v3, w2, e1, hf⟩ := ob2_of hf
  have g4 := sX9_writeRefusal d (by omega) e1
  refine rt_callV (pc := 2) (As := [.int (0 : Int32)]) (st := []) me_X9_writeRefusal mi_X9_writeRefusal wl_X9_59 dX9_drop_2 rfl (by decide) rfl g4.1 g4.2 ?_
  refine rt_istore_n (pc := 5) (k0 := 3) (x := v3) (l2 := [(3, .int v3), (0, va_rf a0), (1, .long a1)]) (by decide) (by first | rfl | (simp [rt_cat, cat_i, cat_l]; done) | (simp [rt_cat, cat_i, cat_l]; decide)) dX9_drop_5 ?_
  refine rt_iload_n (pc := 6) (k0 := 3) (x := v3) 0 rfl dX9_drop_6 ?_
  by_cases c5 : v3 = 0
  · rw [if_pos c5] at hf
    refine rt_if_eq_p (pc := 7) (x := v3) (tgt := 12) (by decide) dX9_drop_7 c5 ?_
    refine rt_aload_n (pc := 12) (k0 := 0) (x := a0) 1 rfl dX9_drop_12 ?_
    refine rt_iconst (pc := 13) (n := 4) (v := (4 : Int32)) (by decide) dX9_drop_13 ?_
    refine rt_lload_n (pc := 14) (k0 := 1) (x := a1) 2 rfl dX9_drop_14 ?_
    refine rt_lload_n (pc := 15) (k0 := 1) (x := a1) 2 rfl dX9_drop_15 ?_
    refine rt_iconst (pc := 16) (n := 0) (v := (0 : Int32)) (by decide) dX9_drop_16 ?_
    obtain ⟨v8, w7, e6, hf⟩ := ob2_of hf
    have g9 := sX9_write d (by omega) e6
    refine rt_callV (pc := 17) (As := [.int (4 : Int32), .long a1, .long a1, .int (0 : Int32)]) (st := []) me_X9_write mi_X9_write wl_X9_67 dX9_drop_17 rfl (by decide) rfl g9.1 g9.2 ?_
    cases hf
    exact rt_ret (pc := 20) dX9_drop_20 rfl
  rw [if_neg c5] at hf
  refine rt_if_eq_n (pc := 7) (x := v3) (tgt := 12) (by decide) dX9_drop_7 c5 ?_
  refine rt_iload_n (pc := 10) (k0 := 3) (x := v3) 0 rfl dX9_drop_10 ?_
  cases hf
  exact rt_ret (pc := 11) dX9_drop_11 rfl
noncomputable def fX9_drop (E : ah_E) (a0 : Option Nat) (a1 : Int64) (h : ah_H) : Option (Int32 × ah_H) := if hp_rcv h a0 10 = false then none else bX9_drop_0 E a0 a1 h
set_option maxRecDepth 20000 in
set_option maxHeartbeats 4000000 in
theorem sX9_drop {X : ah_X} (d : Nat) (hd : 103 ≤ d) {a0 : Option Nat} {a1 : Int64} {h : ah_H} {r : Int32} {h2 : ah_H} (hf : fX9_drop X.2.2.2 a0 a1 h = some (r, h2)) : hp_rcv h a0 10 = true ∧ Rn X yX9_drop cX9_drop 4 (some .int) d [va_rf a0, .long a1] h (some (.int r)) h2 := by
  unfold fX9_drop at hf
  by_cases c0 : hp_rcv h a0 10 = false
  · rw [if_pos c0] at hf; cases hf
  rw [if_neg c0] at hf
  refine ⟨(Bool.not_eq_false _).mp c0, ?_⟩
  obtain ⟨d, rfl⟩ : ∃ k, d = k + 1 := ⟨d - 1, by omega⟩
  exact Rn.of2 me_X9_drop (by simp [lg_sl, rt_cat, cat_i, cat_l]) (ok_i _) (l := [(0, va_rf a0), (1, .long a1)]) (by simp [lv_args, rt_cat, cat_i, cat_l]) (rX9_drop_0 (by omega) hf)
noncomputable def bX9_fall_11 (E : ah_E) (h : ah_H) : Option (Int32 × ah_H) :=
  some ((-2 : Int32), h)
set_option maxRecDepth 20000 in
set_option maxHeartbeats 4000000 in
theorem rX9_fall_11 {X : ah_X} {d : Nat}  {h : ah_H} {r : Int32} {h2 : ah_H} (hf : bX9_fall_11 X.2.2.2  h = some (r, h2)) : Rt X yX9_fall cX9_fall 2 d 11 [] [] h (some (.int r)) h2 := by
  unfold bX9_fall_11 at hf
  refine rt_bipush (pc := 11) (n := -2) (v := (-2 : Int32)) (by decide) dX9_fall_11 ?_
  cases hf
  exact rt_ret (pc := 13) dX9_fall_13 rfl
noncomputable def bX9_fall_0 (E : ah_E) (a0 : Option Nat) (a1 : Int32) (h : ah_H) : Option (Int32 × ah_H) :=
  if a1 < 0 then
    bX9_fall_11 E  h
  else
  if a1 ≤ (10000 : Int32) then
    (hp_gr h a0 10 1).bind fun v3 =>
    (hp_pv h v3 1 5 (.int a1)).bind fun w5 =>
    some (a1, w5)
  else
  bX9_fall_11 E  h
set_option maxRecDepth 20000 in
set_option maxHeartbeats 4000000 in
theorem rX9_fall_0 {X : ah_X} {d : Nat} {a0 : Option Nat} {a1 : Int32} {h : ah_H} {r : Int32} {h2 : ah_H} (hf : bX9_fall_0 X.2.2.2 a0 a1 h = some (r, h2)) : Rt X yX9_fall cX9_fall 2 d 0 [(0, va_rf a0), (1, .int a1)] [] h (some (.int r)) h2 := by
  unfold bX9_fall_0 at hf
  refine rt_iload_n (pc := 0) (k0 := 1) (x := a1) 1 rfl dX9_fall_0 ?_
  by_cases c1 : a1 < 0
  · rw [if_pos c1] at hf
    refine rt_if_lt_p (pc := 1) (x := a1) (tgt := 11) (by decide) dX9_fall_1 c1 ?_
    exact rt_locals (rt_sub [] rfl) (rX9_fall_11 hf)
  rw [if_neg c1] at hf
  refine rt_if_lt_n (pc := 1) (x := a1) (tgt := 11) (by decide) dX9_fall_1 c1 ?_
  refine rt_iload_n (pc := 4) (k0 := 1) (x := a1) 1 rfl dX9_fall_4 ?_
  refine rt_sipush (pc := 5) (n := 10000) (v := (10000 : Int32)) (by decide) dX9_fall_5 ?_
  by_cases c2 : a1 ≤ (10000 : Int32)
  · rw [if_pos c2] at hf
    refine rt_icmp_le_p (pc := 8) (x := a1) (z := (10000 : Int32)) (tgt := 14) (by decide) dX9_fall_8 c2 ?_
    refine rt_aload_n (pc := 14) (k0 := 0) (x := a0) 0 rfl dX9_fall_14 ?_
    obtain ⟨v3, e4, hf⟩ := ob1 hf
    refine rt_gr (pc := 15) fd_X9_19 dX9_fall_15 e4 ?_
    refine rt_iload_n (pc := 18) (k0 := 1) (x := a1) 1 rfl dX9_fall_18 ?_
    obtain ⟨w5, e6, hf⟩ := ob1 hf
    refine rt_putf (pc := 19) (x := v3) fw_X9_202 (Or.inl rfl) (pf_i _).1 (pf_i _).2 dX9_fall_19 e6 ?_
    refine rt_iload_n (pc := 22) (k0 := 1) (x := a1) 1 rfl dX9_fall_22 ?_
    cases hf
    exact rt_ret (pc := 23) dX9_fall_23 rfl
  rw [if_neg c2] at hf
  refine rt_icmp_le_n (pc := 8) (x := a1) (z := (10000 : Int32)) (tgt := 14) (by decide) dX9_fall_8 c2 ?_
  exact rt_locals (rt_sub [] rfl) (rX9_fall_11 hf)
noncomputable def fX9_fall (E : ah_E) (a0 : Option Nat) (a1 : Int32) (h : ah_H) : Option (Int32 × ah_H) := if hp_rcv h a0 10 = false then none else bX9_fall_0 E a0 a1 h
set_option maxRecDepth 20000 in
set_option maxHeartbeats 4000000 in
theorem sX9_fall {X : ah_X} (d : Nat) (hd : 0 ≤ d) {a0 : Option Nat} {a1 : Int32} {h : ah_H} {r : Int32} {h2 : ah_H} (hf : fX9_fall X.2.2.2 a0 a1 h = some (r, h2)) : hp_rcv h a0 10 = true ∧ Rn X yX9_fall cX9_fall 2 (some .int) d [va_rf a0, .int a1] h (some (.int r)) h2 := by
  unfold fX9_fall at hf
  by_cases c0 : hp_rcv h a0 10 = false
  · rw [if_pos c0] at hf; cases hf
  rw [if_neg c0] at hf
  refine ⟨(Bool.not_eq_false _).mp c0, ?_⟩
  exact Rn.of2 me_X9_fall (by simp [lg_sl, rt_cat, cat_i, cat_l]) (ok_i _) (l := [(0, va_rf a0), (1, .int a1)]) (by simp [lv_args, rt_cat, cat_i, cat_l]) (rX9_fall_0 hf)
noncomputable def bX9_feed_25 (E : ah_E) (h : ah_H) : Option (Int32 × ah_H) :=
  some ((-2 : Int32), h)
set_option maxRecDepth 20000 in
set_option maxHeartbeats 4000000 in
theorem rX9_feed_25 {X : ah_X} {d : Nat} (hd : 0 ≤ d)  {h : ah_H} {r : Int32} {h2 : ah_H} (hf : bX9_feed_25 X.2.2.2  h = some (r, h2)) : Rt X yX9_feed cX9_feed 4 (d + 1) 25 [] [] h (some (.int r)) h2 := by
  unfold bX9_feed_25 at hf
  refine rt_bipush (pc := 25) (n := -2) (v := (-2 : Int32)) (by decide) dX9_feed_25 ?_
  cases hf
  exact rt_ret (pc := 27) dX9_feed_27 rfl
noncomputable def bX9_feed_0 (E : ah_E) (a0 : Option Nat) (a1 : Int64) (a3 : Int32) (h : ah_H) : Option (Int32 × ah_H) :=
  if a3 < (1 : Int32) then
    bX9_feed_25 E  h
  else
  if (8 : Int32) < a3 then
    bX9_feed_25 E  h
  else
  (hp_gr h a0 10 0).bind fun v3 =>
  (hp_gi h v3 8 1).bind fun v5 =>
  if (v5 + a3) ≤ (40 : Int32) then
    (hp_gr h a0 10 0).bind fun v8 =>
    (fX7_addBytes E v8 a1 a3 h).bind fun w11 =>
    (hp_gr w11 a0 10 0).bind fun v13 =>
    (hp_gi w11 v13 8 1).bind fun v15 =>
    some (v15, w11)
  else
  bX9_feed_25 E  h
set_option maxRecDepth 20000 in
set_option maxHeartbeats 4000000 in
theorem rX9_feed_0 {X : ah_X} {d : Nat} (hd : 0 ≤ d) {a0 : Option Nat} {a1 : Int64} {a3 : Int32} {h : ah_H} {r : Int32} {h2 : ah_H} (hf : bX9_feed_0 X.2.2.2 a0 a1 a3 h = some (r, h2)) : Rt X yX9_feed cX9_feed 4 (d + 1) 0 [(0, va_rf a0), (1, .long a1), (3, .int a3)] [] h (some (.int r)) h2 := by
  unfold bX9_feed_0 at hf
  refine rt_iload_n (pc := 0) (k0 := 3) (x := a3) 2 rfl dX9_feed_0 ?_
  refine rt_iconst (pc := 1) (n := 1) (v := (1 : Int32)) (by decide) dX9_feed_1 ?_
  by_cases c1 : a3 < (1 : Int32)
  · rw [if_pos c1] at hf
    refine rt_icmp_lt_p (pc := 2) (x := a3) (z := (1 : Int32)) (tgt := 25) (by decide) dX9_feed_2 c1 ?_
    exact rt_locals (rt_sub [] rfl) (rX9_feed_25 hd hf)
  rw [if_neg c1] at hf
  refine rt_icmp_lt_n (pc := 2) (x := a3) (z := (1 : Int32)) (tgt := 25) (by decide) dX9_feed_2 c1 ?_
  refine rt_iload_n (pc := 5) (k0 := 3) (x := a3) 2 rfl dX9_feed_5 ?_
  refine rt_bipush (pc := 6) (n := 8) (v := (8 : Int32)) (by decide) dX9_feed_6 ?_
  by_cases c2 : (8 : Int32) < a3
  · rw [if_pos c2] at hf
    refine rt_icmp_gt_p (pc := 8) (x := a3) (z := (8 : Int32)) (tgt := 25) (by decide) dX9_feed_8 c2 ?_
    exact rt_locals (rt_sub [] rfl) (rX9_feed_25 hd hf)
  rw [if_neg c2] at hf
  refine rt_icmp_gt_n (pc := 8) (x := a3) (z := (8 : Int32)) (tgt := 25) (by decide) dX9_feed_8 c2 ?_
  refine rt_aload_n (pc := 11) (k0 := 0) (x := a0) 0 rfl dX9_feed_11 ?_
  obtain ⟨v3, e4, hf⟩ := ob1 hf
  refine rt_gr (pc := 12) fd_X9_10 dX9_feed_12 e4 ?_
  obtain ⟨v5, e6, hf⟩ := ob1 hf
  refine rt_gi (pc := 15) fd_X9_47 dX9_feed_15 e6 ?_
  refine rt_iload_n (pc := 18) (k0 := 3) (x := a3) 2 rfl dX9_feed_18 ?_
  refine rt_iadd (pc := 19) (x := v5) (z := a3) dX9_feed_19 ?_
  refine rt_bipush (pc := 20) (n := 40) (v := (40 : Int32)) (by decide) dX9_feed_20 ?_
  by_cases c7 : (v5 + a3) ≤ (40 : Int32)
  · rw [if_pos c7] at hf
    refine rt_icmp_le_p (pc := 22) (x := (v5 + a3)) (z := (40 : Int32)) (tgt := 28) (by decide) dX9_feed_22 c7 ?_
    refine rt_aload_n (pc := 28) (k0 := 0) (x := a0) 0 rfl dX9_feed_28 ?_
    obtain ⟨v8, e9, hf⟩ := ob1 hf
    refine rt_gr (pc := 29) fd_X9_10 dX9_feed_29 e9 ?_
    refine rt_lload_n (pc := 32) (k0 := 1) (x := a1) 1 rfl dX9_feed_32 ?_
    refine rt_iload_n (pc := 33) (k0 := 3) (x := a3) 2 rfl dX9_feed_33 ?_
    obtain ⟨w11, e10, hf⟩ := ob1 hf
    have g12 := sX7_addBytes d (by omega) e10
    refine rt_callV (pc := 34) (As := [.long a1, .int a3]) (st := []) me_X7_addBytes mi_X7_addBytes wl_X9_51 dX9_feed_34 rfl (by decide) rfl g12.1 g12.2 ?_
    refine rt_aload_n (pc := 37) (k0 := 0) (x := a0) 0 rfl dX9_feed_37 ?_
    obtain ⟨v13, e14, hf⟩ := ob1 hf
    refine rt_gr (pc := 38) fd_X9_10 dX9_feed_38 e14 ?_
    obtain ⟨v15, e16, hf⟩ := ob1 hf
    refine rt_gi (pc := 41) fd_X9_47 dX9_feed_41 e16 ?_
    cases hf
    exact rt_ret (pc := 44) dX9_feed_44 rfl
  rw [if_neg c7] at hf
  refine rt_icmp_le_n (pc := 22) (x := (v5 + a3)) (z := (40 : Int32)) (tgt := 28) (by decide) dX9_feed_22 c7 ?_
  exact rt_locals (rt_sub [] rfl) (rX9_feed_25 hd hf)
noncomputable def fX9_feed (E : ah_E) (a0 : Option Nat) (a1 : Int64) (a3 : Int32) (h : ah_H) : Option (Int32 × ah_H) := if hp_rcv h a0 10 = false then none else bX9_feed_0 E a0 a1 a3 h
set_option maxRecDepth 20000 in
set_option maxHeartbeats 4000000 in
theorem sX9_feed {X : ah_X} (d : Nat) (hd : 1 ≤ d) {a0 : Option Nat} {a1 : Int64} {a3 : Int32} {h : ah_H} {r : Int32} {h2 : ah_H} (hf : fX9_feed X.2.2.2 a0 a1 a3 h = some (r, h2)) : hp_rcv h a0 10 = true ∧ Rn X yX9_feed cX9_feed 4 (some .int) d [va_rf a0, .long a1, .int a3] h (some (.int r)) h2 := by
  unfold fX9_feed at hf
  by_cases c0 : hp_rcv h a0 10 = false
  · rw [if_pos c0] at hf; cases hf
  rw [if_neg c0] at hf
  refine ⟨(Bool.not_eq_false _).mp c0, ?_⟩
  obtain ⟨d, rfl⟩ : ∃ k, d = k + 1 := ⟨d - 1, by omega⟩
  exact Rn.of2 me_X9_feed (by simp [lg_sl, rt_cat, cat_i, cat_l]) (ok_i _) (l := [(0, va_rf a0), (1, .long a1), (3, .int a3)]) (by simp [lv_args, rt_cat, cat_i, cat_l]) (rX9_feed_0 (by omega) hf)
noncomputable def bX9_found_0 (E : ah_E) (a0 : Option Nat) (h : ah_H) : Option (Int64 × ah_H) :=
  (hp_gl h a0 10 8).bind fun v1 =>
  some (v1, h)
set_option maxRecDepth 20000 in
set_option maxHeartbeats 4000000 in
theorem rX9_found_0 {X : ah_X} {d : Nat} {a0 : Option Nat} {h : ah_H} {r : Int64} {h2 : ah_H} (hf : bX9_found_0 X.2.2.2 a0 h = some (r, h2)) : Rt X yX9_found cX9_found 1 d 0 [(0, va_rf a0)] [] h (some (.long r)) h2 := by
  unfold bX9_found_0 at hf
  refine rt_aload_n (pc := 0) (k0 := 0) (x := a0) 0 rfl dX9_found_0 ?_
  obtain ⟨v1, e2, hf⟩ := ob1 hf
  refine rt_gl (pc := 1) fd_X9_91 dX9_found_1 e2 ?_
  cases hf
  exact rt_ret (pc := 4) dX9_found_4 rfl
noncomputable def fX9_found (E : ah_E) (a0 : Option Nat) (h : ah_H) : Option (Int64 × ah_H) := if hp_rcv h a0 10 = false then none else bX9_found_0 E a0 h
set_option maxRecDepth 20000 in
set_option maxHeartbeats 4000000 in
theorem sX9_found {X : ah_X} (d : Nat) (hd : 0 ≤ d) {a0 : Option Nat} {h : ah_H} {r : Int64} {h2 : ah_H} (hf : fX9_found X.2.2.2 a0 h = some (r, h2)) : hp_rcv h a0 10 = true ∧ Rn X yX9_found cX9_found 1 (some .long) d [va_rf a0] h (some (.long r)) h2 := by
  unfold fX9_found at hf
  by_cases c0 : hp_rcv h a0 10 = false
  · rw [if_pos c0] at hf; cases hf
  rw [if_neg c0] at hf
  refine ⟨(Bool.not_eq_false _).mp c0, ?_⟩
  exact Rn.of2 me_X9_found (by simp [lg_sl, rt_cat, cat_i, cat_l]) rfl (l := [(0, va_rf a0)]) (by simp [lv_args, rt_cat, cat_i, cat_l]) (rX9_found_0 hf)
noncomputable def bX9_freePlaces_0 (E : ah_E) (a0 : Option Nat) (h : ah_H) : Option (Int32 × ah_H) :=
  (hp_gr h a0 10 1).bind fun v1 =>
  (hp_gr h a0 10 2).bind fun v3 =>
  (hp_gr h v3 9 0).bind fun v5 =>
  (hp_gr h a0 10 4).bind fun v7 =>
  (fX0_markTaken E v1 v5 v7 h).bind fun w10 =>
  (hp_gr w10 a0 10 1).bind fun v12 =>
  (hp_gi w10 v12 1 3).bind fun v14 =>
  some (((1000 : Int32) - v14), w10)
set_option maxRecDepth 20000 in
set_option maxHeartbeats 4000000 in
theorem rX9_freePlaces_0 {X : ah_X} {d : Nat} (hd : 50 ≤ d) {a0 : Option Nat} {h : ah_H} {r : Int32} {h2 : ah_H} (hf : bX9_freePlaces_0 X.2.2.2 a0 h = some (r, h2)) : Rt X yX9_freePlaces cX9_freePlaces 1 (d + 1) 0 [(0, va_rf a0)] [] h (some (.int r)) h2 := by
  unfold bX9_freePlaces_0 at hf
  refine rt_aload_n (pc := 0) (k0 := 0) (x := a0) 0 rfl dX9_freePlaces_0 ?_
  obtain ⟨v1, e2, hf⟩ := ob1 hf
  refine rt_gr (pc := 1) fd_X9_19 dX9_freePlaces_1 e2 ?_
  refine rt_aload_n (pc := 4) (k0 := 0) (x := a0) 0 rfl dX9_freePlaces_4 ?_
  obtain ⟨v3, e4, hf⟩ := ob1 hf
  refine rt_gr (pc := 5) fd_X9_26 dX9_freePlaces_5 e4 ?_
  obtain ⟨v5, e6, hf⟩ := ob1 hf
  refine rt_gr (pc := 8) fd_X9_107 dX9_freePlaces_8 e6 ?_
  refine rt_aload_n (pc := 11) (k0 := 0) (x := a0) 0 rfl dX9_freePlaces_11 ?_
  obtain ⟨v7, e8, hf⟩ := ob1 hf
  refine rt_gr (pc := 12) fd_X9_40 dX9_freePlaces_12 e8 ?_
  obtain ⟨w10, e9, hf⟩ := ob1 hf
  have g11 := sX0_markTaken d (by omega) e9
  refine rt_callV (pc := 15) (As := [va_rf v5, va_rf v7]) (st := []) me_X0_markTaken mi_X0_markTaken wl_X9_264 dX9_freePlaces_15 rfl (by decide) rfl g11.1 g11.2 ?_
  refine rt_sipush (pc := 18) (n := 1000) (v := (1000 : Int32)) (by decide) dX9_freePlaces_18 ?_
  refine rt_aload_n (pc := 21) (k0 := 0) (x := a0) 0 rfl dX9_freePlaces_21 ?_
  obtain ⟨v12, e13, hf⟩ := ob1 hf
  refine rt_gr (pc := 22) fd_X9_19 dX9_freePlaces_22 e13 ?_
  obtain ⟨v14, e15, hf⟩ := ob1 hf
  refine rt_gi (pc := 25) fd_X9_268 dX9_freePlaces_25 e15 ?_
  refine rt_isub (pc := 28) (x := (1000 : Int32)) (z := v14) dX9_freePlaces_28 ?_
  cases hf
  exact rt_ret (pc := 29) dX9_freePlaces_29 rfl
noncomputable def fX9_freePlaces (E : ah_E) (a0 : Option Nat) (h : ah_H) : Option (Int32 × ah_H) := if hp_rcv h a0 10 = false then none else bX9_freePlaces_0 E a0 h
set_option maxRecDepth 20000 in
set_option maxHeartbeats 4000000 in
theorem sX9_freePlaces {X : ah_X} (d : Nat) (hd : 51 ≤ d) {a0 : Option Nat} {h : ah_H} {r : Int32} {h2 : ah_H} (hf : fX9_freePlaces X.2.2.2 a0 h = some (r, h2)) : hp_rcv h a0 10 = true ∧ Rn X yX9_freePlaces cX9_freePlaces 1 (some .int) d [va_rf a0] h (some (.int r)) h2 := by
  unfold fX9_freePlaces at hf
  by_cases c0 : hp_rcv h a0 10 = false
  · rw [if_pos c0] at hf; cases hf
  rw [if_neg c0] at hf
  refine ⟨(Bool.not_eq_false _).mp c0, ?_⟩
  obtain ⟨d, rfl⟩ : ∃ k, d = k + 1 := ⟨d - 1, by omega⟩
  exact Rn.of2 me_X9_freePlaces (by simp [lg_sl, rt_cat, cat_i, cat_l]) (ok_i _) (l := [(0, va_rf a0)]) (by simp [lv_args, rt_cat, cat_i, cat_l]) (rX9_freePlaces_0 (by omega) hf)
noncomputable def bX9_free_16 (E : ah_E) (s0 : Int32) (h : ah_H) : Option (Int32 × ah_H) :=
  some (s0, h)
set_option maxRecDepth 20000 in
set_option maxHeartbeats 4000000 in
theorem rX9_free_16 {X : ah_X} {d : Nat} (hd : 51 ≤ d) {s0 : Int32} {h : ah_H} {r : Int32} {h2 : ah_H} (hf : bX9_free_16 X.2.2.2 s0 h = some (r, h2)) : Rt X yX9_free cX9_free 1 (d + 1) 16 [] [.int s0] h (some (.int r)) h2 := by
  unfold bX9_free_16 at hf
  cases hf
  exact rt_ret (pc := 16) dX9_free_16 rfl
noncomputable def bX9_free_0 (E : ah_E) (a0 : Option Nat) (h : ah_H) : Option (Int32 × ah_H) :=
  (hp_gi h a0 10 9).bind fun v1 =>
  if v1 = 0 then
    ob2 (fX9_freePlaces E a0 h) fun v6 w5 =>
    bX9_free_16 E v6 w5
  else
  bX9_free_16 E (-4 : Int32) h
set_option maxRecDepth 20000 in
set_option maxHeartbeats 4000000 in
theorem rX9_free_0 {X : ah_X} {d : Nat} (hd : 51 ≤ d) {a0 : Option Nat} {h : ah_H} {r : Int32} {h2 : ah_H} (hf : bX9_free_0 X.2.2.2 a0 h = some (r, h2)) : Rt X yX9_free cX9_free 1 (d + 1) 0 [(0, va_rf a0)] [] h (some (.int r)) h2 := by
  unfold bX9_free_0 at hf
  refine rt_aload_n (pc := 0) (k0 := 0) (x := a0) 0 rfl dX9_free_0 ?_
  obtain ⟨v1, e2, hf⟩ := ob1 hf
  refine rt_gi (pc := 1) fd_X9_71 dX9_free_1 e2 ?_
  by_cases c3 : v1 = 0
  · rw [if_pos c3] at hf
    refine rt_if_eq_p (pc := 4) (x := v1) (tgt := 12) (by decide) dX9_free_4 c3 ?_
    refine rt_aload_n (pc := 12) (k0 := 0) (x := a0) 0 rfl dX9_free_12 ?_
    obtain ⟨v6, w5, e4, hf⟩ := ob2_of hf
    have g7 := sX9_freePlaces d (by omega) e4
    refine rt_callV (pc := 13) (As := []) (st := []) me_X9_freePlaces mi_X9_freePlaces wl_X9_172 dX9_free_13 rfl (by decide) rfl g7.1 g7.2 ?_
    exact rt_locals (rt_sub [] rfl) (rX9_free_16 hd hf)
  rw [if_neg c3] at hf
  refine rt_if_eq_n (pc := 4) (x := v1) (tgt := 12) (by decide) dX9_free_4 c3 ?_
  refine rt_bipush (pc := 7) (n := -4) (v := (-4 : Int32)) (by decide) dX9_free_7 ?_
  refine rt_goto (pc := 9) (tgt := 16) (by decide) dX9_free_9 ?_
  exact rt_locals (rt_sub [] rfl) (rX9_free_16 hd hf)
noncomputable def fX9_free (E : ah_E) (a0 : Option Nat) (h : ah_H) : Option (Int32 × ah_H) := if hp_rcv h a0 10 = false then none else bX9_free_0 E a0 h
set_option maxRecDepth 20000 in
set_option maxHeartbeats 4000000 in
theorem sX9_free {X : ah_X} (d : Nat) (hd : 52 ≤ d) {a0 : Option Nat} {h : ah_H} {r : Int32} {h2 : ah_H} (hf : fX9_free X.2.2.2 a0 h = some (r, h2)) : hp_rcv h a0 10 = true ∧ Rn X yX9_free cX9_free 1 (some .int) d [va_rf a0] h (some (.int r)) h2 := by
  unfold fX9_free at hf
  by_cases c0 : hp_rcv h a0 10 = false
  · rw [if_pos c0] at hf; cases hf
  rw [if_neg c0] at hf
  refine ⟨(Bool.not_eq_false _).mp c0, ?_⟩
  obtain ⟨d, rfl⟩ : ∃ k, d = k + 1 := ⟨d - 1, by omega⟩
  exact Rn.of2 me_X9_free (by simp [lg_sl, rt_cat, cat_i, cat_l]) (ok_i _) (l := [(0, va_rf a0)]) (by simp [lv_args, rt_cat, cat_i, cat_l]) (rX9_free_0 (by omega) hf)
noncomputable def bX9_load_0 (E : ah_E) (a0 : Option Nat) (a1 : Option Nat) (h : ah_H) : Option (Int32 × ah_H) :=
  if a1 = none then
    some ((-1 : Int32), h)
  else
  (hp_gr h a0 10 0).bind fun v2 =>
  (fX7_become E v2 a1 h).bind fun w5 =>
  (hp_gr w5 a0 10 0).bind fun v7 =>
  (hp_gi w5 v7 8 1).bind fun v9 =>
  some (v9, w5)
set_option maxRecDepth 20000 in
set_option maxHeartbeats 4000000 in
theorem rX9_load_0 {X : ah_X} {d : Nat} (hd : 1 ≤ d) {a0 : Option Nat} {a1 : Option Nat} {h : ah_H} {r : Int32} {h2 : ah_H} (hf : bX9_load_0 X.2.2.2 a0 a1 h = some (r, h2)) : Rt X yX9_load cX9_load 2 (d + 1) 0 [(0, va_rf a0), (1, va_rf a1)] [] h (some (.int r)) h2 := by
  unfold bX9_load_0 at hf
  refine rt_aload_n (pc := 0) (k0 := 1) (x := a1) 1 rfl dX9_load_0 ?_
  by_cases c1 : a1 = none
  · rw [if_pos c1] at hf
    refine rt_ifnonnull_p (pc := 1) (x := a1) (tgt := 6) (by decide) dX9_load_1 c1 ?_
    refine rt_iconst (pc := 4) (n := -1) (v := (-1 : Int32)) (by decide) dX9_load_4 ?_
    cases hf
    exact rt_ret (pc := 5) dX9_load_5 rfl
  rw [if_neg c1] at hf
  refine rt_ifnonnull_n (pc := 1) (x := a1) (tgt := 6) (by decide) dX9_load_1 c1 ?_
  refine rt_aload_n (pc := 6) (k0 := 0) (x := a0) 0 rfl dX9_load_6 ?_
  obtain ⟨v2, e3, hf⟩ := ob1 hf
  refine rt_gr (pc := 7) fd_X9_10 dX9_load_7 e3 ?_
  refine rt_aload_n (pc := 10) (k0 := 1) (x := a1) 1 rfl dX9_load_10 ?_
  obtain ⟨w5, e4, hf⟩ := ob1 hf
  have g6 := sX7_become d (by omega) e4
  refine rt_callV (pc := 11) (As := [va_rf a1]) (st := []) me_X7_become mi_X7_become wl_X9_260 dX9_load_11 rfl (by decide) rfl g6.1 g6.2 ?_
  refine rt_aload_n (pc := 14) (k0 := 0) (x := a0) 0 rfl dX9_load_14 ?_
  obtain ⟨v7, e8, hf⟩ := ob1 hf
  refine rt_gr (pc := 15) fd_X9_10 dX9_load_15 e8 ?_
  obtain ⟨v9, e10, hf⟩ := ob1 hf
  refine rt_gi (pc := 18) fd_X9_47 dX9_load_18 e10 ?_
  cases hf
  exact rt_ret (pc := 21) dX9_load_21 rfl
noncomputable def fX9_load (E : ah_E) (a0 : Option Nat) (a1 : Option Nat) (h : ah_H) : Option (Int32 × ah_H) := if hp_rcv h a0 10 = false then none else bX9_load_0 E a0 a1 h
set_option maxRecDepth 20000 in
set_option maxHeartbeats 4000000 in
theorem sX9_load {X : ah_X} (d : Nat) (hd : 2 ≤ d) {a0 : Option Nat} {a1 : Option Nat} {h : ah_H} {r : Int32} {h2 : ah_H} (hf : fX9_load X.2.2.2 a0 a1 h = some (r, h2)) : hp_rcv h a0 10 = true ∧ Rn X yX9_load cX9_load 2 (some .int) d [va_rf a0, va_rf a1] h (some (.int r)) h2 := by
  unfold fX9_load at hf
  by_cases c0 : hp_rcv h a0 10 = false
  · rw [if_pos c0] at hf; cases hf
  rw [if_neg c0] at hf
  refine ⟨(Bool.not_eq_false _).mp c0, ?_⟩
  obtain ⟨d, rfl⟩ : ∃ k, d = k + 1 := ⟨d - 1, by omega⟩
  exact Rn.of2 me_X9_load (by simp [lg_sl, rt_cat, cat_i, cat_l]) (ok_i _) (l := [(0, va_rf a0), (1, va_rf a1)]) (by simp [lv_args, rt_cat, cat_i, cat_l]) (rX9_load_0 (by omega) hf)
noncomputable def bX9_get_0 (E : ah_E) (a0 : Option Nat) (a1 : Int64) (h : ah_H) : Option (Int32 × ah_H) :=
  (hp_gi h a0 10 9).bind fun v1 =>
  if v1 = 0 then
    (hp_gr h a0 10 3).bind fun v4 =>
    ob2 (fX1_rowOf E v4 a1 h) fun v8 w7 =>
    ob2 (fX9_load E a0 v8 w7) fun v12 w11 =>
    some (v12, w11)
  else
  some ((-4 : Int32), h)
set_option maxRecDepth 20000 in
set_option maxHeartbeats 4000000 in
theorem rX9_get_0 {X : ah_X} {d : Nat} (hd : 4 ≤ d) {a0 : Option Nat} {a1 : Int64} {h : ah_H} {r : Int32} {h2 : ah_H} (hf : bX9_get_0 X.2.2.2 a0 a1 h = some (r, h2)) : Rt X yX9_get cX9_get 3 (d + 1) 0 [(0, va_rf a0), (1, .long a1)] [] h (some (.int r)) h2 := by
  unfold bX9_get_0 at hf
  refine rt_aload_n (pc := 0) (k0 := 0) (x := a0) 0 rfl dX9_get_0 ?_
  obtain ⟨v1, e2, hf⟩ := ob1 hf
  refine rt_gi (pc := 1) fd_X9_71 dX9_get_1 e2 ?_
  by_cases c3 : v1 = 0
  · rw [if_pos c3] at hf
    refine rt_if_eq_p (pc := 4) (x := v1) (tgt := 10) (by decide) dX9_get_4 c3 ?_
    refine rt_aload_n (pc := 10) (k0 := 0) (x := a0) 0 rfl dX9_get_10 ?_
    refine rt_aload_n (pc := 11) (k0 := 0) (x := a0) 0 rfl dX9_get_11 ?_
    obtain ⟨v4, e5, hf⟩ := ob1 hf
    refine rt_gr (pc := 12) fd_X9_33 dX9_get_12 e5 ?_
    refine rt_lload_n (pc := 15) (k0 := 1) (x := a1) 1 rfl dX9_get_15 ?_
    obtain ⟨v8, w7, e6, hf⟩ := ob2_of hf
    have g9 := sX1_rowOf d (by omega) e6
    refine rt_callV (pc := 16) (As := [.long a1]) (st := [va_rf a0]) me_X1_rowOf mi_X1_rowOf wl_X9_63 dX9_get_16 rfl (by simp [rt_cat, cat_i, cat_l]) rfl g9.1 g9.2 ?_
    obtain ⟨v12, w11, e10, hf⟩ := ob2_of hf
    have g13 := sX9_load d (by omega) e10
    refine rt_callV (pc := 19) (As := [va_rf v8]) (st := []) me_X9_load mi_X9_load wl_X9_75 dX9_get_19 rfl (by decide) rfl g13.1 g13.2 ?_
    cases hf
    exact rt_ret (pc := 22) dX9_get_22 rfl
  rw [if_neg c3] at hf
  refine rt_if_eq_n (pc := 4) (x := v1) (tgt := 10) (by decide) dX9_get_4 c3 ?_
  refine rt_bipush (pc := 7) (n := -4) (v := (-4 : Int32)) (by decide) dX9_get_7 ?_
  cases hf
  exact rt_ret (pc := 9) dX9_get_9 rfl
noncomputable def fX9_get (E : ah_E) (a0 : Option Nat) (a1 : Int64) (h : ah_H) : Option (Int32 × ah_H) := if hp_rcv h a0 10 = false then none else bX9_get_0 E a0 a1 h
set_option maxRecDepth 20000 in
set_option maxHeartbeats 4000000 in
theorem sX9_get {X : ah_X} (d : Nat) (hd : 5 ≤ d) {a0 : Option Nat} {a1 : Int64} {h : ah_H} {r : Int32} {h2 : ah_H} (hf : fX9_get X.2.2.2 a0 a1 h = some (r, h2)) : hp_rcv h a0 10 = true ∧ Rn X yX9_get cX9_get 3 (some .int) d [va_rf a0, .long a1] h (some (.int r)) h2 := by
  unfold fX9_get at hf
  by_cases c0 : hp_rcv h a0 10 = false
  · rw [if_pos c0] at hf; cases hf
  rw [if_neg c0] at hf
  refine ⟨(Bool.not_eq_false _).mp c0, ?_⟩
  obtain ⟨d, rfl⟩ : ∃ k, d = k + 1 := ⟨d - 1, by omega⟩
  exact Rn.of2 me_X9_get (by simp [lg_sl, rt_cat, cat_i, cat_l]) (ok_i _) (l := [(0, va_rf a0), (1, .long a1)]) (by simp [lv_args, rt_cat, cat_i, cat_l]) (rX9_get_0 (by omega) hf)
noncomputable def bX9_has_26 (E : ah_E) (s0 : Int32) (h : ah_H) : Option (Int32 × ah_H) :=
  some (s0, h)
set_option maxRecDepth 20000 in
set_option maxHeartbeats 4000000 in
theorem rX9_has_26 {X : ah_X} {d : Nat} (hd : 4 ≤ d) {s0 : Int32} {h : ah_H} {r : Int32} {h2 : ah_H} (hf : bX9_has_26 X.2.2.2 s0 h = some (r, h2)) : Rt X yX9_has cX9_has 3 (d + 1) 26 [] [.int s0] h (some (.int r)) h2 := by
  unfold bX9_has_26 at hf
  cases hf
  exact rt_ret (pc := 26) dX9_has_26 rfl
noncomputable def bX9_has_0 (E : ah_E) (a0 : Option Nat) (a1 : Int64) (h : ah_H) : Option (Int32 × ah_H) :=
  (hp_gi h a0 10 9).bind fun v1 =>
  if v1 = 0 then
    (hp_gr h a0 10 3).bind fun v4 =>
    ob2 (fX1_rowOf E v4 a1 h) fun v8 w7 =>
    if v8 = none then
      bX9_has_26 E (0 : Int32) w7
    else
    bX9_has_26 E (1 : Int32) w7
  else
  some ((-4 : Int32), h)
set_option maxRecDepth 20000 in
set_option maxHeartbeats 4000000 in
theorem rX9_has_0 {X : ah_X} {d : Nat} (hd : 4 ≤ d) {a0 : Option Nat} {a1 : Int64} {h : ah_H} {r : Int32} {h2 : ah_H} (hf : bX9_has_0 X.2.2.2 a0 a1 h = some (r, h2)) : Rt X yX9_has cX9_has 3 (d + 1) 0 [(0, va_rf a0), (1, .long a1)] [] h (some (.int r)) h2 := by
  unfold bX9_has_0 at hf
  refine rt_aload_n (pc := 0) (k0 := 0) (x := a0) 0 rfl dX9_has_0 ?_
  obtain ⟨v1, e2, hf⟩ := ob1 hf
  refine rt_gi (pc := 1) fd_X9_71 dX9_has_1 e2 ?_
  by_cases c3 : v1 = 0
  · rw [if_pos c3] at hf
    refine rt_if_eq_p (pc := 4) (x := v1) (tgt := 10) (by decide) dX9_has_4 c3 ?_
    refine rt_aload_n (pc := 10) (k0 := 0) (x := a0) 0 rfl dX9_has_10 ?_
    obtain ⟨v4, e5, hf⟩ := ob1 hf
    refine rt_gr (pc := 11) fd_X9_33 dX9_has_11 e5 ?_
    refine rt_lload_n (pc := 14) (k0 := 1) (x := a1) 1 rfl dX9_has_14 ?_
    obtain ⟨v8, w7, e6, hf⟩ := ob2_of hf
    have g9 := sX1_rowOf d (by omega) e6
    refine rt_callV (pc := 15) (As := [.long a1]) (st := []) me_X1_rowOf mi_X1_rowOf wl_X9_63 dX9_has_15 rfl (by decide) rfl g9.1 g9.2 ?_
    by_cases c10 : v8 = none
    · rw [if_pos c10] at hf
      refine rt_ifnonnull_p (pc := 18) (x := v8) (tgt := 25) (by decide) dX9_has_18 c10 ?_
      refine rt_iconst (pc := 21) (n := 0) (v := (0 : Int32)) (by decide) dX9_has_21 ?_
      refine rt_goto (pc := 22) (tgt := 26) (by decide) dX9_has_22 ?_
      exact rt_locals (rt_sub [] rfl) (rX9_has_26 hd hf)
    rw [if_neg c10] at hf
    refine rt_ifnonnull_n (pc := 18) (x := v8) (tgt := 25) (by decide) dX9_has_18 c10 ?_
    refine rt_iconst (pc := 25) (n := 1) (v := (1 : Int32)) (by decide) dX9_has_25 ?_
    exact rt_locals (rt_sub [] rfl) (rX9_has_26 hd hf)
  rw [if_neg c3] at hf
  refine rt_if_eq_n (pc := 4) (x := v1) (tgt := 10) (by decide) dX9_has_4 c3 ?_
  refine rt_bipush (pc := 7) (n := -4) (v := (-4 : Int32)) (by decide) dX9_has_7 ?_
  cases hf
  exact rt_ret (pc := 9) dX9_has_9 rfl
noncomputable def fX9_has (E : ah_E) (a0 : Option Nat) (a1 : Int64) (h : ah_H) : Option (Int32 × ah_H) := if hp_rcv h a0 10 = false then none else bX9_has_0 E a0 a1 h
set_option maxRecDepth 20000 in
set_option maxHeartbeats 4000000 in
theorem sX9_has {X : ah_X} (d : Nat) (hd : 5 ≤ d) {a0 : Option Nat} {a1 : Int64} {h : ah_H} {r : Int32} {h2 : ah_H} (hf : fX9_has X.2.2.2 a0 a1 h = some (r, h2)) : hp_rcv h a0 10 = true ∧ Rn X yX9_has cX9_has 3 (some .int) d [va_rf a0, .long a1] h (some (.int r)) h2 := by
  unfold fX9_has at hf
  by_cases c0 : hp_rcv h a0 10 = false
  · rw [if_pos c0] at hf; cases hf
  rw [if_neg c0] at hf
  refine ⟨(Bool.not_eq_false _).mp c0, ?_⟩
  obtain ⟨d, rfl⟩ : ∃ k, d = k + 1 := ⟨d - 1, by omega⟩
  exact Rn.of2 me_X9_has (by simp [lg_sl, rt_cat, cat_i, cat_l]) (ok_i _) (l := [(0, va_rf a0), (1, .long a1)]) (by simp [lv_args, rt_cat, cat_i, cat_l]) (rX9_has_0 (by omega) hf)
noncomputable def bX9_height_19 (E : ah_E) (s0 : Int32) (h : ah_H) : Option (Int32 × ah_H) :=
  some (s0, h)
set_option maxRecDepth 20000 in
set_option maxHeartbeats 4000000 in
theorem rX9_height_19 {X : ah_X} {d : Nat} (hd : 3 ≤ d) {s0 : Int32} {h : ah_H} {r : Int32} {h2 : ah_H} (hf : bX9_height_19 X.2.2.2 s0 h = some (r, h2)) : Rt X yX9_height cX9_height 1 (d + 1) 19 [] [.int s0] h (some (.int r)) h2 := by
  unfold bX9_height_19 at hf
  cases hf
  exact rt_ret (pc := 19) dX9_height_19 rfl
noncomputable def bX9_height_0 (E : ah_E) (a0 : Option Nat) (h : ah_H) : Option (Int32 × ah_H) :=
  (hp_gi h a0 10 9).bind fun v1 =>
  if v1 = 0 then
    (hp_gr h a0 10 2).bind fun v4 =>
    ob2 (fX8_levels E v4 h) fun v8 w7 =>
    bX9_height_19 E v8 w7
  else
  bX9_height_19 E (-4 : Int32) h
set_option maxRecDepth 20000 in
set_option maxHeartbeats 4000000 in
theorem rX9_height_0 {X : ah_X} {d : Nat} (hd : 3 ≤ d) {a0 : Option Nat} {h : ah_H} {r : Int32} {h2 : ah_H} (hf : bX9_height_0 X.2.2.2 a0 h = some (r, h2)) : Rt X yX9_height cX9_height 1 (d + 1) 0 [(0, va_rf a0)] [] h (some (.int r)) h2 := by
  unfold bX9_height_0 at hf
  refine rt_aload_n (pc := 0) (k0 := 0) (x := a0) 0 rfl dX9_height_0 ?_
  obtain ⟨v1, e2, hf⟩ := ob1 hf
  refine rt_gi (pc := 1) fd_X9_71 dX9_height_1 e2 ?_
  by_cases c3 : v1 = 0
  · rw [if_pos c3] at hf
    refine rt_if_eq_p (pc := 4) (x := v1) (tgt := 12) (by decide) dX9_height_4 c3 ?_
    refine rt_aload_n (pc := 12) (k0 := 0) (x := a0) 0 rfl dX9_height_12 ?_
    obtain ⟨v4, e5, hf⟩ := ob1 hf
    refine rt_gr (pc := 13) fd_X9_26 dX9_height_13 e5 ?_
    obtain ⟨v8, w7, e6, hf⟩ := ob2_of hf
    have g9 := sX8_levels d (by omega) e6
    refine rt_callV (pc := 16) (As := []) (st := []) me_X8_levels mi_X8_levels wl_X9_115 dX9_height_16 rfl (by decide) rfl g9.1 g9.2 ?_
    exact rt_locals (rt_sub [] rfl) (rX9_height_19 hd hf)
  rw [if_neg c3] at hf
  refine rt_if_eq_n (pc := 4) (x := v1) (tgt := 12) (by decide) dX9_height_4 c3 ?_
  refine rt_bipush (pc := 7) (n := -4) (v := (-4 : Int32)) (by decide) dX9_height_7 ?_
  refine rt_goto (pc := 9) (tgt := 19) (by decide) dX9_height_9 ?_
  exact rt_locals (rt_sub [] rfl) (rX9_height_19 hd hf)
noncomputable def fX9_height (E : ah_E) (a0 : Option Nat) (h : ah_H) : Option (Int32 × ah_H) := if hp_rcv h a0 10 = false then none else bX9_height_0 E a0 h
set_option maxRecDepth 20000 in
set_option maxHeartbeats 4000000 in
theorem sX9_height {X : ah_X} (d : Nat) (hd : 4 ≤ d) {a0 : Option Nat} {h : ah_H} {r : Int32} {h2 : ah_H} (hf : fX9_height X.2.2.2 a0 h = some (r, h2)) : hp_rcv h a0 10 = true ∧ Rn X yX9_height cX9_height 1 (some .int) d [va_rf a0] h (some (.int r)) h2 := by
  unfold fX9_height at hf
  by_cases c0 : hp_rcv h a0 10 = false
  · rw [if_pos c0] at hf; cases hf
  rw [if_neg c0] at hf
  refine ⟨(Bool.not_eq_false _).mp c0, ?_⟩
  obtain ⟨d, rfl⟩ : ∃ k, d = k + 1 := ⟨d - 1, by omega⟩
  exact Rn.of2 me_X9_height (by simp [lg_sl, rt_cat, cat_i, cat_l]) (ok_i _) (l := [(0, va_rf a0)]) (by simp [lv_args, rt_cat, cat_i, cat_l]) (rX9_height_0 (by omega) hf)
noncomputable def bX9_init_0 (E : ah_E) (a0 : Option Nat) (h : ah_H) : Option ah_H :=
  if hp_rcv h a0 10 = false then none else
  (hp_new h 8 nf_8 2).bind fun w3 =>
  (fX7_init E (some h.1) w3).bind fun w6 =>
  (hp_pv w6 a0 10 0 (va_rf (some h.1))).bind fun w8 =>
  (hp_new w8 1 nf_1 6).bind fun w10 =>
  (fX0_init E (some w8.1) w10).bind fun w13 =>
  (hp_pv w13 a0 10 1 (va_rf (some w8.1))).bind fun w15 =>
  (hp_new w15 9 nf_9 1).bind fun w17 =>
  (fX8_init E (some w15.1) w17).bind fun w20 =>
  (hp_pv w20 a0 10 2 (va_rf (some w15.1))).bind fun w22 =>
  (hp_new w22 2 nf_2 1).bind fun w24 =>
  (fX1_init E (some w22.1) w24).bind fun w27 =>
  (hp_pv w27 a0 10 3 (va_rf (some w22.1))).bind fun w29 =>
  (hp_new w29 0 nf_0 3).bind fun w31 =>
  (fJx4a65c_init_da8c8 E (some w29.1) w31).bind fun w34 =>
  (hp_pv w34 a0 10 4 (va_rf (some w29.1))).bind fun w36 =>
  (fX9_startAnew E a0 w36).bind fun w39 =>
  some w39
set_option maxRecDepth 20000 in
set_option maxHeartbeats 4000000 in
theorem rX9_init_0 {X : ah_X} {d : Nat} (hd : 5 ≤ d) {a0 : Option Nat} {h : ah_H} {h2 : ah_H} (hf : bX9_init_0 X.2.2.2 a0 h = some h2) : Rt X yX9_init cX9_init 1 (d + 1) 0 [(0, va_rf a0)] [] h none h2 := by
  unfold bX9_init_0 at hf
  refine rt_aload_n (pc := 0) (k0 := 0) (x := a0) 0 rfl dX9_init_0 ?_
  by_cases c1 : hp_rcv h a0 10 = false
  · rw [if_pos c1] at hf; cases hf
  rw [if_neg c1] at hf
  refine rt_objInit (pc := 1) wl_X9_1 (by decide) dX9_init_1 (by obtain ⟨q, _, q2, _⟩ := hp_rcv_spec ((Bool.not_eq_false _).mp c1); exact ⟨q, q2⟩) ?_
  refine rt_aload_n (pc := 4) (k0 := 0) (x := a0) 0 rfl dX9_init_4 ?_
  obtain ⟨w3, e4, hf⟩ := ob1 hf
  refine rt_newB (pc := 5) nw_X9_7 dX9_init_5 e4 ?_
  refine rt_dup (pc := 8) (rt_cat _) dX9_init_8 ?_
  obtain ⟨w6, e5, hf⟩ := ob1 hf
  have g7 := sX7_init d (by omega) e5
  refine rt_callIN (pc := 9) (As := []) (st := [va_rf (some h.1), va_rf a0]) (ci := 8) me_X7_init mI_X7_init wln_X9_9 dX9_init_9 rfl (by simp [rt_cat, cat_i, cat_l]) rfl g7.1 g7.2 ?_
  obtain ⟨w8, e9, hf⟩ := ob1 hf
  refine rt_putf (pc := 12) (x := a0) fw_X9_10 (Or.inr rfl) (pf_o _ _).1 (pf_o _ _).2 dX9_init_12 e9 ?_
  refine rt_aload_n (pc := 15) (k0 := 0) (x := a0) 0 rfl dX9_init_15 ?_
  obtain ⟨w10, e11, hf⟩ := ob1 hf
  refine rt_newB (pc := 16) nw_X9_16 dX9_init_16 e11 ?_
  refine rt_dup (pc := 19) (rt_cat _) dX9_init_19 ?_
  obtain ⟨w13, e12, hf⟩ := ob1 hf
  have g14 := sX0_init d (by omega) e12
  refine rt_callIN (pc := 20) (As := []) (st := [va_rf (some w8.1), va_rf a0]) (ci := 1) me_X0_init mI_X0_init wln_X9_18 dX9_init_20 rfl (by simp [rt_cat, cat_i, cat_l]) rfl g14.1 g14.2 ?_
  obtain ⟨w15, e16, hf⟩ := ob1 hf
  refine rt_putf (pc := 23) (x := a0) fw_X9_19 (Or.inr rfl) (pf_o _ _).1 (pf_o _ _).2 dX9_init_23 e16 ?_
  refine rt_aload_n (pc := 26) (k0 := 0) (x := a0) 0 rfl dX9_init_26 ?_
  obtain ⟨w17, e18, hf⟩ := ob1 hf
  refine rt_newB (pc := 27) nw_X9_23 dX9_init_27 e18 ?_
  refine rt_dup (pc := 30) (rt_cat _) dX9_init_30 ?_
  obtain ⟨w20, e19, hf⟩ := ob1 hf
  have g21 := sX8_init d (by omega) e19
  refine rt_callIN (pc := 31) (As := []) (st := [va_rf (some w15.1), va_rf a0]) (ci := 9) me_X8_init mI_X8_init wln_X9_25 dX9_init_31 rfl (by simp [rt_cat, cat_i, cat_l]) rfl g21.1 g21.2 ?_
  obtain ⟨w22, e23, hf⟩ := ob1 hf
  refine rt_putf (pc := 34) (x := a0) fw_X9_26 (Or.inr rfl) (pf_o _ _).1 (pf_o _ _).2 dX9_init_34 e23 ?_
  refine rt_aload_n (pc := 37) (k0 := 0) (x := a0) 0 rfl dX9_init_37 ?_
  obtain ⟨w24, e25, hf⟩ := ob1 hf
  refine rt_newB (pc := 38) nw_X9_30 dX9_init_38 e25 ?_
  refine rt_dup (pc := 41) (rt_cat _) dX9_init_41 ?_
  obtain ⟨w27, e26, hf⟩ := ob1 hf
  have g28 := sX1_init d (by omega) e26
  refine rt_callIN (pc := 42) (As := []) (st := [va_rf (some w22.1), va_rf a0]) (ci := 2) me_X1_init mI_X1_init wln_X9_32 dX9_init_42 rfl (by simp [rt_cat, cat_i, cat_l]) rfl g28.1 g28.2 ?_
  obtain ⟨w29, e30, hf⟩ := ob1 hf
  refine rt_putf (pc := 45) (x := a0) fw_X9_33 (Or.inr rfl) (pf_o _ _).1 (pf_o _ _).2 dX9_init_45 e30 ?_
  refine rt_aload_n (pc := 48) (k0 := 0) (x := a0) 0 rfl dX9_init_48 ?_
  obtain ⟨w31, e32, hf⟩ := ob1 hf
  refine rt_newB (pc := 49) nw_X9_37 dX9_init_49 e32 ?_
  refine rt_dup (pc := 52) (rt_cat _) dX9_init_52 ?_
  obtain ⟨w34, e33, hf⟩ := ob1 hf
  have g35 := sJx4a65c_init_da8c8 d (by omega) e33
  refine rt_callI (pc := 53) (As := []) (st := [va_rf (some w29.1), va_rf a0]) (ci := 0) me_Jx4a65c_init_da8c8 mI_Jx4a65c_init_da8c8 wl_X9_39 dX9_init_53 rfl (by simp [rt_cat, cat_i, cat_l]) rfl g35.1 g35.2 ?_
  obtain ⟨w36, e37, hf⟩ := ob1 hf
  refine rt_putf (pc := 56) (x := a0) fw_X9_40 (Or.inr rfl) (pf_o _ _).1 (pf_o _ _).2 dX9_init_56 e37 ?_
  refine rt_aload_n (pc := 59) (k0 := 0) (x := a0) 0 rfl dX9_init_59 ?_
  obtain ⟨w39, e38, hf⟩ := ob1 hf
  have g40 := sX9_startAnew d (by omega) e38
  refine rt_callV (pc := 60) (As := []) (st := []) me_X9_startAnew mi_X9_startAnew wl_X9_44 dX9_init_60 rfl (by decide) rfl g40.1 g40.2 ?_
  cases hf
  exact rt_ret (pc := 63) dX9_init_63 rfl
noncomputable def fX9_init (E : ah_E) (a0 : Option Nat) (h : ah_H) : Option ah_H := if hp_rcv h a0 10 = false then none else bX9_init_0 E a0 h
set_option maxRecDepth 20000 in
set_option maxHeartbeats 4000000 in
theorem sX9_init {X : ah_X} (d : Nat) (hd : 6 ≤ d) {a0 : Option Nat} {h : ah_H} {h2 : ah_H} (hf : fX9_init X.2.2.2 a0 h = some h2) : hp_rcv h a0 10 = true ∧ Rn X yX9_init cX9_init 1 none d [va_rf a0] h none h2 := by
  unfold fX9_init at hf
  by_cases c0 : hp_rcv h a0 10 = false
  · rw [if_pos c0] at hf; cases hf
  rw [if_neg c0] at hf
  refine ⟨(Bool.not_eq_false _).mp c0, ?_⟩
  obtain ⟨d, rfl⟩ : ∃ k, d = k + 1 := ⟨d - 1, by omega⟩
  exact Rn.of2 me_X9_init (by simp [lg_sl, rt_cat, cat_i, cat_l]) rfl (l := [(0, va_rf a0)]) (by simp [lv_args, rt_cat, cat_i, cat_l]) (rX9_init_0 (by omega) hf)
noncomputable def bX9_letter_45 (E : ah_E) (h : ah_H) : Option (Int32 × ah_H) :=
  some ((-1 : Int32), h)
set_option maxRecDepth 20000 in
set_option maxHeartbeats 4000000 in
theorem rX9_letter_45 {X : ah_X} {d : Nat} (hd : 94 ≤ d)  {h : ah_H} {r : Int32} {h2 : ah_H} (hf : bX9_letter_45 X.2.2.2  h = some (r, h2)) : Rt X yX9_letter cX9_letter 6 (d + 1) 45 [] [] h (some (.int r)) h2 := by
  unfold bX9_letter_45 at hf
  refine rt_iconst (pc := 45) (n := -1) (v := (-1 : Int32)) (by decide) dX9_letter_45 ?_
  cases hf
  exact rt_ret (pc := 46) dX9_letter_46 rfl
noncomputable def bX9_letter_85 (E : ah_E) (s0 : Int32) (h : ah_H) : Option (Int32 × ah_H) :=
  some (s0, h)
set_option maxRecDepth 20000 in
set_option maxHeartbeats 4000000 in
theorem rX9_letter_85 {X : ah_X} {d : Nat} (hd : 94 ≤ d) {s0 : Int32} {h : ah_H} {r : Int32} {h2 : ah_H} (hf : bX9_letter_85 X.2.2.2 s0 h = some (r, h2)) : Rt X yX9_letter cX9_letter 6 (d + 1) 85 [] [.int s0] h (some (.int r)) h2 := by
  unfold bX9_letter_85 at hf
  cases hf
  exact rt_ret (pc := 85) dX9_letter_85 rfl
noncomputable def bX9_letter_0 (E : ah_E) (a0 : Option Nat) (a1 : Int32) (a2 : Int32) (a3 : Int32) (h : ah_H) : Option (Int32 × ah_H) :=
  (hp_gi h a0 10 9).bind fun v1 =>
  if v1 = 0 then
    (hp_gr h a0 10 2).bind fun v4 =>
    (hp_gr h v4 9 0).bind fun v6 =>
    ob2 (fX8_pageAt E zd v6 a1 (0 : Int32) h) fun v10 w9 =>
    if v10 = none then
      bX9_letter_45 E  w9
    else
    if a2 < 0 then
      bX9_letter_45 E  w9
    else
    (hp_gr w9 v10 6 3).bind fun v14 =>
    ob2 (fJx4a65c_size_8abf5 E v14 w9) fun v18 w17 =>
    if a2 < v18 then
      (hp_gr w17 v10 6 3).bind fun v21 =>
      ob2 (fJx4a65c_get_915e3 E v21 a2 w17) fun v25 w24 =>
      if hp_cls w24 v25 5 = false then none else
      if a3 = 0 then
        (hp_gi w24 v25 5 0).bind fun v29 =>
        some (v29, w24)
      else
      if a3 = (1 : Int32) then
        (hp_gi w24 v25 5 1).bind fun v32 =>
        bX9_letter_85 E v32 w24
      else
      bX9_letter_85 E (-1 : Int32) w24
    else
    bX9_letter_45 E  w17
  else
  some ((-4 : Int32), h)
set_option maxRecDepth 20000 in
set_option maxHeartbeats 4000000 in
theorem rX9_letter_0 {X : ah_X} {d : Nat} (hd : 94 ≤ d) {a0 : Option Nat} {a1 : Int32} {a2 : Int32} {a3 : Int32} {h : ah_H} {r : Int32} {h2 : ah_H} (hf : bX9_letter_0 X.2.2.2 a0 a1 a2 a3 h = some (r, h2)) : Rt X yX9_letter cX9_letter 6 (d + 1) 0 [(0, va_rf a0), (1, .int a1), (2, .int a2), (3, .int a3)] [] h (some (.int r)) h2 := by
  unfold bX9_letter_0 at hf
  refine rt_aload_n (pc := 0) (k0 := 0) (x := a0) 0 rfl dX9_letter_0 ?_
  obtain ⟨v1, e2, hf⟩ := ob1 hf
  refine rt_gi (pc := 1) fd_X9_71 dX9_letter_1 e2 ?_
  by_cases c3 : v1 = 0
  · rw [if_pos c3] at hf
    refine rt_if_eq_p (pc := 4) (x := v1) (tgt := 10) (by decide) dX9_letter_4 c3 ?_
    refine rt_aload_n (pc := 10) (k0 := 0) (x := a0) 0 rfl dX9_letter_10 ?_
    obtain ⟨v4, e5, hf⟩ := ob1 hf
    refine rt_gr (pc := 11) fd_X9_26 dX9_letter_11 e5 ?_
    obtain ⟨v6, e7, hf⟩ := ob1 hf
    refine rt_gr (pc := 14) fd_X9_107 dX9_letter_14 e7 ?_
    refine rt_iload_n (pc := 17) (k0 := 1) (x := a1) 1 rfl dX9_letter_17 ?_
    refine rt_iconst (pc := 18) (n := 0) (v := (0 : Int32)) (by decide) dX9_letter_18 ?_
    obtain ⟨v10, w9, e8, hf⟩ := ob2_of hf
    have g11 := sX8_pageAt zd d (by unfold zd; omega) _ _ _ _ _ _ e8
    refine rt_callSN (pc := 19) (As := [va_rf v6, .int a1, .int (0 : Int32)]) (st := []) me_X8_pageAt ms_X8_pageAt wln_X9_121 dX9_letter_19 rfl (by decide) rfl g11 ?_
    refine rt_astore (pc := 22) (i := 4) (x := v10) (l2 := [(4, va_rf v10), (0, va_rf a0), (1, .int a1), (2, .int a2), (3, .int a3)]) (by decide) (by first | rfl | (simp [rt_cat, cat_i, cat_l]; done) | (simp [rt_cat, cat_i, cat_l]; decide)) dX9_letter_22 ?_
    refine rt_aload (pc := 24) (i := 4) (x := v10) 0 rfl dX9_letter_24 ?_
    by_cases c12 : v10 = none
    · rw [if_pos c12] at hf
      refine rt_ifnull_p (pc := 26) (x := v10) (tgt := 45) (by decide) dX9_letter_26 c12 ?_
      exact rt_locals (rt_sub [] rfl) (rX9_letter_45 hd hf)
    rw [if_neg c12] at hf
    refine rt_ifnull_n (pc := 26) (x := v10) (tgt := 45) (by decide) dX9_letter_26 c12 ?_
    refine rt_iload_n (pc := 29) (k0 := 2) (x := a2) 3 rfl dX9_letter_29 ?_
    by_cases c13 : a2 < 0
    · rw [if_pos c13] at hf
      refine rt_if_lt_p (pc := 30) (x := a2) (tgt := 45) (by decide) dX9_letter_30 c13 ?_
      exact rt_locals (rt_sub [] rfl) (rX9_letter_45 hd hf)
    rw [if_neg c13] at hf
    refine rt_if_lt_n (pc := 30) (x := a2) (tgt := 45) (by decide) dX9_letter_30 c13 ?_
    refine rt_iload_n (pc := 33) (k0 := 2) (x := a2) 3 rfl dX9_letter_33 ?_
    refine rt_aload (pc := 34) (i := 4) (x := v10) 0 rfl dX9_letter_34 ?_
    obtain ⟨v14, e15, hf⟩ := ob1 hf
    refine rt_gr (pc := 36) fd_X9_134 dX9_letter_36 e15 ?_
    obtain ⟨v18, w17, e16, hf⟩ := ob2_of hf
    have g19 := sJx4a65c_size_8abf5 d (by omega) e16
    refine rt_callV (pc := 39) (As := []) (st := [.int a2]) me_Jx4a65c_size_8abf5 mi_Jx4a65c_size_8abf5 wl_X9_98 dX9_letter_39 rfl (by simp [rt_cat, cat_i, cat_l]) rfl g19.1 g19.2 ?_
    by_cases c20 : a2 < v18
    · rw [if_pos c20] at hf
      refine rt_icmp_lt_p (pc := 42) (x := a2) (z := v18) (tgt := 47) (by decide) dX9_letter_42 c20 ?_
      refine rt_aload (pc := 47) (i := 4) (x := v10) 0 rfl dX9_letter_47 ?_
      obtain ⟨v21, e22, hf⟩ := ob1 hf
      refine rt_gr (pc := 49) fd_X9_134 dX9_letter_49 e22 ?_
      refine rt_iload_n (pc := 52) (k0 := 2) (x := a2) 3 rfl dX9_letter_52 ?_
      obtain ⟨v25, w24, e23, hf⟩ := ob2_of hf
      have g26 := sJx4a65c_get_915e3 d (by omega) e23
      refine rt_callV (pc := 53) (As := [.int a2]) (st := []) me_Jx4a65c_get_915e3 mi_Jx4a65c_get_915e3 wl_X9_143 dX9_letter_53 rfl (by decide) rfl g26.1 g26.2 ?_
      by_cases c27 : hp_cls w24 v25 5 = false
      · rw [if_pos c27] at hf; cases hf
      rw [if_neg c27] at hf
      refine rt_cast (pc := 56) (x := v25) (show vwCl[5]? = some (RX4, TX4, 6) from rfl) wc_X9_158 dX9_letter_56 ((Bool.not_eq_false _).mp c27) ?_
      refine rt_astore (pc := 59) (i := 5) (x := v25) (l2 := [(5, va_rf v25), (4, va_rf v10), (0, va_rf a0), (1, .int a1), (2, .int a2), (3, .int a3)]) (by decide) (by first | rfl | (simp [rt_cat, cat_i, cat_l]; done) | (simp [rt_cat, cat_i, cat_l]; decide)) dX9_letter_59 ?_
      refine rt_iload_n (pc := 61) (k0 := 3) (x := a3) 5 rfl dX9_letter_61 ?_
      by_cases c28 : a3 = 0
      · rw [if_pos c28] at hf
        refine rt_if_ne_p (pc := 62) (x := a3) (tgt := 71) (by decide) dX9_letter_62 c28 ?_
        refine rt_aload (pc := 65) (i := 5) (x := v25) 0 rfl dX9_letter_65 ?_
        obtain ⟨v29, e30, hf⟩ := ob1 hf
        refine rt_gi (pc := 67) fd_X9_160 dX9_letter_67 e30 ?_
        cases hf
        exact rt_ret (pc := 70) dX9_letter_70 rfl
      rw [if_neg c28] at hf
      refine rt_if_ne_n (pc := 62) (x := a3) (tgt := 71) (by decide) dX9_letter_62 c28 ?_
      refine rt_iload_n (pc := 71) (k0 := 3) (x := a3) 5 rfl dX9_letter_71 ?_
      refine rt_iconst (pc := 72) (n := 1) (v := (1 : Int32)) (by decide) dX9_letter_72 ?_
      by_cases c31 : a3 = (1 : Int32)
      · rw [if_pos c31] at hf
        refine rt_icmp_ne_p (pc := 73) (x := a3) (z := (1 : Int32)) (tgt := 84) (by decide) dX9_letter_73 c31 ?_
        refine rt_aload (pc := 76) (i := 5) (x := v25) 0 rfl dX9_letter_76 ?_
        obtain ⟨v32, e33, hf⟩ := ob1 hf
        refine rt_gi (pc := 78) fd_X9_163 dX9_letter_78 e33 ?_
        refine rt_goto (pc := 81) (tgt := 85) (by decide) dX9_letter_81 ?_
        exact rt_locals (rt_sub [] rfl) (rX9_letter_85 hd hf)
      rw [if_neg c31] at hf
      refine rt_icmp_ne_n (pc := 73) (x := a3) (z := (1 : Int32)) (tgt := 84) (by decide) dX9_letter_73 c31 ?_
      refine rt_iconst (pc := 84) (n := -1) (v := (-1 : Int32)) (by decide) dX9_letter_84 ?_
      exact rt_locals (rt_sub [] rfl) (rX9_letter_85 hd hf)
    rw [if_neg c20] at hf
    refine rt_icmp_lt_n (pc := 42) (x := a2) (z := v18) (tgt := 47) (by decide) dX9_letter_42 c20 ?_
    exact rt_locals (rt_sub [] rfl) (rX9_letter_45 hd hf)
  rw [if_neg c3] at hf
  refine rt_if_eq_n (pc := 4) (x := v1) (tgt := 10) (by decide) dX9_letter_4 c3 ?_
  refine rt_bipush (pc := 7) (n := -4) (v := (-4 : Int32)) (by decide) dX9_letter_7 ?_
  cases hf
  exact rt_ret (pc := 9) dX9_letter_9 rfl
noncomputable def fX9_letter (E : ah_E) (a0 : Option Nat) (a1 : Int32) (a2 : Int32) (a3 : Int32) (h : ah_H) : Option (Int32 × ah_H) := if hp_rcv h a0 10 = false then none else bX9_letter_0 E a0 a1 a2 a3 h
set_option maxRecDepth 20000 in
set_option maxHeartbeats 4000000 in
theorem sX9_letter {X : ah_X} (d : Nat) (hd : 95 ≤ d) {a0 : Option Nat} {a1 : Int32} {a2 : Int32} {a3 : Int32} {h : ah_H} {r : Int32} {h2 : ah_H} (hf : fX9_letter X.2.2.2 a0 a1 a2 a3 h = some (r, h2)) : hp_rcv h a0 10 = true ∧ Rn X yX9_letter cX9_letter 6 (some .int) d [va_rf a0, .int a1, .int a2, .int a3] h (some (.int r)) h2 := by
  unfold fX9_letter at hf
  by_cases c0 : hp_rcv h a0 10 = false
  · rw [if_pos c0] at hf; cases hf
  rw [if_neg c0] at hf
  refine ⟨(Bool.not_eq_false _).mp c0, ?_⟩
  obtain ⟨d, rfl⟩ : ∃ k, d = k + 1 := ⟨d - 1, by omega⟩
  exact Rn.of2 me_X9_letter (by simp [lg_sl, rt_cat, cat_i, cat_l]) (ok_i _) (l := [(0, va_rf a0), (1, .int a1), (2, .int a2), (3, .int a3)]) (by simp [lv_args, rt_cat, cat_i, cat_l]) (rX9_letter_0 (by omega) hf)
noncomputable def bX9_letters_23 (E : ah_E) (s0 : Int32) (h : ah_H) : Option (Int32 × ah_H) :=
  some (s0, h)
set_option maxRecDepth 20000 in
set_option maxHeartbeats 4000000 in
theorem rX9_letters_23 {X : ah_X} {d : Nat} (hd : 48 ≤ d) {s0 : Int32} {h : ah_H} {r : Int32} {h2 : ah_H} (hf : bX9_letters_23 X.2.2.2 s0 h = some (r, h2)) : Rt X yX9_letters cX9_letters 1 (d + 1) 23 [] [.int s0] h (some (.int r)) h2 := by
  unfold bX9_letters_23 at hf
  cases hf
  exact rt_ret (pc := 23) dX9_letters_23 rfl
noncomputable def bX9_letters_0 (E : ah_E) (a0 : Option Nat) (h : ah_H) : Option (Int32 × ah_H) :=
  (hp_gi h a0 10 9).bind fun v1 =>
  if v1 = 0 then
    (hp_gr h a0 10 2).bind fun v4 =>
    (hp_gr h v4 9 0).bind fun v6 =>
    ob2 (fX8_lettersIn E zd v6 (0 : Int32) h) fun v10 w9 =>
    bX9_letters_23 E v10 w9
  else
  bX9_letters_23 E (-4 : Int32) h
set_option maxRecDepth 20000 in
set_option maxHeartbeats 4000000 in
theorem rX9_letters_0 {X : ah_X} {d : Nat} (hd : 48 ≤ d) {a0 : Option Nat} {h : ah_H} {r : Int32} {h2 : ah_H} (hf : bX9_letters_0 X.2.2.2 a0 h = some (r, h2)) : Rt X yX9_letters cX9_letters 1 (d + 1) 0 [(0, va_rf a0)] [] h (some (.int r)) h2 := by
  unfold bX9_letters_0 at hf
  refine rt_aload_n (pc := 0) (k0 := 0) (x := a0) 0 rfl dX9_letters_0 ?_
  obtain ⟨v1, e2, hf⟩ := ob1 hf
  refine rt_gi (pc := 1) fd_X9_71 dX9_letters_1 e2 ?_
  by_cases c3 : v1 = 0
  · rw [if_pos c3] at hf
    refine rt_if_eq_p (pc := 4) (x := v1) (tgt := 12) (by decide) dX9_letters_4 c3 ?_
    refine rt_aload_n (pc := 12) (k0 := 0) (x := a0) 0 rfl dX9_letters_12 ?_
    obtain ⟨v4, e5, hf⟩ := ob1 hf
    refine rt_gr (pc := 13) fd_X9_26 dX9_letters_13 e5 ?_
    obtain ⟨v6, e7, hf⟩ := ob1 hf
    refine rt_gr (pc := 16) fd_X9_107 dX9_letters_16 e7 ?_
    refine rt_iconst (pc := 19) (n := 0) (v := (0 : Int32)) (by decide) dX9_letters_19 ?_
    obtain ⟨v10, w9, e8, hf⟩ := ob2_of hf
    have g11 := sX8_lettersIn zd d (by unfold zd; omega) _ _ _ _ _ e8
    refine rt_callSN (pc := 20) (As := [va_rf v6, .int (0 : Int32)]) (st := []) me_X8_lettersIn ms_X8_lettersIn wln_X9_118 dX9_letters_20 rfl (by decide) rfl g11 ?_
    exact rt_locals (rt_sub [] rfl) (rX9_letters_23 hd hf)
  rw [if_neg c3] at hf
  refine rt_if_eq_n (pc := 4) (x := v1) (tgt := 12) (by decide) dX9_letters_4 c3 ?_
  refine rt_bipush (pc := 7) (n := -4) (v := (-4 : Int32)) (by decide) dX9_letters_7 ?_
  refine rt_goto (pc := 9) (tgt := 23) (by decide) dX9_letters_9 ?_
  exact rt_locals (rt_sub [] rfl) (rX9_letters_23 hd hf)
noncomputable def fX9_letters (E : ah_E) (a0 : Option Nat) (h : ah_H) : Option (Int32 × ah_H) := if hp_rcv h a0 10 = false then none else bX9_letters_0 E a0 h
set_option maxRecDepth 20000 in
set_option maxHeartbeats 4000000 in
theorem sX9_letters {X : ah_X} (d : Nat) (hd : 49 ≤ d) {a0 : Option Nat} {h : ah_H} {r : Int32} {h2 : ah_H} (hf : fX9_letters X.2.2.2 a0 h = some (r, h2)) : hp_rcv h a0 10 = true ∧ Rn X yX9_letters cX9_letters 1 (some .int) d [va_rf a0] h (some (.int r)) h2 := by
  unfold fX9_letters at hf
  by_cases c0 : hp_rcv h a0 10 = false
  · rw [if_pos c0] at hf; cases hf
  rw [if_neg c0] at hf
  refine ⟨(Bool.not_eq_false _).mp c0, ?_⟩
  obtain ⟨d, rfl⟩ : ∃ k, d = k + 1 := ⟨d - 1, by omega⟩
  exact Rn.of2 me_X9_letters (by simp [lg_sl, rt_cat, cat_i, cat_l]) (ok_i _) (l := [(0, va_rf a0)]) (by simp [lv_args, rt_cat, cat_i, cat_l]) (rX9_letters_0 (by omega) hf)
noncomputable def bX9_pictureIndex_2 (E : ah_E) : Nat → Option Nat → Int32 → Int32 → ah_H → Option (Int32 × ah_H)
  | 0 => fun _ _ _ _ => none
  | n + 1 => fun a0 a1 a2 h =>
  (hp_gr h a0 10 4).bind fun v1 =>
  ob2 (fJx4a65c_size_8abf5 E v1 h) fun v5 w4 =>
  if v5 ≤ a2 then
    some ((-1 : Int32), w4)
  else
  (hp_gr w4 a0 10 4).bind fun v8 =>
  ob2 (fJx4a65c_get_915e3 E v8 a2 w4) fun v12 w11 =>
  if hp_cls w11 v12 7 = false then none else
  (hp_gi w11 v12 7 0).bind fun v15 =>
  if v15 = a1 then
    some (a2, w11)
  else
  bX9_pictureIndex_2 E n a0 a1 (a2 + 1) w11
set_option maxRecDepth 20000 in
set_option maxHeartbeats 4000000 in
theorem rX9_pictureIndex_2 {X : ah_X} {d : Nat} (hd : 2 ≤ d) (n : Nat) : ∀ (a0 : Option Nat) (a1 : Int32) (a2 : Int32) (h : ah_H) (r : Int32) (h2 : ah_H), bX9_pictureIndex_2 X.2.2.2 n a0 a1 a2 h = some (r, h2) → Rt X yX9_pictureIndex cX9_pictureIndex 3 (d + 1) 2 [(0, va_rf a0), (1, .int a1), (2, .int a2)] [] h (some (.int r)) h2 := by
  induction n with
  | zero => intro a0 a1 a2 h r h2 hf; cases hf
  | succ n ih =>
  intro a0 a1 a2 h r h2 hf
  unfold bX9_pictureIndex_2 at hf
  refine rt_iload_n (pc := 2) (k0 := 2) (x := a2) 2 rfl dX9_pictureIndex_2 ?_
  refine rt_aload_n (pc := 3) (k0 := 0) (x := a0) 0 rfl dX9_pictureIndex_3 ?_
  obtain ⟨v1, e2, hf⟩ := ob1 hf
  refine rt_gr (pc := 4) fd_X9_40 dX9_pictureIndex_4 e2 ?_
  obtain ⟨v5, w4, e3, hf⟩ := ob2_of hf
  have g6 := sJx4a65c_size_8abf5 d (by omega) e3
  refine rt_callV (pc := 7) (As := []) (st := [.int a2]) me_Jx4a65c_size_8abf5 mi_Jx4a65c_size_8abf5 wl_X9_98 dX9_pictureIndex_7 rfl (by simp [rt_cat, cat_i, cat_l]) rfl g6.1 g6.2 ?_
  by_cases c7 : v5 ≤ a2
  · rw [if_pos c7] at hf
    refine rt_icmp_ge_p (pc := 10) (x := a2) (z := v5) (tgt := 39) (by decide) dX9_pictureIndex_10 c7 ?_
    refine rt_iconst (pc := 39) (n := -1) (v := (-1 : Int32)) (by decide) dX9_pictureIndex_39 ?_
    cases hf
    exact rt_ret (pc := 40) dX9_pictureIndex_40 rfl
  rw [if_neg c7] at hf
  refine rt_icmp_ge_n (pc := 10) (x := a2) (z := v5) (tgt := 39) (by decide) dX9_pictureIndex_10 c7 ?_
  refine rt_aload_n (pc := 13) (k0 := 0) (x := a0) 0 rfl dX9_pictureIndex_13 ?_
  obtain ⟨v8, e9, hf⟩ := ob1 hf
  refine rt_gr (pc := 14) fd_X9_40 dX9_pictureIndex_14 e9 ?_
  refine rt_iload_n (pc := 17) (k0 := 2) (x := a2) 2 rfl dX9_pictureIndex_17 ?_
  obtain ⟨v12, w11, e10, hf⟩ := ob2_of hf
  have g13 := sJx4a65c_get_915e3 d (by omega) e10
  refine rt_callV (pc := 18) (As := [.int a2]) (st := []) me_Jx4a65c_get_915e3 mi_Jx4a65c_get_915e3 wl_X9_143 dX9_pictureIndex_18 rfl (by decide) rfl g13.1 g13.2 ?_
  by_cases c14 : hp_cls w11 v12 7 = false
  · rw [if_pos c14] at hf; cases hf
  rw [if_neg c14] at hf
  refine rt_cast (pc := 21) (x := v12) (show vwCl[7]? = some (RX6, TX6, 2) from rfl) wc_X9_181 dX9_pictureIndex_21 ((Bool.not_eq_false _).mp c14) ?_
  obtain ⟨v15, e16, hf⟩ := ob1 hf
  refine rt_gi (pc := 24) fd_X9_201 dX9_pictureIndex_24 e16 ?_
  refine rt_iload_n (pc := 27) (k0 := 1) (x := a1) 1 rfl dX9_pictureIndex_27 ?_
  by_cases c17 : v15 = a1
  · rw [if_pos c17] at hf
    refine rt_icmp_ne_p (pc := 28) (x := v15) (z := a1) (tgt := 33) (by decide) dX9_pictureIndex_28 c17 ?_
    refine rt_iload_n (pc := 31) (k0 := 2) (x := a2) 2 rfl dX9_pictureIndex_31 ?_
    cases hf
    exact rt_ret (pc := 32) dX9_pictureIndex_32 rfl
  rw [if_neg c17] at hf
  refine rt_icmp_ne_n (pc := 28) (x := v15) (z := a1) (tgt := 33) (by decide) dX9_pictureIndex_28 c17 ?_
  refine rt_iinc (pc := 33) (i := 2) (n := 1) (x := a2) (v := (a2 + 1)) (l2 := [(2, .int (a2 + 1)), (0, va_rf a0), (1, .int a1)]) 2 rfl rfl (by decide) (by first | rfl | (simp [rt_cat, cat_i, cat_l]; done) | (simp [rt_cat, cat_i, cat_l]; decide)) dX9_pictureIndex_33 ?_
  refine rt_goto (pc := 36) (tgt := 2) (by decide) dX9_pictureIndex_36 ?_
  exact rt_locals (rt_sub [1, 2, 0] rfl) (ih _ _ _ _ _ _ hf)
noncomputable def bX9_pictureIndex_0 (E : ah_E) (a0 : Option Nat) (a1 : Int32) (h : ah_H) : Option (Int32 × ah_H) :=
  bX9_pictureIndex_2 E zf a0 a1 (0 : Int32) h
set_option maxRecDepth 20000 in
set_option maxHeartbeats 4000000 in
theorem rX9_pictureIndex_0 {X : ah_X} {d : Nat} (hd : 2 ≤ d) {a0 : Option Nat} {a1 : Int32} {h : ah_H} {r : Int32} {h2 : ah_H} (hf : bX9_pictureIndex_0 X.2.2.2 a0 a1 h = some (r, h2)) : Rt X yX9_pictureIndex cX9_pictureIndex 3 (d + 1) 0 [(0, va_rf a0), (1, .int a1)] [] h (some (.int r)) h2 := by
  unfold bX9_pictureIndex_0 at hf
  refine rt_iconst (pc := 0) (n := 0) (v := (0 : Int32)) (by decide) dX9_pictureIndex_0 ?_
  refine rt_istore_n (pc := 1) (k0 := 2) (x := (0 : Int32)) (l2 := [(2, .int (0 : Int32)), (0, va_rf a0), (1, .int a1)]) (by decide) (by first | rfl | (simp [rt_cat, cat_i, cat_l]; done) | (simp [rt_cat, cat_i, cat_l]; decide)) dX9_pictureIndex_1 ?_
  exact rt_locals (rt_sub [1, 2, 0] rfl) (rX9_pictureIndex_2 hd zf _ _ _ _ _ _ hf)
noncomputable def fX9_pictureIndex (E : ah_E) (a0 : Option Nat) (a1 : Int32) (h : ah_H) : Option (Int32 × ah_H) := if hp_rcv h a0 10 = false then none else bX9_pictureIndex_0 E a0 a1 h
set_option maxRecDepth 20000 in
set_option maxHeartbeats 4000000 in
theorem sX9_pictureIndex {X : ah_X} (d : Nat) (hd : 3 ≤ d) {a0 : Option Nat} {a1 : Int32} {h : ah_H} {r : Int32} {h2 : ah_H} (hf : fX9_pictureIndex X.2.2.2 a0 a1 h = some (r, h2)) : hp_rcv h a0 10 = true ∧ Rn X yX9_pictureIndex cX9_pictureIndex 3 (some .int) d [va_rf a0, .int a1] h (some (.int r)) h2 := by
  unfold fX9_pictureIndex at hf
  by_cases c0 : hp_rcv h a0 10 = false
  · rw [if_pos c0] at hf; cases hf
  rw [if_neg c0] at hf
  refine ⟨(Bool.not_eq_false _).mp c0, ?_⟩
  obtain ⟨d, rfl⟩ : ∃ k, d = k + 1 := ⟨d - 1, by omega⟩
  exact Rn.of2 me_X9_pictureIndex (by simp [lg_sl, rt_cat, cat_i, cat_l]) (ok_i _) (l := [(0, va_rf a0), (1, .int a1)]) (by simp [lv_args, rt_cat, cat_i, cat_l]) (rX9_pictureIndex_0 (by omega) hf)
noncomputable def bX9_look_0 (E : ah_E) (a0 : Option Nat) (a1 : Int32) (a2 : Int64) (h : ah_H) : Option (Int32 × ah_H) :=
  (hp_gi h a0 10 9).bind fun v1 =>
  if v1 = 0 then
    ob2 (fX9_pictureIndex E a0 a1 h) fun v6 w5 =>
    if 0 ≤ v6 then
      (hp_gr w5 a0 10 4).bind fun v9 =>
      ob2 (fJx4a65c_get_915e3 E v9 v6 w5) fun v13 w12 =>
      if hp_cls w12 v13 7 = false then none else
      (hp_gr w12 v13 7 1).bind fun v16 =>
      ob2 (fX8_rowIn E zd v16 a2 (0 : Int32) w12) fun v20 w19 =>
      ob2 (fX9_load E a0 v20 w19) fun v24 w23 =>
      some (v24, w23)
    else
    some ((-2 : Int32), w5)
  else
  some ((-4 : Int32), h)
set_option maxRecDepth 20000 in
set_option maxHeartbeats 4000000 in
theorem rX9_look_0 {X : ah_X} {d : Nat} (hd : 50 ≤ d) {a0 : Option Nat} {a1 : Int32} {a2 : Int64} {h : ah_H} {r : Int32} {h2 : ah_H} (hf : bX9_look_0 X.2.2.2 a0 a1 a2 h = some (r, h2)) : Rt X yX9_look cX9_look 5 (d + 1) 0 [(0, va_rf a0), (1, .int a1), (2, .long a2)] [] h (some (.int r)) h2 := by
  unfold bX9_look_0 at hf
  refine rt_aload_n (pc := 0) (k0 := 0) (x := a0) 0 rfl dX9_look_0 ?_
  obtain ⟨v1, e2, hf⟩ := ob1 hf
  refine rt_gi (pc := 1) fd_X9_71 dX9_look_1 e2 ?_
  by_cases c3 : v1 = 0
  · rw [if_pos c3] at hf
    refine rt_if_eq_p (pc := 4) (x := v1) (tgt := 10) (by decide) dX9_look_4 c3 ?_
    refine rt_aload_n (pc := 10) (k0 := 0) (x := a0) 0 rfl dX9_look_10 ?_
    refine rt_iload_n (pc := 11) (k0 := 1) (x := a1) 1 rfl dX9_look_11 ?_
    obtain ⟨v6, w5, e4, hf⟩ := ob2_of hf
    have g7 := sX9_pictureIndex d (by omega) e4
    refine rt_callV (pc := 12) (As := [.int a1]) (st := []) me_X9_pictureIndex mi_X9_pictureIndex wl_X9_190 dX9_look_12 rfl (by decide) rfl g7.1 g7.2 ?_
    refine rt_istore (pc := 15) (i := 4) (x := v6) (l2 := [(4, .int v6), (0, va_rf a0), (1, .int a1), (2, .long a2)]) (by decide) (by first | rfl | (simp [rt_cat, cat_i, cat_l]; done) | (simp [rt_cat, cat_i, cat_l]; decide)) dX9_look_15 ?_
    refine rt_iload (pc := 17) (i := 4) (x := v6) 0 rfl dX9_look_17 ?_
    by_cases c8 : 0 ≤ v6
    · rw [if_pos c8] at hf
      refine rt_if_ge_p (pc := 19) (x := v6) (tgt := 25) (by decide) dX9_look_19 c8 ?_
      refine rt_aload_n (pc := 25) (k0 := 0) (x := a0) 1 rfl dX9_look_25 ?_
      refine rt_aload_n (pc := 26) (k0 := 0) (x := a0) 1 rfl dX9_look_26 ?_
      obtain ⟨v9, e10, hf⟩ := ob1 hf
      refine rt_gr (pc := 27) fd_X9_40 dX9_look_27 e10 ?_
      refine rt_iload (pc := 30) (i := 4) (x := v6) 0 rfl dX9_look_30 ?_
      obtain ⟨v13, w12, e11, hf⟩ := ob2_of hf
      have g14 := sJx4a65c_get_915e3 d (by omega) e11
      refine rt_callV (pc := 32) (As := [.int v6]) (st := [va_rf a0]) me_Jx4a65c_get_915e3 mi_Jx4a65c_get_915e3 wl_X9_143 dX9_look_32 rfl (by simp [rt_cat, cat_i, cat_l]) rfl g14.1 g14.2 ?_
      by_cases c15 : hp_cls w12 v13 7 = false
      · rw [if_pos c15] at hf; cases hf
      rw [if_neg c15] at hf
      refine rt_cast (pc := 35) (x := v13) (show vwCl[7]? = some (RX6, TX6, 2) from rfl) wc_X9_181 dX9_look_35 ((Bool.not_eq_false _).mp c15) ?_
      obtain ⟨v16, e17, hf⟩ := ob1 hf
      refine rt_gr (pc := 38) fd_X9_193 dX9_look_38 e17 ?_
      refine rt_lload_n (pc := 41) (k0 := 2) (x := a2) 3 rfl dX9_look_41 ?_
      refine rt_iconst (pc := 42) (n := 0) (v := (0 : Int32)) (by decide) dX9_look_42 ?_
      obtain ⟨v20, w19, e18, hf⟩ := ob2_of hf
      have g21 := sX8_rowIn zd d (by unfold zd; omega) _ _ _ _ _ _ e18
      refine rt_callSN (pc := 43) (As := [va_rf v16, .long a2, .int (0 : Int32)]) (st := [va_rf a0]) me_X8_rowIn ms_X8_rowIn wln_X9_194 dX9_look_43 rfl (by simp [rt_cat, cat_i, cat_l]) rfl g21 ?_
      obtain ⟨v24, w23, e22, hf⟩ := ob2_of hf
      have g25 := sX9_load d (by omega) e22
      refine rt_callV (pc := 46) (As := [va_rf v20]) (st := []) me_X9_load mi_X9_load wl_X9_75 dX9_look_46 rfl (by decide) rfl g25.1 g25.2 ?_
      cases hf
      exact rt_ret (pc := 49) dX9_look_49 rfl
    rw [if_neg c8] at hf
    refine rt_if_ge_n (pc := 19) (x := v6) (tgt := 25) (by decide) dX9_look_19 c8 ?_
    refine rt_bipush (pc := 22) (n := -2) (v := (-2 : Int32)) (by decide) dX9_look_22 ?_
    cases hf
    exact rt_ret (pc := 24) dX9_look_24 rfl
  rw [if_neg c3] at hf
  refine rt_if_eq_n (pc := 4) (x := v1) (tgt := 10) (by decide) dX9_look_4 c3 ?_
  refine rt_bipush (pc := 7) (n := -4) (v := (-4 : Int32)) (by decide) dX9_look_7 ?_
  cases hf
  exact rt_ret (pc := 9) dX9_look_9 rfl
noncomputable def fX9_look (E : ah_E) (a0 : Option Nat) (a1 : Int32) (a2 : Int64) (h : ah_H) : Option (Int32 × ah_H) := if hp_rcv h a0 10 = false then none else bX9_look_0 E a0 a1 a2 h
set_option maxRecDepth 20000 in
set_option maxHeartbeats 4000000 in
theorem sX9_look {X : ah_X} (d : Nat) (hd : 51 ≤ d) {a0 : Option Nat} {a1 : Int32} {a2 : Int64} {h : ah_H} {r : Int32} {h2 : ah_H} (hf : fX9_look X.2.2.2 a0 a1 a2 h = some (r, h2)) : hp_rcv h a0 10 = true ∧ Rn X yX9_look cX9_look 5 (some .int) d [va_rf a0, .int a1, .long a2] h (some (.int r)) h2 := by
  unfold fX9_look at hf
  by_cases c0 : hp_rcv h a0 10 = false
  · rw [if_pos c0] at hf; cases hf
  rw [if_neg c0] at hf
  refine ⟨(Bool.not_eq_false _).mp c0, ?_⟩
  obtain ⟨d, rfl⟩ : ∃ k, d = k + 1 := ⟨d - 1, by omega⟩
  exact Rn.of2 me_X9_look (by simp [lg_sl, rt_cat, cat_i, cat_l]) (ok_i _) (l := [(0, va_rf a0), (1, .int a1), (2, .long a2)]) (by simp [lv_args, rt_cat, cat_i, cat_l]) (rX9_look_0 (by omega) hf)
noncomputable def bX9_met_20 (E : ah_E) (s0 : Int32) (h : ah_H) : Option (Int32 × ah_H) :=
  some (s0, h)
set_option maxRecDepth 20000 in
set_option maxHeartbeats 4000000 in
theorem rX9_met_20 {X : ah_X} {d : Nat} (hd : 4 ≤ d) {s0 : Int32} {h : ah_H} {r : Int32} {h2 : ah_H} (hf : bX9_met_20 X.2.2.2 s0 h = some (r, h2)) : Rt X yX9_met cX9_met 3 (d + 1) 20 [] [.int s0] h (some (.int r)) h2 := by
  unfold bX9_met_20 at hf
  cases hf
  exact rt_ret (pc := 20) dX9_met_20 rfl
noncomputable def bX9_met_0 (E : ah_E) (a0 : Option Nat) (a1 : Int64) (h : ah_H) : Option (Int32 × ah_H) :=
  (hp_gi h a0 10 9).bind fun v1 =>
  if v1 = 0 then
    (hp_gr h a0 10 2).bind fun v4 =>
    ob2 (fX8_lettersOnWay E v4 a1 h) fun v8 w7 =>
    bX9_met_20 E v8 w7
  else
  bX9_met_20 E (-4 : Int32) h
set_option maxRecDepth 20000 in
set_option maxHeartbeats 4000000 in
theorem rX9_met_0 {X : ah_X} {d : Nat} (hd : 4 ≤ d) {a0 : Option Nat} {a1 : Int64} {h : ah_H} {r : Int32} {h2 : ah_H} (hf : bX9_met_0 X.2.2.2 a0 a1 h = some (r, h2)) : Rt X yX9_met cX9_met 3 (d + 1) 0 [(0, va_rf a0), (1, .long a1)] [] h (some (.int r)) h2 := by
  unfold bX9_met_0 at hf
  refine rt_aload_n (pc := 0) (k0 := 0) (x := a0) 0 rfl dX9_met_0 ?_
  obtain ⟨v1, e2, hf⟩ := ob1 hf
  refine rt_gi (pc := 1) fd_X9_71 dX9_met_1 e2 ?_
  by_cases c3 : v1 = 0
  · rw [if_pos c3] at hf
    refine rt_if_eq_p (pc := 4) (x := v1) (tgt := 12) (by decide) dX9_met_4 c3 ?_
    refine rt_aload_n (pc := 12) (k0 := 0) (x := a0) 0 rfl dX9_met_12 ?_
    obtain ⟨v4, e5, hf⟩ := ob1 hf
    refine rt_gr (pc := 13) fd_X9_26 dX9_met_13 e5 ?_
    refine rt_lload_n (pc := 16) (k0 := 1) (x := a1) 1 rfl dX9_met_16 ?_
    obtain ⟨v8, w7, e6, hf⟩ := ob2_of hf
    have g9 := sX8_lettersOnWay d (by omega) e6
    refine rt_callV (pc := 17) (As := [.long a1]) (st := []) me_X8_lettersOnWay mi_X8_lettersOnWay wl_X9_166 dX9_met_17 rfl (by decide) rfl g9.1 g9.2 ?_
    exact rt_locals (rt_sub [] rfl) (rX9_met_20 hd hf)
  rw [if_neg c3] at hf
  refine rt_if_eq_n (pc := 4) (x := v1) (tgt := 12) (by decide) dX9_met_4 c3 ?_
  refine rt_bipush (pc := 7) (n := -4) (v := (-4 : Int32)) (by decide) dX9_met_7 ?_
  refine rt_goto (pc := 9) (tgt := 20) (by decide) dX9_met_9 ?_
  exact rt_locals (rt_sub [] rfl) (rX9_met_20 hd hf)
noncomputable def fX9_met (E : ah_E) (a0 : Option Nat) (a1 : Int64) (h : ah_H) : Option (Int32 × ah_H) := if hp_rcv h a0 10 = false then none else bX9_met_0 E a0 a1 h
set_option maxRecDepth 20000 in
set_option maxHeartbeats 4000000 in
theorem sX9_met {X : ah_X} (d : Nat) (hd : 5 ≤ d) {a0 : Option Nat} {a1 : Int64} {h : ah_H} {r : Int32} {h2 : ah_H} (hf : fX9_met X.2.2.2 a0 a1 h = some (r, h2)) : hp_rcv h a0 10 = true ∧ Rn X yX9_met cX9_met 3 (some .int) d [va_rf a0, .long a1] h (some (.int r)) h2 := by
  unfold fX9_met at hf
  by_cases c0 : hp_rcv h a0 10 = false
  · rw [if_pos c0] at hf; cases hf
  rw [if_neg c0] at hf
  refine ⟨(Bool.not_eq_false _).mp c0, ?_⟩
  obtain ⟨d, rfl⟩ : ∃ k, d = k + 1 := ⟨d - 1, by omega⟩
  exact Rn.of2 me_X9_met (by simp [lg_sl, rt_cat, cat_i, cat_l]) (ok_i _) (l := [(0, va_rf a0), (1, .long a1)]) (by simp [lv_args, rt_cat, cat_i, cat_l]) (rX9_met_0 (by omega) hf)
noncomputable def bX9_findEntry_18 (E : ah_E) (h : ah_H) : Option (Int32 × ah_H) :=
  some ((0 : Int32), h)
set_option maxRecDepth 20000 in
set_option maxHeartbeats 4000000 in
theorem rX9_findEntry_18 {X : ah_X} {d : Nat} (hd : 2 ≤ d)  {h : ah_H} {r : Int32} {h2 : ah_H} (hf : bX9_findEntry_18 X.2.2.2  h = some (r, h2)) : Rt X yX9_findEntry cX9_findEntry 2 (d + 1) 18 [] [] h (some (.int r)) h2 := by
  unfold bX9_findEntry_18 at hf
  refine rt_iconst (pc := 18) (n := 0) (v := (0 : Int32)) (by decide) dX9_findEntry_18 ?_
  cases hf
  exact rt_ret (pc := 19) dX9_findEntry_19 rfl
noncomputable def bX9_findEntry_0 (E : ah_E) (a0 : Option Nat) (a1 : Int32) (h : ah_H) : Option (Int32 × ah_H) :=
  if a1 < 0 then
    bX9_findEntry_18 E  h
  else
  (hp_gr h a0 10 3).bind fun v2 =>
  (hp_gr h v2 2 0).bind fun v4 =>
  ob2 (fJx4a65c_size_8abf5 E v4 h) fun v8 w7 =>
  if a1 < v8 then
    (hp_gr w7 a0 10 3).bind fun v11 =>
    (hp_gr w7 v11 2 0).bind fun v13 =>
    ob2 (fJx4a65c_get_915e3 E v13 a1 w7) fun v17 w16 =>
    if hp_cls w16 v17 3 = false then none else
    (hp_gl w16 v17 3 0).bind fun v20 =>
    (hp_pv w16 a0 10 8 (.long v20)).bind fun w22 =>
    some ((1 : Int32), w22)
  else
  bX9_findEntry_18 E  w7
set_option maxRecDepth 20000 in
set_option maxHeartbeats 4000000 in
theorem rX9_findEntry_0 {X : ah_X} {d : Nat} (hd : 2 ≤ d) {a0 : Option Nat} {a1 : Int32} {h : ah_H} {r : Int32} {h2 : ah_H} (hf : bX9_findEntry_0 X.2.2.2 a0 a1 h = some (r, h2)) : Rt X yX9_findEntry cX9_findEntry 2 (d + 1) 0 [(0, va_rf a0), (1, .int a1)] [] h (some (.int r)) h2 := by
  unfold bX9_findEntry_0 at hf
  refine rt_iload_n (pc := 0) (k0 := 1) (x := a1) 1 rfl dX9_findEntry_0 ?_
  by_cases c1 : a1 < 0
  · rw [if_pos c1] at hf
    refine rt_if_lt_p (pc := 1) (x := a1) (tgt := 18) (by decide) dX9_findEntry_1 c1 ?_
    exact rt_locals (rt_sub [] rfl) (rX9_findEntry_18 hd hf)
  rw [if_neg c1] at hf
  refine rt_if_lt_n (pc := 1) (x := a1) (tgt := 18) (by decide) dX9_findEntry_1 c1 ?_
  refine rt_iload_n (pc := 4) (k0 := 1) (x := a1) 1 rfl dX9_findEntry_4 ?_
  refine rt_aload_n (pc := 5) (k0 := 0) (x := a0) 0 rfl dX9_findEntry_5 ?_
  obtain ⟨v2, e3, hf⟩ := ob1 hf
  refine rt_gr (pc := 6) fd_X9_33 dX9_findEntry_6 e3 ?_
  obtain ⟨v4, e5, hf⟩ := ob1 hf
  refine rt_gr (pc := 9) fd_X9_95 dX9_findEntry_9 e5 ?_
  obtain ⟨v8, w7, e6, hf⟩ := ob2_of hf
  have g9 := sJx4a65c_size_8abf5 d (by omega) e6
  refine rt_callV (pc := 12) (As := []) (st := [.int a1]) me_Jx4a65c_size_8abf5 mi_Jx4a65c_size_8abf5 wl_X9_98 dX9_findEntry_12 rfl (by simp [rt_cat, cat_i, cat_l]) rfl g9.1 g9.2 ?_
  by_cases c10 : a1 < v8
  · rw [if_pos c10] at hf
    refine rt_icmp_lt_p (pc := 15) (x := a1) (z := v8) (tgt := 20) (by decide) dX9_findEntry_15 c10 ?_
    refine rt_aload_n (pc := 20) (k0 := 0) (x := a0) 0 rfl dX9_findEntry_20 ?_
    refine rt_aload_n (pc := 21) (k0 := 0) (x := a0) 0 rfl dX9_findEntry_21 ?_
    obtain ⟨v11, e12, hf⟩ := ob1 hf
    refine rt_gr (pc := 22) fd_X9_33 dX9_findEntry_22 e12 ?_
    obtain ⟨v13, e14, hf⟩ := ob1 hf
    refine rt_gr (pc := 25) fd_X9_95 dX9_findEntry_25 e14 ?_
    refine rt_iload_n (pc := 28) (k0 := 1) (x := a1) 1 rfl dX9_findEntry_28 ?_
    obtain ⟨v17, w16, e15, hf⟩ := ob2_of hf
    have g18 := sJx4a65c_get_915e3 d (by omega) e15
    refine rt_callV (pc := 29) (As := [.int a1]) (st := [va_rf a0]) me_Jx4a65c_get_915e3 mi_Jx4a65c_get_915e3 wl_X9_143 dX9_findEntry_29 rfl (by simp [rt_cat, cat_i, cat_l]) rfl g18.1 g18.2 ?_
    by_cases c19 : hp_cls w16 v17 3 = false
    · rw [if_pos c19] at hf; cases hf
    rw [if_neg c19] at hf
    refine rt_cast (pc := 32) (x := v17) (show vwCl[3]? = some (RX2, TX2, 2) from rfl) wc_X9_147 dX9_findEntry_32 ((Bool.not_eq_false _).mp c19) ?_
    obtain ⟨v20, e21, hf⟩ := ob1 hf
    refine rt_gl (pc := 35) fd_X9_149 dX9_findEntry_35 e21 ?_
    obtain ⟨w22, e23, hf⟩ := ob1 hf
    refine rt_putf (pc := 38) (x := a0) fw_X9_91 (Or.inl rfl) (pf_l _).1 (pf_l _).2 dX9_findEntry_38 e23 ?_
    refine rt_iconst (pc := 41) (n := 1) (v := (1 : Int32)) (by decide) dX9_findEntry_41 ?_
    cases hf
    exact rt_ret (pc := 42) dX9_findEntry_42 rfl
  rw [if_neg c10] at hf
  refine rt_icmp_lt_n (pc := 15) (x := a1) (z := v8) (tgt := 20) (by decide) dX9_findEntry_15 c10 ?_
  exact rt_locals (rt_sub [] rfl) (rX9_findEntry_18 hd hf)
noncomputable def fX9_findEntry (E : ah_E) (a0 : Option Nat) (a1 : Int32) (h : ah_H) : Option (Int32 × ah_H) := if hp_rcv h a0 10 = false then none else bX9_findEntry_0 E a0 a1 h
set_option maxRecDepth 20000 in
set_option maxHeartbeats 4000000 in
theorem sX9_findEntry {X : ah_X} (d : Nat) (hd : 3 ≤ d) {a0 : Option Nat} {a1 : Int32} {h : ah_H} {r : Int32} {h2 : ah_H} (hf : fX9_findEntry X.2.2.2 a0 a1 h = some (r, h2)) : hp_rcv h a0 10 = true ∧ Rn X yX9_findEntry cX9_findEntry 2 (some .int) d [va_rf a0, .int a1] h (some (.int r)) h2 := by
  unfold fX9_findEntry at hf
  by_cases c0 : hp_rcv h a0 10 = false
  · rw [if_pos c0] at hf; cases hf
  rw [if_neg c0] at hf
  refine ⟨(Bool.not_eq_false _).mp c0, ?_⟩
  obtain ⟨d, rfl⟩ : ∃ k, d = k + 1 := ⟨d - 1, by omega⟩
  exact Rn.of2 me_X9_findEntry (by simp [lg_sl, rt_cat, cat_i, cat_l]) (ok_i _) (l := [(0, va_rf a0), (1, .int a1)]) (by simp [lv_args, rt_cat, cat_i, cat_l]) (rX9_findEntry_0 (by omega) hf)
noncomputable def bX9_next_0 (E : ah_E) (a0 : Option Nat) (a1 : Int64) (h : ah_H) : Option (Int32 × ah_H) :=
  (hp_gi h a0 10 9).bind fun v1 =>
  if v1 = 0 then
    (hp_gr h a0 10 3).bind fun v4 =>
    ob2 (fX1_firstNotBelow E v4 a1 h) fun v8 w7 =>
    ob2 (fX9_findEntry E a0 v8 w7) fun v12 w11 =>
    some (v12, w11)
  else
  some ((-4 : Int32), h)
set_option maxRecDepth 20000 in
set_option maxHeartbeats 4000000 in
theorem rX9_next_0 {X : ah_X} {d : Nat} (hd : 3 ≤ d) {a0 : Option Nat} {a1 : Int64} {h : ah_H} {r : Int32} {h2 : ah_H} (hf : bX9_next_0 X.2.2.2 a0 a1 h = some (r, h2)) : Rt X yX9_next cX9_next 3 (d + 1) 0 [(0, va_rf a0), (1, .long a1)] [] h (some (.int r)) h2 := by
  unfold bX9_next_0 at hf
  refine rt_aload_n (pc := 0) (k0 := 0) (x := a0) 0 rfl dX9_next_0 ?_
  obtain ⟨v1, e2, hf⟩ := ob1 hf
  refine rt_gi (pc := 1) fd_X9_71 dX9_next_1 e2 ?_
  by_cases c3 : v1 = 0
  · rw [if_pos c3] at hf
    refine rt_if_eq_p (pc := 4) (x := v1) (tgt := 10) (by decide) dX9_next_4 c3 ?_
    refine rt_aload_n (pc := 10) (k0 := 0) (x := a0) 0 rfl dX9_next_10 ?_
    refine rt_aload_n (pc := 11) (k0 := 0) (x := a0) 0 rfl dX9_next_11 ?_
    obtain ⟨v4, e5, hf⟩ := ob1 hf
    refine rt_gr (pc := 12) fd_X9_33 dX9_next_12 e5 ?_
    refine rt_lload_n (pc := 15) (k0 := 1) (x := a1) 1 rfl dX9_next_15 ?_
    obtain ⟨v8, w7, e6, hf⟩ := ob2_of hf
    have g9 := sX1_firstNotBelow d (by omega) e6
    refine rt_callV (pc := 16) (As := [.long a1]) (st := [va_rf a0]) me_X1_firstNotBelow mi_X1_firstNotBelow wl_X9_79 dX9_next_16 rfl (by simp [rt_cat, cat_i, cat_l]) rfl g9.1 g9.2 ?_
    obtain ⟨v12, w11, e10, hf⟩ := ob2_of hf
    have g13 := sX9_findEntry d (by omega) e10
    refine rt_callV (pc := 19) (As := [.int v8]) (st := []) me_X9_findEntry mi_X9_findEntry wl_X9_83 dX9_next_19 rfl (by decide) rfl g13.1 g13.2 ?_
    cases hf
    exact rt_ret (pc := 22) dX9_next_22 rfl
  rw [if_neg c3] at hf
  refine rt_if_eq_n (pc := 4) (x := v1) (tgt := 10) (by decide) dX9_next_4 c3 ?_
  refine rt_bipush (pc := 7) (n := -4) (v := (-4 : Int32)) (by decide) dX9_next_7 ?_
  cases hf
  exact rt_ret (pc := 9) dX9_next_9 rfl
noncomputable def fX9_next (E : ah_E) (a0 : Option Nat) (a1 : Int64) (h : ah_H) : Option (Int32 × ah_H) := if hp_rcv h a0 10 = false then none else bX9_next_0 E a0 a1 h
set_option maxRecDepth 20000 in
set_option maxHeartbeats 4000000 in
theorem sX9_next {X : ah_X} (d : Nat) (hd : 4 ≤ d) {a0 : Option Nat} {a1 : Int64} {h : ah_H} {r : Int32} {h2 : ah_H} (hf : fX9_next X.2.2.2 a0 a1 h = some (r, h2)) : hp_rcv h a0 10 = true ∧ Rn X yX9_next cX9_next 3 (some .int) d [va_rf a0, .long a1] h (some (.int r)) h2 := by
  unfold fX9_next at hf
  by_cases c0 : hp_rcv h a0 10 = false
  · rw [if_pos c0] at hf; cases hf
  rw [if_neg c0] at hf
  refine ⟨(Bool.not_eq_false _).mp c0, ?_⟩
  obtain ⟨d, rfl⟩ : ∃ k, d = k + 1 := ⟨d - 1, by omega⟩
  exact Rn.of2 me_X9_next (by simp [lg_sl, rt_cat, cat_i, cat_l]) (ok_i _) (l := [(0, va_rf a0), (1, .long a1)]) (by simp [lv_args, rt_cat, cat_i, cat_l]) (rX9_next_0 (by omega) hf)
noncomputable def bX9_number_32 (E : ah_E) (s0 : Int32) (h : ah_H) : Option (Int32 × ah_H) :=
  some (s0, h)
set_option maxRecDepth 20000 in
set_option maxHeartbeats 4000000 in
theorem rX9_number_32 {X : ah_X} {d : Nat} {s0 : Int32} {h : ah_H} {r : Int32} {h2 : ah_H} (hf : bX9_number_32 X.2.2.2 s0 h = some (r, h2)) : Rt X yX9_number cX9_number 2 d 32 [] [.int s0] h (some (.int r)) h2 := by
  unfold bX9_number_32 at hf
  cases hf
  exact rt_ret (pc := 32) dX9_number_32 rfl
noncomputable def bX9_number_0 (E : ah_E) (a0 : Option Nat) (a1 : Int32) (h : ah_H) : Option (Int32 × ah_H) :=
  (hp_gi h a0 10 9).bind fun v1 =>
  if v1 = 0 then
    if a1 = 0 then
      (hp_gi h a0 10 6).bind fun v5 =>
      some (v5, h)
    else
    if a1 = (1 : Int32) then
      (hp_gi h a0 10 7).bind fun v8 =>
      bX9_number_32 E v8 h
    else
    bX9_number_32 E (-1 : Int32) h
  else
  some ((-4 : Int32), h)
set_option maxRecDepth 20000 in
set_option maxHeartbeats 4000000 in
theorem rX9_number_0 {X : ah_X} {d : Nat} {a0 : Option Nat} {a1 : Int32} {h : ah_H} {r : Int32} {h2 : ah_H} (hf : bX9_number_0 X.2.2.2 a0 a1 h = some (r, h2)) : Rt X yX9_number cX9_number 2 d 0 [(0, va_rf a0), (1, .int a1)] [] h (some (.int r)) h2 := by
  unfold bX9_number_0 at hf
  refine rt_aload_n (pc := 0) (k0 := 0) (x := a0) 0 rfl dX9_number_0 ?_
  obtain ⟨v1, e2, hf⟩ := ob1 hf
  refine rt_gi (pc := 1) fd_X9_71 dX9_number_1 e2 ?_
  by_cases c3 : v1 = 0
  · rw [if_pos c3] at hf
    refine rt_if_eq_p (pc := 4) (x := v1) (tgt := 10) (by decide) dX9_number_4 c3 ?_
    refine rt_iload_n (pc := 10) (k0 := 1) (x := a1) 1 rfl dX9_number_10 ?_
    by_cases c4 : a1 = 0
    · rw [if_pos c4] at hf
      refine rt_if_ne_p (pc := 11) (x := a1) (tgt := 19) (by decide) dX9_number_11 c4 ?_
      refine rt_aload_n (pc := 14) (k0 := 0) (x := a0) 0 rfl dX9_number_14 ?_
      obtain ⟨v5, e6, hf⟩ := ob1 hf
      refine rt_gi (pc := 15) fd_X9_236 dX9_number_15 e6 ?_
      cases hf
      exact rt_ret (pc := 18) dX9_number_18 rfl
    rw [if_neg c4] at hf
    refine rt_if_ne_n (pc := 11) (x := a1) (tgt := 19) (by decide) dX9_number_11 c4 ?_
    refine rt_iload_n (pc := 19) (k0 := 1) (x := a1) 1 rfl dX9_number_19 ?_
    refine rt_iconst (pc := 20) (n := 1) (v := (1 : Int32)) (by decide) dX9_number_20 ?_
    by_cases c7 : a1 = (1 : Int32)
    · rw [if_pos c7] at hf
      refine rt_icmp_ne_p (pc := 21) (x := a1) (z := (1 : Int32)) (tgt := 31) (by decide) dX9_number_21 c7 ?_
      refine rt_aload_n (pc := 24) (k0 := 0) (x := a0) 0 rfl dX9_number_24 ?_
      obtain ⟨v8, e9, hf⟩ := ob1 hf
      refine rt_gi (pc := 25) fd_X9_219 dX9_number_25 e9 ?_
      refine rt_goto (pc := 28) (tgt := 32) (by decide) dX9_number_28 ?_
      exact rt_locals (rt_sub [] rfl) (rX9_number_32 hf)
    rw [if_neg c7] at hf
    refine rt_icmp_ne_n (pc := 21) (x := a1) (z := (1 : Int32)) (tgt := 31) (by decide) dX9_number_21 c7 ?_
    refine rt_iconst (pc := 31) (n := -1) (v := (-1 : Int32)) (by decide) dX9_number_31 ?_
    exact rt_locals (rt_sub [] rfl) (rX9_number_32 hf)
  rw [if_neg c3] at hf
  refine rt_if_eq_n (pc := 4) (x := v1) (tgt := 10) (by decide) dX9_number_4 c3 ?_
  refine rt_bipush (pc := 7) (n := -4) (v := (-4 : Int32)) (by decide) dX9_number_7 ?_
  cases hf
  exact rt_ret (pc := 9) dX9_number_9 rfl
noncomputable def fX9_number (E : ah_E) (a0 : Option Nat) (a1 : Int32) (h : ah_H) : Option (Int32 × ah_H) := if hp_rcv h a0 10 = false then none else bX9_number_0 E a0 a1 h
set_option maxRecDepth 20000 in
set_option maxHeartbeats 4000000 in
theorem sX9_number {X : ah_X} (d : Nat) (hd : 0 ≤ d) {a0 : Option Nat} {a1 : Int32} {h : ah_H} {r : Int32} {h2 : ah_H} (hf : fX9_number X.2.2.2 a0 a1 h = some (r, h2)) : hp_rcv h a0 10 = true ∧ Rn X yX9_number cX9_number 2 (some .int) d [va_rf a0, .int a1] h (some (.int r)) h2 := by
  unfold fX9_number at hf
  by_cases c0 : hp_rcv h a0 10 = false
  · rw [if_pos c0] at hf; cases hf
  rw [if_neg c0] at hf
  refine ⟨(Bool.not_eq_false _).mp c0, ?_⟩
  exact Rn.of2 me_X9_number (by simp [lg_sl, rt_cat, cat_i, cat_l]) (ok_i _) (l := [(0, va_rf a0), (1, .int a1)]) (by simp [lv_args, rt_cat, cat_i, cat_l]) (rX9_number_0 hf)
noncomputable def bX9_page_72 (E : ah_E) (s0 : Int32) (h : ah_H) : Option (Int32 × ah_H) :=
  some (s0, h)
set_option maxRecDepth 20000 in
set_option maxHeartbeats 4000000 in
theorem rX9_page_72 {X : ah_X} {d : Nat} (hd : 94 ≤ d) {s0 : Int32} {h : ah_H} {r : Int32} {h2 : ah_H} (hf : bX9_page_72 X.2.2.2 s0 h = some (r, h2)) : Rt X yX9_page cX9_page 4 (d + 1) 72 [] [.int s0] h (some (.int r)) h2 := by
  unfold bX9_page_72 at hf
  cases hf
  exact rt_ret (pc := 72) dX9_page_72 rfl
noncomputable def bX9_page_0 (E : ah_E) (a0 : Option Nat) (a1 : Int32) (a2 : Int32) (h : ah_H) : Option (Int32 × ah_H) :=
  (hp_gi h a0 10 9).bind fun v1 =>
  if v1 = 0 then
    (hp_gr h a0 10 2).bind fun v4 =>
    (hp_gr h v4 9 0).bind fun v6 =>
    ob2 (fX8_pageAt E zd v6 a1 (0 : Int32) h) fun v10 w9 =>
    if v10 = none then
      some ((-1 : Int32), w9)
    else
    if a2 = 0 then
      ob2 (fX5_isLeaf E v10 w9) fun v16 w15 =>
      if v16 = 0 then
        bX9_page_72 E (1 : Int32) w15
      else
      bX9_page_72 E (0 : Int32) w15
    else
    if a2 = 1 then
      ob2 (fX5_width E v10 w9) fun v22 w21 =>
      some (v22, w21)
    else
    if a2 = 2 then
      (hp_gr w9 v10 6 3).bind fun v25 =>
      ob2 (fJx4a65c_size_8abf5 E v25 w9) fun v29 w28 =>
      some (v29, w28)
    else
    if a2 = 3 then
      (hp_gi w9 v10 6 4).bind fun v32 =>
      some (v32, w9)
    else
    some ((-1 : Int32), w9)
  else
  some ((-4 : Int32), h)
set_option maxRecDepth 20000 in
set_option maxHeartbeats 4000000 in
theorem rX9_page_0 {X : ah_X} {d : Nat} (hd : 94 ≤ d) {a0 : Option Nat} {a1 : Int32} {a2 : Int32} {h : ah_H} {r : Int32} {h2 : ah_H} (hf : bX9_page_0 X.2.2.2 a0 a1 a2 h = some (r, h2)) : Rt X yX9_page cX9_page 4 (d + 1) 0 [(0, va_rf a0), (1, .int a1), (2, .int a2)] [] h (some (.int r)) h2 := by
  unfold bX9_page_0 at hf
  refine rt_aload_n (pc := 0) (k0 := 0) (x := a0) 0 rfl dX9_page_0 ?_
  obtain ⟨v1, e2, hf⟩ := ob1 hf
  refine rt_gi (pc := 1) fd_X9_71 dX9_page_1 e2 ?_
  by_cases c3 : v1 = 0
  · rw [if_pos c3] at hf
    refine rt_if_eq_p (pc := 4) (x := v1) (tgt := 10) (by decide) dX9_page_4 c3 ?_
    refine rt_aload_n (pc := 10) (k0 := 0) (x := a0) 0 rfl dX9_page_10 ?_
    obtain ⟨v4, e5, hf⟩ := ob1 hf
    refine rt_gr (pc := 11) fd_X9_26 dX9_page_11 e5 ?_
    obtain ⟨v6, e7, hf⟩ := ob1 hf
    refine rt_gr (pc := 14) fd_X9_107 dX9_page_14 e7 ?_
    refine rt_iload_n (pc := 17) (k0 := 1) (x := a1) 1 rfl dX9_page_17 ?_
    refine rt_iconst (pc := 18) (n := 0) (v := (0 : Int32)) (by decide) dX9_page_18 ?_
    obtain ⟨v10, w9, e8, hf⟩ := ob2_of hf
    have g11 := sX8_pageAt zd d (by unfold zd; omega) _ _ _ _ _ _ e8
    refine rt_callSN (pc := 19) (As := [va_rf v6, .int a1, .int (0 : Int32)]) (st := []) me_X8_pageAt ms_X8_pageAt wln_X9_121 dX9_page_19 rfl (by decide) rfl g11 ?_
    refine rt_astore_n (pc := 22) (k0 := 3) (x := v10) (l2 := [(3, va_rf v10), (0, va_rf a0), (1, .int a1), (2, .int a2)]) (by decide) (by first | rfl | (simp [rt_cat, cat_i, cat_l]; done) | (simp [rt_cat, cat_i, cat_l]; decide)) dX9_page_22 ?_
    refine rt_aload_n (pc := 23) (k0 := 3) (x := v10) 0 rfl dX9_page_23 ?_
    by_cases c12 : v10 = none
    · rw [if_pos c12] at hf
      refine rt_ifnonnull_p (pc := 24) (x := v10) (tgt := 29) (by decide) dX9_page_24 c12 ?_
      refine rt_iconst (pc := 27) (n := -1) (v := (-1 : Int32)) (by decide) dX9_page_27 ?_
      cases hf
      exact rt_ret (pc := 28) dX9_page_28 rfl
    rw [if_neg c12] at hf
    refine rt_ifnonnull_n (pc := 24) (x := v10) (tgt := 29) (by decide) dX9_page_24 c12 ?_
    refine rt_iload_n (pc := 29) (k0 := 2) (x := a2) 3 rfl dX9_page_29 ?_
    by_cases c13 : a2 = 0
    · rw [if_pos c13] at hf
      refine rt_tableIn (pc := 30) (x := a2) (off := 30) (tgt := 60) dX9_page_30 (by rw [c13]; decide) (by rw [c13]; decide) (by rw [c13]; rfl) (by decide) ?_
      refine rt_aload_n (pc := 60) (k0 := 3) (x := v10) 0 rfl dX9_page_60 ?_
      obtain ⟨v16, w15, e14, hf⟩ := ob2_of hf
      have g17 := sX5_isLeaf d (by omega) e14
      refine rt_callV (pc := 61) (As := []) (st := []) me_X5_isLeaf mi_X5_isLeaf wl_X9_125 dX9_page_61 rfl (by decide) rfl g17.1 g17.2 ?_
      by_cases c18 : v16 = 0
      · rw [if_pos c18] at hf
        refine rt_if_eq_p (pc := 64) (x := v16) (tgt := 71) (by decide) dX9_page_64 c18 ?_
        refine rt_iconst (pc := 71) (n := 1) (v := (1 : Int32)) (by decide) dX9_page_71 ?_
        exact rt_locals (rt_sub [] rfl) (rX9_page_72 hd hf)
      rw [if_neg c18] at hf
      refine rt_if_eq_n (pc := 64) (x := v16) (tgt := 71) (by decide) dX9_page_64 c18 ?_
      refine rt_iconst (pc := 67) (n := 0) (v := (0 : Int32)) (by decide) dX9_page_67 ?_
      refine rt_goto (pc := 68) (tgt := 72) (by decide) dX9_page_68 ?_
      exact rt_locals (rt_sub [] rfl) (rX9_page_72 hd hf)
    rw [if_neg c13] at hf
    by_cases c19 : a2 = 1
    · rw [if_pos c19] at hf
      refine rt_tableIn (pc := 30) (x := a2) (off := 43) (tgt := 73) dX9_page_30 (by rw [c19]; decide) (by rw [c19]; decide) (by rw [c19]; rfl) (by decide) ?_
      refine rt_aload_n (pc := 73) (k0 := 3) (x := v10) 0 rfl dX9_page_73 ?_
      obtain ⟨v22, w21, e20, hf⟩ := ob2_of hf
      have g23 := sX5_width d (by omega) e20
      refine rt_callV (pc := 74) (As := []) (st := []) me_X5_width mi_X5_width wl_X9_131 dX9_page_74 rfl (by decide) rfl g23.1 g23.2 ?_
      cases hf
      exact rt_ret (pc := 77) dX9_page_77 rfl
    rw [if_neg c19] at hf
    by_cases c24 : a2 = 2
    · rw [if_pos c24] at hf
      refine rt_tableIn (pc := 30) (x := a2) (off := 48) (tgt := 78) dX9_page_30 (by rw [c24]; decide) (by rw [c24]; decide) (by rw [c24]; rfl) (by decide) ?_
      refine rt_aload_n (pc := 78) (k0 := 3) (x := v10) 0 rfl dX9_page_78 ?_
      obtain ⟨v25, e26, hf⟩ := ob1 hf
      refine rt_gr (pc := 79) fd_X9_134 dX9_page_79 e26 ?_
      obtain ⟨v29, w28, e27, hf⟩ := ob2_of hf
      have g30 := sJx4a65c_size_8abf5 d (by omega) e27
      refine rt_callV (pc := 82) (As := []) (st := []) me_Jx4a65c_size_8abf5 mi_Jx4a65c_size_8abf5 wl_X9_98 dX9_page_82 rfl (by decide) rfl g30.1 g30.2 ?_
      cases hf
      exact rt_ret (pc := 85) dX9_page_85 rfl
    rw [if_neg c24] at hf
    by_cases c31 : a2 = 3
    · rw [if_pos c31] at hf
      refine rt_tableIn (pc := 30) (x := a2) (off := 56) (tgt := 86) dX9_page_30 (by rw [c31]; decide) (by rw [c31]; decide) (by rw [c31]; rfl) (by decide) ?_
      refine rt_aload_n (pc := 86) (k0 := 3) (x := v10) 0 rfl dX9_page_86 ?_
      obtain ⟨v32, e33, hf⟩ := ob1 hf
      refine rt_gi (pc := 87) fd_X9_137 dX9_page_87 e33 ?_
      cases hf
      exact rt_ret (pc := 90) dX9_page_90 rfl
    rw [if_neg c31] at hf
    refine rt_tableOut (pc := 30) (x := a2) (tgt := 91) (by decide) dX9_page_30 (by have q0 := lv_neT (a := 0) c13 (by decide); have q1 := lv_neT (a := 1) c19 (by decide); have q2 := lv_neT (a := 2) c24 (by decide); have q3 := lv_neT (a := 3) c31 (by decide); omega) ?_
    refine rt_iconst (pc := 91) (n := -1) (v := (-1 : Int32)) (by decide) dX9_page_91 ?_
    cases hf
    exact rt_ret (pc := 92) dX9_page_92 rfl
  rw [if_neg c3] at hf
  refine rt_if_eq_n (pc := 4) (x := v1) (tgt := 10) (by decide) dX9_page_4 c3 ?_
  refine rt_bipush (pc := 7) (n := -4) (v := (-4 : Int32)) (by decide) dX9_page_7 ?_
  cases hf
  exact rt_ret (pc := 9) dX9_page_9 rfl
noncomputable def fX9_page (E : ah_E) (a0 : Option Nat) (a1 : Int32) (a2 : Int32) (h : ah_H) : Option (Int32 × ah_H) := if hp_rcv h a0 10 = false then none else bX9_page_0 E a0 a1 a2 h
set_option maxRecDepth 20000 in
set_option maxHeartbeats 4000000 in
theorem sX9_page {X : ah_X} (d : Nat) (hd : 95 ≤ d) {a0 : Option Nat} {a1 : Int32} {a2 : Int32} {h : ah_H} {r : Int32} {h2 : ah_H} (hf : fX9_page X.2.2.2 a0 a1 a2 h = some (r, h2)) : hp_rcv h a0 10 = true ∧ Rn X yX9_page cX9_page 4 (some .int) d [va_rf a0, .int a1, .int a2] h (some (.int r)) h2 := by
  unfold fX9_page at hf
  by_cases c0 : hp_rcv h a0 10 = false
  · rw [if_pos c0] at hf; cases hf
  rw [if_neg c0] at hf
  refine ⟨(Bool.not_eq_false _).mp c0, ?_⟩
  obtain ⟨d, rfl⟩ : ∃ k, d = k + 1 := ⟨d - 1, by omega⟩
  exact Rn.of2 me_X9_page (by simp [lg_sl, rt_cat, cat_i, cat_l]) (ok_i _) (l := [(0, va_rf a0), (1, .int a1), (2, .int a2)]) (by simp [lv_args, rt_cat, cat_i, cat_l]) (rX9_page_0 (by omega) hf)
noncomputable def bX9_pages_23 (E : ah_E) (s0 : Int32) (h : ah_H) : Option (Int32 × ah_H) :=
  some (s0, h)
set_option maxRecDepth 20000 in
set_option maxHeartbeats 4000000 in
theorem rX9_pages_23 {X : ah_X} {d : Nat} (hd : 48 ≤ d) {s0 : Int32} {h : ah_H} {r : Int32} {h2 : ah_H} (hf : bX9_pages_23 X.2.2.2 s0 h = some (r, h2)) : Rt X yX9_pages cX9_pages 1 (d + 1) 23 [] [.int s0] h (some (.int r)) h2 := by
  unfold bX9_pages_23 at hf
  cases hf
  exact rt_ret (pc := 23) dX9_pages_23 rfl
noncomputable def bX9_pages_0 (E : ah_E) (a0 : Option Nat) (h : ah_H) : Option (Int32 × ah_H) :=
  (hp_gi h a0 10 9).bind fun v1 =>
  if v1 = 0 then
    (hp_gr h a0 10 2).bind fun v4 =>
    (hp_gr h v4 9 0).bind fun v6 =>
    ob2 (fX8_pagesIn E zd v6 (0 : Int32) h) fun v10 w9 =>
    bX9_pages_23 E v10 w9
  else
  bX9_pages_23 E (-4 : Int32) h
set_option maxRecDepth 20000 in
set_option maxHeartbeats 4000000 in
theorem rX9_pages_0 {X : ah_X} {d : Nat} (hd : 48 ≤ d) {a0 : Option Nat} {h : ah_H} {r : Int32} {h2 : ah_H} (hf : bX9_pages_0 X.2.2.2 a0 h = some (r, h2)) : Rt X yX9_pages cX9_pages 1 (d + 1) 0 [(0, va_rf a0)] [] h (some (.int r)) h2 := by
  unfold bX9_pages_0 at hf
  refine rt_aload_n (pc := 0) (k0 := 0) (x := a0) 0 rfl dX9_pages_0 ?_
  obtain ⟨v1, e2, hf⟩ := ob1 hf
  refine rt_gi (pc := 1) fd_X9_71 dX9_pages_1 e2 ?_
  by_cases c3 : v1 = 0
  · rw [if_pos c3] at hf
    refine rt_if_eq_p (pc := 4) (x := v1) (tgt := 12) (by decide) dX9_pages_4 c3 ?_
    refine rt_aload_n (pc := 12) (k0 := 0) (x := a0) 0 rfl dX9_pages_12 ?_
    obtain ⟨v4, e5, hf⟩ := ob1 hf
    refine rt_gr (pc := 13) fd_X9_26 dX9_pages_13 e5 ?_
    obtain ⟨v6, e7, hf⟩ := ob1 hf
    refine rt_gr (pc := 16) fd_X9_107 dX9_pages_16 e7 ?_
    refine rt_iconst (pc := 19) (n := 0) (v := (0 : Int32)) (by decide) dX9_pages_19 ?_
    obtain ⟨v10, w9, e8, hf⟩ := ob2_of hf
    have g11 := sX8_pagesIn zd d (by unfold zd; omega) _ _ _ _ _ e8
    refine rt_callSN (pc := 20) (As := [va_rf v6, .int (0 : Int32)]) (st := []) me_X8_pagesIn ms_X8_pagesIn wln_X9_111 dX9_pages_20 rfl (by decide) rfl g11 ?_
    exact rt_locals (rt_sub [] rfl) (rX9_pages_23 hd hf)
  rw [if_neg c3] at hf
  refine rt_if_eq_n (pc := 4) (x := v1) (tgt := 12) (by decide) dX9_pages_4 c3 ?_
  refine rt_bipush (pc := 7) (n := -4) (v := (-4 : Int32)) (by decide) dX9_pages_7 ?_
  refine rt_goto (pc := 9) (tgt := 23) (by decide) dX9_pages_9 ?_
  exact rt_locals (rt_sub [] rfl) (rX9_pages_23 hd hf)
noncomputable def fX9_pages (E : ah_E) (a0 : Option Nat) (h : ah_H) : Option (Int32 × ah_H) := if hp_rcv h a0 10 = false then none else bX9_pages_0 E a0 h
set_option maxRecDepth 20000 in
set_option maxHeartbeats 4000000 in
theorem sX9_pages {X : ah_X} (d : Nat) (hd : 49 ≤ d) {a0 : Option Nat} {h : ah_H} {r : Int32} {h2 : ah_H} (hf : fX9_pages X.2.2.2 a0 h = some (r, h2)) : hp_rcv h a0 10 = true ∧ Rn X yX9_pages cX9_pages 1 (some .int) d [va_rf a0] h (some (.int r)) h2 := by
  unfold fX9_pages at hf
  by_cases c0 : hp_rcv h a0 10 = false
  · rw [if_pos c0] at hf; cases hf
  rw [if_neg c0] at hf
  refine ⟨(Bool.not_eq_false _).mp c0, ?_⟩
  obtain ⟨d, rfl⟩ : ∃ k, d = k + 1 := ⟨d - 1, by omega⟩
  exact Rn.of2 me_X9_pages (by simp [lg_sl, rt_cat, cat_i, cat_l]) (ok_i _) (l := [(0, va_rf a0)]) (by simp [lv_args, rt_cat, cat_i, cat_l]) (rX9_pages_0 (by omega) hf)
noncomputable def bX9_copyPictures_2 (E : ah_E) : Nat → Option Nat → Option Nat → Int32 → ah_H → Option ah_H
  | 0 => fun _ _ _ _ => none
  | n + 1 => fun a0 a1 a2 h =>
  ob2 (fJx4a65c_size_8abf5 E a0 h) fun v3 w2 =>
  if v3 ≤ a2 then
    some w2
  else
  ob2 (fJx4a65c_get_915e3 E a0 a2 w2) fun v8 w7 =>
  if hp_cls w7 v8 7 = false then none else
  ob2 (fJx4a65c_add_9ea2d E a1 v8 w7) fun v13 w12 =>
  bX9_copyPictures_2 E n a0 a1 (a2 + 1) w12
set_option maxRecDepth 20000 in
set_option maxHeartbeats 4000000 in
theorem rX9_copyPictures_2 {X : ah_X} {d : Nat} (hd : 6 ≤ d) (n : Nat) : ∀ (a0 : Option Nat) (a1 : Option Nat) (a2 : Int32) (h : ah_H) (h2 : ah_H), bX9_copyPictures_2 X.2.2.2 n a0 a1 a2 h = some h2 → Rt X yX9_copyPictures cX9_copyPictures 3 (d + 1) 2 [(0, va_rf a0), (1, va_rf a1), (2, .int a2)] [] h none h2 := by
  induction n with
  | zero => intro a0 a1 a2 h h2 hf; cases hf
  | succ n ih =>
  intro a0 a1 a2 h h2 hf
  unfold bX9_copyPictures_2 at hf
  refine rt_iload_n (pc := 2) (k0 := 2) (x := a2) 2 rfl dX9_copyPictures_2 ?_
  refine rt_aload_n (pc := 3) (k0 := 0) (x := a0) 0 rfl dX9_copyPictures_3 ?_
  obtain ⟨v3, w2, e1, hf⟩ := ob2_of hf
  have g4 := sJx4a65c_size_8abf5 d (by omega) e1
  refine rt_callV (pc := 4) (As := []) (st := [.int a2]) me_Jx4a65c_size_8abf5 mi_Jx4a65c_size_8abf5 wl_X9_98 dX9_copyPictures_4 rfl (by simp [rt_cat, cat_i, cat_l]) rfl g4.1 g4.2 ?_
  by_cases c5 : v3 ≤ a2
  · rw [if_pos c5] at hf
    refine rt_icmp_ge_p (pc := 7) (x := a2) (z := v3) (tgt := 29) (by decide) dX9_copyPictures_7 c5 ?_
    cases hf
    exact rt_ret (pc := 29) dX9_copyPictures_29 rfl
  rw [if_neg c5] at hf
  refine rt_icmp_ge_n (pc := 7) (x := a2) (z := v3) (tgt := 29) (by decide) dX9_copyPictures_7 c5 ?_
  refine rt_aload_n (pc := 10) (k0 := 1) (x := a1) 1 rfl dX9_copyPictures_10 ?_
  refine rt_aload_n (pc := 11) (k0 := 0) (x := a0) 0 rfl dX9_copyPictures_11 ?_
  refine rt_iload_n (pc := 12) (k0 := 2) (x := a2) 2 rfl dX9_copyPictures_12 ?_
  obtain ⟨v8, w7, e6, hf⟩ := ob2_of hf
  have g9 := sJx4a65c_get_915e3 d (by omega) e6
  refine rt_callV (pc := 13) (As := [.int a2]) (st := [va_rf a1]) me_Jx4a65c_get_915e3 mi_Jx4a65c_get_915e3 wl_X9_143 dX9_copyPictures_13 rfl (by simp [rt_cat, cat_i, cat_l]) rfl g9.1 g9.2 ?_
  by_cases c10 : hp_cls w7 v8 7 = false
  · rw [if_pos c10] at hf; cases hf
  rw [if_neg c10] at hf
  refine rt_cast (pc := 16) (x := v8) (show vwCl[7]? = some (RX6, TX6, 2) from rfl) wc_X9_181 dX9_copyPictures_16 ((Bool.not_eq_false _).mp c10) ?_
  obtain ⟨v13, w12, e11, hf⟩ := ob2_of hf
  have g14 := sJx4a65c_add_9ea2d d (by omega) e11
  refine rt_callV (pc := 19) (As := [va_rf v8]) (st := []) me_Jx4a65c_add_9ea2d mi_Jx4a65c_add_9ea2d wl_X9_186 dX9_copyPictures_19 rfl (by decide) rfl g14.1 g14.2 ?_
  refine rt_pop (pc := 22) rfl dX9_copyPictures_22 ?_
  refine rt_iinc (pc := 23) (i := 2) (n := 1) (x := a2) (v := (a2 + 1)) (l2 := [(2, .int (a2 + 1)), (0, va_rf a0), (1, va_rf a1)]) 2 rfl rfl (by decide) (by first | rfl | (simp [rt_cat, cat_i, cat_l]; done) | (simp [rt_cat, cat_i, cat_l]; decide)) dX9_copyPictures_23 ?_
  refine rt_goto (pc := 26) (tgt := 2) (by decide) dX9_copyPictures_26 ?_
  exact rt_locals (rt_sub [1, 2, 0] rfl) (ih _ _ _ _ _ hf)
noncomputable def bX9_copyPictures_0 (E : ah_E) (a0 : Option Nat) (a1 : Option Nat) (h : ah_H) : Option ah_H :=
  bX9_copyPictures_2 E zf a0 a1 (0 : Int32) h
set_option maxRecDepth 20000 in
set_option maxHeartbeats 4000000 in
theorem rX9_copyPictures_0 {X : ah_X} {d : Nat} (hd : 6 ≤ d) {a0 : Option Nat} {a1 : Option Nat} {h : ah_H} {h2 : ah_H} (hf : bX9_copyPictures_0 X.2.2.2 a0 a1 h = some h2) : Rt X yX9_copyPictures cX9_copyPictures 3 (d + 1) 0 [(0, va_rf a0), (1, va_rf a1)] [] h none h2 := by
  unfold bX9_copyPictures_0 at hf
  refine rt_iconst (pc := 0) (n := 0) (v := (0 : Int32)) (by decide) dX9_copyPictures_0 ?_
  refine rt_istore_n (pc := 1) (k0 := 2) (x := (0 : Int32)) (l2 := [(2, .int (0 : Int32)), (0, va_rf a0), (1, va_rf a1)]) (by decide) (by first | rfl | (simp [rt_cat, cat_i, cat_l]; done) | (simp [rt_cat, cat_i, cat_l]; decide)) dX9_copyPictures_1 ?_
  exact rt_locals (rt_sub [1, 2, 0] rfl) (rX9_copyPictures_2 hd zf _ _ _ _ _ hf)
noncomputable def fX9_copyPictures (E : ah_E) (a0 : Option Nat) (a1 : Option Nat) (h : ah_H) : Option ah_H := bX9_copyPictures_0 E a0 a1 h
set_option maxRecDepth 20000 in
set_option maxHeartbeats 4000000 in
theorem sX9_copyPictures {X : ah_X} (d : Nat) (hd : 7 ≤ d) {a0 : Option Nat} {a1 : Option Nat} {h : ah_H} {h2 : ah_H} (hf : fX9_copyPictures X.2.2.2 a0 a1 h = some h2) : Rn X yX9_copyPictures cX9_copyPictures 3 none d [va_rf a0, va_rf a1] h none h2 := by
  unfold fX9_copyPictures at hf
  obtain ⟨d, rfl⟩ : ∃ k, d = k + 1 := ⟨d - 1, by omega⟩
  exact Rn.of2 me_X9_copyPictures (by simp [lg_sl, rt_cat, cat_i, cat_l]) rfl (l := [(0, va_rf a0), (1, va_rf a1)]) (by simp [lv_args, rt_cat, cat_i, cat_l]) (rX9_copyPictures_0 (by omega) hf)
noncomputable def bX9_writeAll_0 (E : ah_E) (a0 : Option Nat) (h : ah_H) : Option (Int32 × ah_H) :=
  (hp_gr h a0 10 1).bind fun v1 =>
  (hp_gr h a0 10 2).bind fun v3 =>
  (hp_gr h v3 9 0).bind fun v5 =>
  ob2 (fX0_writePages E zd v1 v5 (0 : Int32) h) fun v9 w8 =>
  if v9 = 0 then
    (fX9_goDown E a0 w8).bind fun w13 =>
    some ((0 : Int32), w13)
  else
  (hp_new w8 4 nf_4 5).bind fun w15 =>
  (hp_gi w15 a0 10 7).bind fun v17 =>
  (hp_gi w15 a0 10 6).bind fun v19 =>
  (hp_gr w15 a0 10 2).bind fun v21 =>
  (hp_gr w15 v21 9 0).bind fun v23 =>
  (hp_gi w15 a0 10 5).bind fun v25 =>
  (fX3_init E (some w8.1) (v17 + (1 : Int32)) v19 v23 v25 w15).bind fun w28 =>
  (hp_gr w28 a0 10 4).bind fun v30 =>
  (hp_gr w28 (some w8.1) 4 4).bind fun v32 =>
  (fX9_copyPictures E v30 v32 w28).bind fun w35 =>
  (hp_gr w35 a0 10 1).bind fun v37 =>
  ob2 (fX0_writeHead E v37 (some w8.1) w35) fun v41 w40 =>
  if v41 = 0 then
    (fX9_goDown E a0 w40).bind fun w45 =>
    some ((0 : Int32), w45)
  else
  (hp_gi w40 a0 10 7).bind fun v47 =>
  (hp_pv w40 a0 10 7 (.int (v47 + (1 : Int32)))).bind fun w49 =>
  some ((1 : Int32), w49)
set_option maxRecDepth 20000 in
set_option maxHeartbeats 4000000 in
theorem rX9_writeAll_0 {X : ah_X} {d : Nat} (hd : 48 ≤ d) {a0 : Option Nat} {h : ah_H} {r : Int32} {h2 : ah_H} (hf : bX9_writeAll_0 X.2.2.2 a0 h = some (r, h2)) : Rt X yX9_writeAll cX9_writeAll 2 (d + 1) 0 [(0, va_rf a0)] [] h (some (.int r)) h2 := by
  unfold bX9_writeAll_0 at hf
  refine rt_aload_n (pc := 0) (k0 := 0) (x := a0) 0 rfl dX9_writeAll_0 ?_
  obtain ⟨v1, e2, hf⟩ := ob1 hf
  refine rt_gr (pc := 1) fd_X9_19 dX9_writeAll_1 e2 ?_
  refine rt_aload_n (pc := 4) (k0 := 0) (x := a0) 0 rfl dX9_writeAll_4 ?_
  obtain ⟨v3, e4, hf⟩ := ob1 hf
  refine rt_gr (pc := 5) fd_X9_26 dX9_writeAll_5 e4 ?_
  obtain ⟨v5, e6, hf⟩ := ob1 hf
  refine rt_gr (pc := 8) fd_X9_107 dX9_writeAll_8 e6 ?_
  refine rt_iconst (pc := 11) (n := 0) (v := (0 : Int32)) (by decide) dX9_writeAll_11 ?_
  obtain ⟨v9, w8, e7, hf⟩ := ob2_of hf
  have g10 := sX0_writePages zd d (by unfold zd; omega) _ _ _ _ _ _ e7
  refine rt_callSN (pc := 12) (As := [va_rf v1, va_rf v5, .int (0 : Int32)]) (st := []) me_X0_writePages ms_X0_writePages wln_X9_271 dX9_writeAll_12 rfl (by decide) rfl g10 ?_
  by_cases c11 : v9 = 0
  · rw [if_pos c11] at hf
    refine rt_if_ne_p (pc := 15) (x := v9) (tgt := 24) (by decide) dX9_writeAll_15 c11 ?_
    refine rt_aload_n (pc := 18) (k0 := 0) (x := a0) 0 rfl dX9_writeAll_18 ?_
    obtain ⟨w13, e12, hf⟩ := ob1 hf
    have g14 := sX9_goDown d (by omega) e12
    refine rt_callV (pc := 19) (As := []) (st := []) me_X9_goDown mi_X9_goDown wl_X9_205 dX9_writeAll_19 rfl (by decide) rfl g14.1 g14.2 ?_
    refine rt_iconst (pc := 22) (n := 0) (v := (0 : Int32)) (by decide) dX9_writeAll_22 ?_
    cases hf
    exact rt_ret (pc := 23) dX9_writeAll_23 rfl
  rw [if_neg c11] at hf
  refine rt_if_ne_n (pc := 15) (x := v9) (tgt := 24) (by decide) dX9_writeAll_15 c11 ?_
  obtain ⟨w15, e16, hf⟩ := ob1 hf
  refine rt_newB (pc := 24) nw_X9_227 dX9_writeAll_24 e16 ?_
  refine rt_dup (pc := 27) (rt_cat _) dX9_writeAll_27 ?_
  refine rt_aload_n (pc := 28) (k0 := 0) (x := a0) 0 rfl dX9_writeAll_28 ?_
  obtain ⟨v17, e18, hf⟩ := ob1 hf
  refine rt_gi (pc := 29) fd_X9_219 dX9_writeAll_29 e18 ?_
  refine rt_iconst (pc := 32) (n := 1) (v := (1 : Int32)) (by decide) dX9_writeAll_32 ?_
  refine rt_iadd (pc := 33) (x := v17) (z := (1 : Int32)) dX9_writeAll_33 ?_
  refine rt_aload_n (pc := 34) (k0 := 0) (x := a0) 0 rfl dX9_writeAll_34 ?_
  obtain ⟨v19, e20, hf⟩ := ob1 hf
  refine rt_gi (pc := 35) fd_X9_236 dX9_writeAll_35 e20 ?_
  refine rt_aload_n (pc := 38) (k0 := 0) (x := a0) 0 rfl dX9_writeAll_38 ?_
  obtain ⟨v21, e22, hf⟩ := ob1 hf
  refine rt_gr (pc := 39) fd_X9_26 dX9_writeAll_39 e22 ?_
  obtain ⟨v23, e24, hf⟩ := ob1 hf
  refine rt_gr (pc := 42) fd_X9_107 dX9_writeAll_42 e24 ?_
  refine rt_aload_n (pc := 45) (k0 := 0) (x := a0) 0 rfl dX9_writeAll_45 ?_
  obtain ⟨v25, e26, hf⟩ := ob1 hf
  refine rt_gi (pc := 46) fd_X9_178 dX9_writeAll_46 e26 ?_
  obtain ⟨w28, e27, hf⟩ := ob1 hf
  have g29 := sX3_init d (by omega) e27
  refine rt_callI (pc := 49) (As := [.int (v17 + (1 : Int32)), .int v19, va_rf v23, .int v25]) (st := [va_rf (some w8.1)]) (ci := 4) me_X3_init mI_X3_init wl_X9_275 dX9_writeAll_49 rfl (by simp [rt_cat, cat_i, cat_l]) rfl g29.1 g29.2 ?_
  refine rt_astore_n (pc := 52) (k0 := 1) (x := (some w8.1)) (l2 := [(1, va_rf (some w8.1)), (0, va_rf a0)]) (by decide) (by first | rfl | (simp [rt_cat, cat_i, cat_l]; done) | (simp [rt_cat, cat_i, cat_l]; decide)) dX9_writeAll_52 ?_
  refine rt_aload_n (pc := 53) (k0 := 0) (x := a0) 1 rfl dX9_writeAll_53 ?_
  obtain ⟨v30, e31, hf⟩ := ob1 hf
  refine rt_gr (pc := 54) fd_X9_40 dX9_writeAll_54 e31 ?_
  refine rt_aload_n (pc := 57) (k0 := 1) (x := (some w8.1)) 0 rfl dX9_writeAll_57 ?_
  obtain ⟨v32, e33, hf⟩ := ob1 hf
  refine rt_gr (pc := 58) fd_X9_230 dX9_writeAll_58 e33 ?_
  obtain ⟨w35, e34, hf⟩ := ob1 hf
  have g36 := sX9_copyPictures d (by omega) e34
  refine rt_callS (pc := 61) (As := [va_rf v30, va_rf v32]) (st := []) me_X9_copyPictures ms_X9_copyPictures wl_X9_278 dX9_writeAll_61 rfl (by decide) rfl g36 ?_
  refine rt_aload_n (pc := 64) (k0 := 0) (x := a0) 1 rfl dX9_writeAll_64 ?_
  obtain ⟨v37, e38, hf⟩ := ob1 hf
  refine rt_gr (pc := 65) fd_X9_19 dX9_writeAll_65 e38 ?_
  refine rt_aload_n (pc := 68) (k0 := 1) (x := (some w8.1)) 0 rfl dX9_writeAll_68 ?_
  obtain ⟨v41, w40, e39, hf⟩ := ob2_of hf
  have g42 := sX0_writeHead d (by omega) e39
  refine rt_callV (pc := 69) (As := [va_rf (some w8.1)]) (st := []) me_X0_writeHead mi_X0_writeHead wl_X9_282 dX9_writeAll_69 rfl (by decide) rfl g42.1 g42.2 ?_
  by_cases c43 : v41 = 0
  · rw [if_pos c43] at hf
    refine rt_if_ne_p (pc := 72) (x := v41) (tgt := 81) (by decide) dX9_writeAll_72 c43 ?_
    refine rt_aload_n (pc := 75) (k0 := 0) (x := a0) 1 rfl dX9_writeAll_75 ?_
    obtain ⟨w45, e44, hf⟩ := ob1 hf
    have g46 := sX9_goDown d (by omega) e44
    refine rt_callV (pc := 76) (As := []) (st := []) me_X9_goDown mi_X9_goDown wl_X9_205 dX9_writeAll_76 rfl (by decide) rfl g46.1 g46.2 ?_
    refine rt_iconst (pc := 79) (n := 0) (v := (0 : Int32)) (by decide) dX9_writeAll_79 ?_
    cases hf
    exact rt_ret (pc := 80) dX9_writeAll_80 rfl
  rw [if_neg c43] at hf
  refine rt_if_ne_n (pc := 72) (x := v41) (tgt := 81) (by decide) dX9_writeAll_72 c43 ?_
  refine rt_aload_n (pc := 81) (k0 := 0) (x := a0) 1 rfl dX9_writeAll_81 ?_
  refine rt_dup (pc := 82) (rt_cat _) dX9_writeAll_82 ?_
  obtain ⟨v47, e48, hf⟩ := ob1 hf
  refine rt_gi (pc := 83) fd_X9_219 dX9_writeAll_83 e48 ?_
  refine rt_iconst (pc := 86) (n := 1) (v := (1 : Int32)) (by decide) dX9_writeAll_86 ?_
  refine rt_iadd (pc := 87) (x := v47) (z := (1 : Int32)) dX9_writeAll_87 ?_
  obtain ⟨w49, e50, hf⟩ := ob1 hf
  refine rt_putf (pc := 88) (x := a0) fw_X9_219 (Or.inl rfl) (pf_i _).1 (pf_i _).2 dX9_writeAll_88 e50 ?_
  refine rt_iconst (pc := 91) (n := 1) (v := (1 : Int32)) (by decide) dX9_writeAll_91 ?_
  cases hf
  exact rt_ret (pc := 92) dX9_writeAll_92 rfl
noncomputable def fX9_writeAll (E : ah_E) (a0 : Option Nat) (h : ah_H) : Option (Int32 × ah_H) := if hp_rcv h a0 10 = false then none else zb (bX9_writeAll_0 E a0 h)
set_option maxRecDepth 20000 in
set_option maxHeartbeats 4000000 in
theorem sX9_writeAll {X : ah_X} (d : Nat) (hd : 49 ≤ d) {a0 : Option Nat} {h : ah_H} {r : Int32} {h2 : ah_H} (hf : fX9_writeAll X.2.2.2 a0 h = some (r, h2)) : hp_rcv h a0 10 = true ∧ Rn X yX9_writeAll cX9_writeAll 2 (some .boolean) d [va_rf a0] h (some (.int r)) h2 := by
  unfold fX9_writeAll at hf
  by_cases c0 : hp_rcv h a0 10 = false
  · rw [if_pos c0] at hf; cases hf
  rw [if_neg c0] at hf
  refine ⟨(Bool.not_eq_false _).mp c0, ?_⟩
  obtain ⟨hf, hz⟩ := zb_of hf
  obtain ⟨d, rfl⟩ : ∃ k, d = k + 1 := ⟨d - 1, by omega⟩
  exact Rn.of2 me_X9_writeAll (by simp [lg_sl, rt_cat, cat_i, cat_l]) (ok_z hz) (l := [(0, va_rf a0)]) (by simp [lv_args, rt_cat, cat_i, cat_l]) (rX9_writeAll_0 (by omega) hf)
noncomputable def bX9_picture_40 (E : ah_E) (h : ah_H) : Option (Int32 × ah_H) :=
  some ((-3 : Int32), h)
set_option maxRecDepth 20000 in
set_option maxHeartbeats 4000000 in
theorem rX9_picture_40 {X : ah_X} {d : Nat} (hd : 51 ≤ d)  {h : ah_H} {r : Int32} {h2 : ah_H} (hf : bX9_picture_40 X.2.2.2  h = some (r, h2)) : Rt X yX9_picture cX9_picture 1 (d + 1) 40 [] [] h (some (.int r)) h2 := by
  unfold bX9_picture_40 at hf
  refine rt_bipush (pc := 40) (n := -3) (v := (-3 : Int32)) (by decide) dX9_picture_40 ?_
  cases hf
  exact rt_ret (pc := 42) dX9_picture_42 rfl
noncomputable def bX9_picture_95 (E : ah_E) (s0 : Int32) (h : ah_H) : Option (Int32 × ah_H) :=
  some (s0, h)
set_option maxRecDepth 20000 in
set_option maxHeartbeats 4000000 in
theorem rX9_picture_95 {X : ah_X} {d : Nat} (hd : 51 ≤ d) {s0 : Int32} {h : ah_H} {r : Int32} {h2 : ah_H} (hf : bX9_picture_95 X.2.2.2 s0 h = some (r, h2)) : Rt X yX9_picture cX9_picture 1 (d + 1) 95 [] [.int s0] h (some (.int r)) h2 := by
  unfold bX9_picture_95 at hf
  cases hf
  exact rt_ret (pc := 95) dX9_picture_95 rfl
noncomputable def bX9_picture_0 (E : ah_E) (a0 : Option Nat) (h : ah_H) : Option (Int32 × ah_H) :=
  (hp_gi h a0 10 9).bind fun v1 =>
  if v1 = 0 then
    (hp_gr h a0 10 4).bind fun v4 =>
    ob2 (fJx4a65c_size_8abf5 E v4 h) fun v8 w7 =>
    if (12 : Int32) ≤ v8 then
      bX9_picture_40 E  w7
    else
    ob2 (fX9_freePlaces E a0 w7) fun v13 w12 =>
    (hp_gr w12 a0 10 2).bind fun v15 =>
    (hp_gr w12 v15 9 0).bind fun v17 =>
    ob2 (fX8_changedIn E zd v17 (0 : Int32) w12) fun v21 w20 =>
    if v21 ≤ v13 then
      (hp_gi w20 a0 10 5).bind fun v24 =>
      (hp_pv w20 a0 10 5 (.int (v24 + (1 : Int32)))).bind fun w26 =>
      (hp_gr w26 a0 10 4).bind fun v28 =>
      (hp_new w26 7 nf_7 2).bind fun w30 =>
      (hp_gi w30 a0 10 5).bind fun v32 =>
      (hp_gr w30 a0 10 2).bind fun v34 =>
      (hp_gr w30 v34 9 0).bind fun v36 =>
      (fX6_init E (some w26.1) v32 v36 w30).bind fun w39 =>
      ob2 (fJx4a65c_add_9ea2d E v28 (some w26.1) w39) fun v43 w42 =>
      ob2 (fX9_writeAll E a0 w42) fun v47 w46 =>
      if v47 = 0 then
        bX9_picture_95 E (-5 : Int32) w46
      else
      (hp_gi w46 a0 10 5).bind fun v50 =>
      bX9_picture_95 E v50 w46
    else
    bX9_picture_40 E  w20
  else
  some ((-4 : Int32), h)
set_option maxRecDepth 20000 in
set_option maxHeartbeats 4000000 in
theorem rX9_picture_0 {X : ah_X} {d : Nat} (hd : 51 ≤ d) {a0 : Option Nat} {h : ah_H} {r : Int32} {h2 : ah_H} (hf : bX9_picture_0 X.2.2.2 a0 h = some (r, h2)) : Rt X yX9_picture cX9_picture 1 (d + 1) 0 [(0, va_rf a0)] [] h (some (.int r)) h2 := by
  unfold bX9_picture_0 at hf
  refine rt_aload_n (pc := 0) (k0 := 0) (x := a0) 0 rfl dX9_picture_0 ?_
  obtain ⟨v1, e2, hf⟩ := ob1 hf
  refine rt_gi (pc := 1) fd_X9_71 dX9_picture_1 e2 ?_
  by_cases c3 : v1 = 0
  · rw [if_pos c3] at hf
    refine rt_if_eq_p (pc := 4) (x := v1) (tgt := 10) (by decide) dX9_picture_4 c3 ?_
    refine rt_aload_n (pc := 10) (k0 := 0) (x := a0) 0 rfl dX9_picture_10 ?_
    obtain ⟨v4, e5, hf⟩ := ob1 hf
    refine rt_gr (pc := 11) fd_X9_40 dX9_picture_11 e5 ?_
    obtain ⟨v8, w7, e6, hf⟩ := ob2_of hf
    have g9 := sJx4a65c_size_8abf5 d (by omega) e6
    refine rt_callV (pc := 14) (As := []) (st := []) me_Jx4a65c_size_8abf5 mi_Jx4a65c_size_8abf5 wl_X9_98 dX9_picture_14 rfl (by decide) rfl g9.1 g9.2 ?_
    refine rt_bipush (pc := 17) (n := 12) (v := (12 : Int32)) (by decide) dX9_picture_17 ?_
    by_cases c10 : (12 : Int32) ≤ v8
    · rw [if_pos c10] at hf
      refine rt_icmp_ge_p (pc := 19) (x := v8) (z := (12 : Int32)) (tgt := 40) (by decide) dX9_picture_19 c10 ?_
      exact rt_locals (rt_sub [] rfl) (rX9_picture_40 hd hf)
    rw [if_neg c10] at hf
    refine rt_icmp_ge_n (pc := 19) (x := v8) (z := (12 : Int32)) (tgt := 40) (by decide) dX9_picture_19 c10 ?_
    refine rt_aload_n (pc := 22) (k0 := 0) (x := a0) 0 rfl dX9_picture_22 ?_
    obtain ⟨v13, w12, e11, hf⟩ := ob2_of hf
    have g14 := sX9_freePlaces d (by omega) e11
    refine rt_callV (pc := 23) (As := []) (st := []) me_X9_freePlaces mi_X9_freePlaces wl_X9_172 dX9_picture_23 rfl (by decide) rfl g14.1 g14.2 ?_
    refine rt_aload_n (pc := 26) (k0 := 0) (x := a0) 0 rfl dX9_picture_26 ?_
    obtain ⟨v15, e16, hf⟩ := ob1 hf
    refine rt_gr (pc := 27) fd_X9_26 dX9_picture_27 e16 ?_
    obtain ⟨v17, e18, hf⟩ := ob1 hf
    refine rt_gr (pc := 30) fd_X9_107 dX9_picture_30 e18 ?_
    refine rt_iconst (pc := 33) (n := 0) (v := (0 : Int32)) (by decide) dX9_picture_33 ?_
    obtain ⟨v21, w20, e19, hf⟩ := ob2_of hf
    have g22 := sX8_changedIn zd d (by unfold zd; omega) _ _ _ _ _ e19
    refine rt_callSN (pc := 34) (As := [va_rf v17, .int (0 : Int32)]) (st := [.int v13]) me_X8_changedIn ms_X8_changedIn wln_X9_169 dX9_picture_34 rfl (by simp [rt_cat, cat_i, cat_l]) rfl g22 ?_
    by_cases c23 : v21 ≤ v13
    · rw [if_pos c23] at hf
      refine rt_icmp_ge_p (pc := 37) (x := v13) (z := v21) (tgt := 43) (by decide) dX9_picture_37 c23 ?_
      refine rt_aload_n (pc := 43) (k0 := 0) (x := a0) 0 rfl dX9_picture_43 ?_
      refine rt_dup (pc := 44) (rt_cat _) dX9_picture_44 ?_
      obtain ⟨v24, e25, hf⟩ := ob1 hf
      refine rt_gi (pc := 45) fd_X9_178 dX9_picture_45 e25 ?_
      refine rt_iconst (pc := 48) (n := 1) (v := (1 : Int32)) (by decide) dX9_picture_48 ?_
      refine rt_iadd (pc := 49) (x := v24) (z := (1 : Int32)) dX9_picture_49 ?_
      obtain ⟨w26, e27, hf⟩ := ob1 hf
      refine rt_putf (pc := 50) (x := a0) fw_X9_178 (Or.inl rfl) (pf_i _).1 (pf_i _).2 dX9_picture_50 e27 ?_
      refine rt_aload_n (pc := 53) (k0 := 0) (x := a0) 0 rfl dX9_picture_53 ?_
      obtain ⟨v28, e29, hf⟩ := ob1 hf
      refine rt_gr (pc := 54) fd_X9_40 dX9_picture_54 e29 ?_
      obtain ⟨w30, e31, hf⟩ := ob1 hf
      refine rt_newB (pc := 57) nw_X9_181 dX9_picture_57 e31 ?_
      refine rt_dup (pc := 60) (rt_cat _) dX9_picture_60 ?_
      refine rt_aload_n (pc := 61) (k0 := 0) (x := a0) 0 rfl dX9_picture_61 ?_
      obtain ⟨v32, e33, hf⟩ := ob1 hf
      refine rt_gi (pc := 62) fd_X9_178 dX9_picture_62 e33 ?_
      refine rt_aload_n (pc := 65) (k0 := 0) (x := a0) 0 rfl dX9_picture_65 ?_
      obtain ⟨v34, e35, hf⟩ := ob1 hf
      refine rt_gr (pc := 66) fd_X9_26 dX9_picture_66 e35 ?_
      obtain ⟨v36, e37, hf⟩ := ob1 hf
      refine rt_gr (pc := 69) fd_X9_107 dX9_picture_69 e37 ?_
      obtain ⟨w39, e38, hf⟩ := ob1 hf
      have g40 := sX6_init d (by omega) e38
      refine rt_callI (pc := 72) (As := [.int v32, va_rf v36]) (st := [va_rf (some w26.1), va_rf v28]) (ci := 7) me_X6_init mI_X6_init wl_X9_183 dX9_picture_72 rfl (by simp [rt_cat, cat_i, cat_l]) rfl g40.1 g40.2 ?_
      obtain ⟨v43, w42, e41, hf⟩ := ob2_of hf
      have g44 := sJx4a65c_add_9ea2d d (by omega) e41
      refine rt_callV (pc := 75) (As := [va_rf (some w26.1)]) (st := []) me_Jx4a65c_add_9ea2d mi_Jx4a65c_add_9ea2d wl_X9_186 dX9_picture_75 rfl (by decide) rfl g44.1 g44.2 ?_
      refine rt_pop (pc := 78) rfl dX9_picture_78 ?_
      refine rt_aload_n (pc := 79) (k0 := 0) (x := a0) 0 rfl dX9_picture_79 ?_
      obtain ⟨v47, w46, e45, hf⟩ := ob2_of hf
      have g48 := sX9_writeAll d (by omega) e45
      refine rt_callV (pc := 80) (As := []) (st := []) me_X9_writeAll mi_X9_writeAll wl_X9_175 dX9_picture_80 rfl (by decide) rfl g48.1 g48.2 ?_
      by_cases c49 : v47 = 0
      · rw [if_pos c49] at hf
        refine rt_if_eq_p (pc := 83) (x := v47) (tgt := 93) (by decide) dX9_picture_83 c49 ?_
        refine rt_bipush (pc := 93) (n := -5) (v := (-5 : Int32)) (by decide) dX9_picture_93 ?_
        exact rt_locals (rt_sub [] rfl) (rX9_picture_95 hd hf)
      rw [if_neg c49] at hf
      refine rt_if_eq_n (pc := 83) (x := v47) (tgt := 93) (by decide) dX9_picture_83 c49 ?_
      refine rt_aload_n (pc := 86) (k0 := 0) (x := a0) 0 rfl dX9_picture_86 ?_
      obtain ⟨v50, e51, hf⟩ := ob1 hf
      refine rt_gi (pc := 87) fd_X9_178 dX9_picture_87 e51 ?_
      refine rt_goto (pc := 90) (tgt := 95) (by decide) dX9_picture_90 ?_
      exact rt_locals (rt_sub [] rfl) (rX9_picture_95 hd hf)
    rw [if_neg c23] at hf
    refine rt_icmp_ge_n (pc := 37) (x := v13) (z := v21) (tgt := 43) (by decide) dX9_picture_37 c23 ?_
    exact rt_locals (rt_sub [] rfl) (rX9_picture_40 hd hf)
  rw [if_neg c3] at hf
  refine rt_if_eq_n (pc := 4) (x := v1) (tgt := 10) (by decide) dX9_picture_4 c3 ?_
  refine rt_bipush (pc := 7) (n := -4) (v := (-4 : Int32)) (by decide) dX9_picture_7 ?_
  cases hf
  exact rt_ret (pc := 9) dX9_picture_9 rfl
noncomputable def fX9_picture (E : ah_E) (a0 : Option Nat) (h : ah_H) : Option (Int32 × ah_H) := if hp_rcv h a0 10 = false then none else bX9_picture_0 E a0 h
set_option maxRecDepth 20000 in
set_option maxHeartbeats 4000000 in
theorem sX9_picture {X : ah_X} (d : Nat) (hd : 52 ≤ d) {a0 : Option Nat} {h : ah_H} {r : Int32} {h2 : ah_H} (hf : fX9_picture X.2.2.2 a0 h = some (r, h2)) : hp_rcv h a0 10 = true ∧ Rn X yX9_picture cX9_picture 1 (some .int) d [va_rf a0] h (some (.int r)) h2 := by
  unfold fX9_picture at hf
  by_cases c0 : hp_rcv h a0 10 = false
  · rw [if_pos c0] at hf; cases hf
  rw [if_neg c0] at hf
  refine ⟨(Bool.not_eq_false _).mp c0, ?_⟩
  obtain ⟨d, rfl⟩ : ∃ k, d = k + 1 := ⟨d - 1, by omega⟩
  exact Rn.of2 me_X9_picture (by simp [lg_sl, rt_cat, cat_i, cat_l]) (ok_i _) (l := [(0, va_rf a0)]) (by simp [lv_args, rt_cat, cat_i, cat_l]) (rX9_picture_0 (by omega) hf)
noncomputable def bX9_pictured_25 (E : ah_E) (h : ah_H) : Option (Int32 × ah_H) :=
  some ((-1 : Int32), h)
set_option maxRecDepth 20000 in
set_option maxHeartbeats 4000000 in
theorem rX9_pictured_25 {X : ah_X} {d : Nat} (hd : 2 ≤ d)  {h : ah_H} {r : Int32} {h2 : ah_H} (hf : bX9_pictured_25 X.2.2.2  h = some (r, h2)) : Rt X yX9_pictured cX9_pictured 2 (d + 1) 25 [] [] h (some (.int r)) h2 := by
  unfold bX9_pictured_25 at hf
  refine rt_iconst (pc := 25) (n := -1) (v := (-1 : Int32)) (by decide) dX9_pictured_25 ?_
  cases hf
  exact rt_ret (pc := 26) dX9_pictured_26 rfl
noncomputable def bX9_pictured_0 (E : ah_E) (a0 : Option Nat) (a1 : Int32) (h : ah_H) : Option (Int32 × ah_H) :=
  (hp_gi h a0 10 9).bind fun v1 =>
  if v1 = 0 then
    if a1 < 0 then
      bX9_pictured_25 E  h
    else
    (hp_gr h a0 10 4).bind fun v5 =>
    ob2 (fJx4a65c_size_8abf5 E v5 h) fun v9 w8 =>
    if a1 < v9 then
      (hp_gr w8 a0 10 4).bind fun v12 =>
      ob2 (fJx4a65c_get_915e3 E v12 a1 w8) fun v16 w15 =>
      if hp_cls w15 v16 7 = false then none else
      (hp_gi w15 v16 7 0).bind fun v19 =>
      some (v19, w15)
    else
    bX9_pictured_25 E  w8
  else
  some ((-4 : Int32), h)
set_option maxRecDepth 20000 in
set_option maxHeartbeats 4000000 in
theorem rX9_pictured_0 {X : ah_X} {d : Nat} (hd : 2 ≤ d) {a0 : Option Nat} {a1 : Int32} {h : ah_H} {r : Int32} {h2 : ah_H} (hf : bX9_pictured_0 X.2.2.2 a0 a1 h = some (r, h2)) : Rt X yX9_pictured cX9_pictured 2 (d + 1) 0 [(0, va_rf a0), (1, .int a1)] [] h (some (.int r)) h2 := by
  unfold bX9_pictured_0 at hf
  refine rt_aload_n (pc := 0) (k0 := 0) (x := a0) 0 rfl dX9_pictured_0 ?_
  obtain ⟨v1, e2, hf⟩ := ob1 hf
  refine rt_gi (pc := 1) fd_X9_71 dX9_pictured_1 e2 ?_
  by_cases c3 : v1 = 0
  · rw [if_pos c3] at hf
    refine rt_if_eq_p (pc := 4) (x := v1) (tgt := 10) (by decide) dX9_pictured_4 c3 ?_
    refine rt_iload_n (pc := 10) (k0 := 1) (x := a1) 1 rfl dX9_pictured_10 ?_
    by_cases c4 : a1 < 0
    · rw [if_pos c4] at hf
      refine rt_if_lt_p (pc := 11) (x := a1) (tgt := 25) (by decide) dX9_pictured_11 c4 ?_
      exact rt_locals (rt_sub [] rfl) (rX9_pictured_25 hd hf)
    rw [if_neg c4] at hf
    refine rt_if_lt_n (pc := 11) (x := a1) (tgt := 25) (by decide) dX9_pictured_11 c4 ?_
    refine rt_iload_n (pc := 14) (k0 := 1) (x := a1) 1 rfl dX9_pictured_14 ?_
    refine rt_aload_n (pc := 15) (k0 := 0) (x := a0) 0 rfl dX9_pictured_15 ?_
    obtain ⟨v5, e6, hf⟩ := ob1 hf
    refine rt_gr (pc := 16) fd_X9_40 dX9_pictured_16 e6 ?_
    obtain ⟨v9, w8, e7, hf⟩ := ob2_of hf
    have g10 := sJx4a65c_size_8abf5 d (by omega) e7
    refine rt_callV (pc := 19) (As := []) (st := [.int a1]) me_Jx4a65c_size_8abf5 mi_Jx4a65c_size_8abf5 wl_X9_98 dX9_pictured_19 rfl (by simp [rt_cat, cat_i, cat_l]) rfl g10.1 g10.2 ?_
    by_cases c11 : a1 < v9
    · rw [if_pos c11] at hf
      refine rt_icmp_lt_p (pc := 22) (x := a1) (z := v9) (tgt := 27) (by decide) dX9_pictured_22 c11 ?_
      refine rt_aload_n (pc := 27) (k0 := 0) (x := a0) 0 rfl dX9_pictured_27 ?_
      obtain ⟨v12, e13, hf⟩ := ob1 hf
      refine rt_gr (pc := 28) fd_X9_40 dX9_pictured_28 e13 ?_
      refine rt_iload_n (pc := 31) (k0 := 1) (x := a1) 1 rfl dX9_pictured_31 ?_
      obtain ⟨v16, w15, e14, hf⟩ := ob2_of hf
      have g17 := sJx4a65c_get_915e3 d (by omega) e14
      refine rt_callV (pc := 32) (As := [.int a1]) (st := []) me_Jx4a65c_get_915e3 mi_Jx4a65c_get_915e3 wl_X9_143 dX9_pictured_32 rfl (by decide) rfl g17.1 g17.2 ?_
      by_cases c18 : hp_cls w15 v16 7 = false
      · rw [if_pos c18] at hf; cases hf
      rw [if_neg c18] at hf
      refine rt_cast (pc := 35) (x := v16) (show vwCl[7]? = some (RX6, TX6, 2) from rfl) wc_X9_181 dX9_pictured_35 ((Bool.not_eq_false _).mp c18) ?_
      obtain ⟨v19, e20, hf⟩ := ob1 hf
      refine rt_gi (pc := 38) fd_X9_201 dX9_pictured_38 e20 ?_
      cases hf
      exact rt_ret (pc := 41) dX9_pictured_41 rfl
    rw [if_neg c11] at hf
    refine rt_icmp_lt_n (pc := 22) (x := a1) (z := v9) (tgt := 27) (by decide) dX9_pictured_22 c11 ?_
    exact rt_locals (rt_sub [] rfl) (rX9_pictured_25 hd hf)
  rw [if_neg c3] at hf
  refine rt_if_eq_n (pc := 4) (x := v1) (tgt := 10) (by decide) dX9_pictured_4 c3 ?_
  refine rt_bipush (pc := 7) (n := -4) (v := (-4 : Int32)) (by decide) dX9_pictured_7 ?_
  cases hf
  exact rt_ret (pc := 9) dX9_pictured_9 rfl
noncomputable def fX9_pictured (E : ah_E) (a0 : Option Nat) (a1 : Int32) (h : ah_H) : Option (Int32 × ah_H) := if hp_rcv h a0 10 = false then none else bX9_pictured_0 E a0 a1 h
set_option maxRecDepth 20000 in
set_option maxHeartbeats 4000000 in
theorem sX9_pictured {X : ah_X} (d : Nat) (hd : 3 ≤ d) {a0 : Option Nat} {a1 : Int32} {h : ah_H} {r : Int32} {h2 : ah_H} (hf : fX9_pictured X.2.2.2 a0 a1 h = some (r, h2)) : hp_rcv h a0 10 = true ∧ Rn X yX9_pictured cX9_pictured 2 (some .int) d [va_rf a0, .int a1] h (some (.int r)) h2 := by
  unfold fX9_pictured at hf
  by_cases c0 : hp_rcv h a0 10 = false
  · rw [if_pos c0] at hf; cases hf
  rw [if_neg c0] at hf
  refine ⟨(Bool.not_eq_false _).mp c0, ?_⟩
  obtain ⟨d, rfl⟩ : ∃ k, d = k + 1 := ⟨d - 1, by omega⟩
  exact Rn.of2 me_X9_pictured (by simp [lg_sl, rt_cat, cat_i, cat_l]) (ok_i _) (l := [(0, va_rf a0), (1, .int a1)]) (by simp [lv_args, rt_cat, cat_i, cat_l]) (rX9_pictured_0 (by omega) hf)
noncomputable def bX9_prior_39 (E : ah_E) (s0 : Option Nat) (s1 : Int32) (h : ah_H) : Option (Int32 × ah_H) :=
  ob2 (fX9_findEntry E s0 s1 h) fun v3 w2 =>
  some (v3, w2)
set_option maxRecDepth 20000 in
set_option maxHeartbeats 4000000 in
theorem rX9_prior_39 {X : ah_X} {d : Nat} (hd : 3 ≤ d) {s0 : Option Nat} {s1 : Int32} {h : ah_H} {r : Int32} {h2 : ah_H} (hf : bX9_prior_39 X.2.2.2 s0 s1 h = some (r, h2)) : Rt X yX9_prior cX9_prior 4 (d + 1) 39 [] [.int s1, va_rf s0] h (some (.int r)) h2 := by
  unfold bX9_prior_39 at hf
  obtain ⟨v3, w2, e1, hf⟩ := ob2_of hf
  have g4 := sX9_findEntry d (by omega) e1
  refine rt_callV (pc := 39) (As := [.int s1]) (st := []) me_X9_findEntry mi_X9_findEntry wl_X9_83 dX9_prior_39 rfl (by decide) rfl g4.1 g4.2 ?_
  cases hf
  exact rt_ret (pc := 42) dX9_prior_42 rfl
noncomputable def bX9_prior_0 (E : ah_E) (a0 : Option Nat) (a1 : Int64) (h : ah_H) : Option (Int32 × ah_H) :=
  (hp_gi h a0 10 9).bind fun v1 =>
  if v1 = 0 then
    (hp_gr h a0 10 3).bind fun v4 =>
    ob2 (fX1_firstNotBelow E v4 a1 h) fun v8 w7 =>
    (hp_gr w7 a0 10 3).bind fun v10 =>
    ob2 (fX1_hasAt E v10 v8 a1 w7) fun v14 w13 =>
    if v14 = 0 then
      bX9_prior_39 E a0 (v8 - (1 : Int32)) w13
    else
    bX9_prior_39 E a0 v8 w13
  else
  some ((-4 : Int32), h)
set_option maxRecDepth 20000 in
set_option maxHeartbeats 4000000 in
theorem rX9_prior_0 {X : ah_X} {d : Nat} (hd : 3 ≤ d) {a0 : Option Nat} {a1 : Int64} {h : ah_H} {r : Int32} {h2 : ah_H} (hf : bX9_prior_0 X.2.2.2 a0 a1 h = some (r, h2)) : Rt X yX9_prior cX9_prior 4 (d + 1) 0 [(0, va_rf a0), (1, .long a1)] [] h (some (.int r)) h2 := by
  unfold bX9_prior_0 at hf
  refine rt_aload_n (pc := 0) (k0 := 0) (x := a0) 0 rfl dX9_prior_0 ?_
  obtain ⟨v1, e2, hf⟩ := ob1 hf
  refine rt_gi (pc := 1) fd_X9_71 dX9_prior_1 e2 ?_
  by_cases c3 : v1 = 0
  · rw [if_pos c3] at hf
    refine rt_if_eq_p (pc := 4) (x := v1) (tgt := 10) (by decide) dX9_prior_4 c3 ?_
    refine rt_aload_n (pc := 10) (k0 := 0) (x := a0) 0 rfl dX9_prior_10 ?_
    obtain ⟨v4, e5, hf⟩ := ob1 hf
    refine rt_gr (pc := 11) fd_X9_33 dX9_prior_11 e5 ?_
    refine rt_lload_n (pc := 14) (k0 := 1) (x := a1) 1 rfl dX9_prior_14 ?_
    obtain ⟨v8, w7, e6, hf⟩ := ob2_of hf
    have g9 := sX1_firstNotBelow d (by omega) e6
    refine rt_callV (pc := 15) (As := [.long a1]) (st := []) me_X1_firstNotBelow mi_X1_firstNotBelow wl_X9_79 dX9_prior_15 rfl (by decide) rfl g9.1 g9.2 ?_
    refine rt_istore_n (pc := 18) (k0 := 3) (x := v8) (l2 := [(3, .int v8), (0, va_rf a0), (1, .long a1)]) (by decide) (by first | rfl | (simp [rt_cat, cat_i, cat_l]; done) | (simp [rt_cat, cat_i, cat_l]; decide)) dX9_prior_18 ?_
    refine rt_aload_n (pc := 19) (k0 := 0) (x := a0) 1 rfl dX9_prior_19 ?_
    refine rt_aload_n (pc := 20) (k0 := 0) (x := a0) 1 rfl dX9_prior_20 ?_
    obtain ⟨v10, e11, hf⟩ := ob1 hf
    refine rt_gr (pc := 21) fd_X9_33 dX9_prior_21 e11 ?_
    refine rt_iload_n (pc := 24) (k0 := 3) (x := v8) 0 rfl dX9_prior_24 ?_
    refine rt_lload_n (pc := 25) (k0 := 1) (x := a1) 2 rfl dX9_prior_25 ?_
    obtain ⟨v14, w13, e12, hf⟩ := ob2_of hf
    have g15 := sX1_hasAt d (by omega) e12
    refine rt_callV (pc := 26) (As := [.int v8, .long a1]) (st := [va_rf a0]) me_X1_hasAt mi_X1_hasAt wl_X9_87 dX9_prior_26 rfl (by simp [rt_cat, cat_i, cat_l]) rfl g15.1 g15.2 ?_
    by_cases c16 : v14 = 0
    · rw [if_pos c16] at hf
      refine rt_if_eq_p (pc := 29) (x := v14) (tgt := 36) (by decide) dX9_prior_29 c16 ?_
      refine rt_iload_n (pc := 36) (k0 := 3) (x := v8) 0 rfl dX9_prior_36 ?_
      refine rt_iconst (pc := 37) (n := 1) (v := (1 : Int32)) (by decide) dX9_prior_37 ?_
      refine rt_isub (pc := 38) (x := v8) (z := (1 : Int32)) dX9_prior_38 ?_
      exact rt_locals (rt_sub [] rfl) (rX9_prior_39 hd hf)
    rw [if_neg c16] at hf
    refine rt_if_eq_n (pc := 29) (x := v14) (tgt := 36) (by decide) dX9_prior_29 c16 ?_
    refine rt_iload_n (pc := 32) (k0 := 3) (x := v8) 0 rfl dX9_prior_32 ?_
    refine rt_goto (pc := 33) (tgt := 39) (by decide) dX9_prior_33 ?_
    exact rt_locals (rt_sub [] rfl) (rX9_prior_39 hd hf)
  rw [if_neg c3] at hf
  refine rt_if_eq_n (pc := 4) (x := v1) (tgt := 10) (by decide) dX9_prior_4 c3 ?_
  refine rt_bipush (pc := 7) (n := -4) (v := (-4 : Int32)) (by decide) dX9_prior_7 ?_
  cases hf
  exact rt_ret (pc := 9) dX9_prior_9 rfl
noncomputable def fX9_prior (E : ah_E) (a0 : Option Nat) (a1 : Int64) (h : ah_H) : Option (Int32 × ah_H) := if hp_rcv h a0 10 = false then none else bX9_prior_0 E a0 a1 h
set_option maxRecDepth 20000 in
set_option maxHeartbeats 4000000 in
theorem sX9_prior {X : ah_X} (d : Nat) (hd : 4 ≤ d) {a0 : Option Nat} {a1 : Int64} {h : ah_H} {r : Int32} {h2 : ah_H} (hf : fX9_prior X.2.2.2 a0 a1 h = some (r, h2)) : hp_rcv h a0 10 = true ∧ Rn X yX9_prior cX9_prior 4 (some .int) d [va_rf a0, .long a1] h (some (.int r)) h2 := by
  unfold fX9_prior at hf
  by_cases c0 : hp_rcv h a0 10 = false
  · rw [if_pos c0] at hf; cases hf
  rw [if_neg c0] at hf
  refine ⟨(Bool.not_eq_false _).mp c0, ?_⟩
  obtain ⟨d, rfl⟩ : ∃ k, d = k + 1 := ⟨d - 1, by omega⟩
  exact Rn.of2 me_X9_prior (by simp [lg_sl, rt_cat, cat_i, cat_l]) (ok_i _) (l := [(0, va_rf a0), (1, .long a1)]) (by simp [lv_args, rt_cat, cat_i, cat_l]) (rX9_prior_0 (by omega) hf)
noncomputable def bX9_put_44 (E : ah_E) (a0 : Option Nat) (a1 : Int64) (s0 : Int32) (h : ah_H) : Option (Int32 × ah_H) :=
  ob2 (fX9_write E a0 (1 : Int32) a1 a1 (0 : Int32) h) fun v3 w2 =>
  some (s0, w2)
set_option maxRecDepth 20000 in
set_option maxHeartbeats 4000000 in
theorem rX9_put_44 {X : ah_X} {d : Nat} (hd : 102 ≤ d) {a0 : Option Nat} {a1 : Int64} {s0 : Int32} {h : ah_H} {r : Int32} {h2 : ah_H} (hf : bX9_put_44 X.2.2.2 a0 a1 s0 h = some (r, h2)) : Rt X yX9_put cX9_put 5 (d + 1) 44 [(0, va_rf a0), (1, .long a1)] [.int s0] h (some (.int r)) h2 := by
  unfold bX9_put_44 at hf
  refine rt_istore (pc := 44) (i := 4) (x := s0) (l2 := [(4, .int s0), (0, va_rf a0), (1, .long a1)]) (by decide) (by first | rfl | (simp [rt_cat, cat_i, cat_l]; done) | (simp [rt_cat, cat_i, cat_l]; decide)) dX9_put_44 ?_
  refine rt_aload_n (pc := 46) (k0 := 0) (x := a0) 1 rfl dX9_put_46 ?_
  refine rt_iconst (pc := 47) (n := 1) (v := (1 : Int32)) (by decide) dX9_put_47 ?_
  refine rt_lload_n (pc := 48) (k0 := 1) (x := a1) 2 rfl dX9_put_48 ?_
  refine rt_lload_n (pc := 49) (k0 := 1) (x := a1) 2 rfl dX9_put_49 ?_
  refine rt_iconst (pc := 50) (n := 0) (v := (0 : Int32)) (by decide) dX9_put_50 ?_
  obtain ⟨v3, w2, e1, hf⟩ := ob2_of hf
  have g4 := sX9_write d (by omega) e1
  refine rt_callV (pc := 51) (As := [.int (1 : Int32), .long a1, .long a1, .int (0 : Int32)]) (st := []) me_X9_write mi_X9_write wl_X9_67 dX9_put_51 rfl (by decide) rfl g4.1 g4.2 ?_
  refine rt_pop (pc := 54) rfl dX9_put_54 ?_
  refine rt_iload (pc := 55) (i := 4) (x := s0) 0 rfl dX9_put_55 ?_
  cases hf
  exact rt_ret (pc := 57) dX9_put_57 rfl
noncomputable def bX9_put_18 (E : ah_E) (a0 : Option Nat) (a1 : Int64) (s0 : Option Nat) (s1 : Int32) (h : ah_H) : Option (Int32 × ah_H) :=
  ob2 (fX9_writeRefusal E s0 s1 h) fun v3 w2 =>
  if v3 = 0 then
    (hp_gr w2 a0 10 3).bind fun v6 =>
    ob2 (fX1_rowOf E v6 a1 w2) fun v10 w9 =>
    if v10 = none then
      bX9_put_44 E a0 a1 (0 : Int32) w9
    else
    bX9_put_44 E a0 a1 (1 : Int32) w9
  else
  some (v3, w2)
set_option maxRecDepth 20000 in
set_option maxHeartbeats 4000000 in
theorem rX9_put_18 {X : ah_X} {d : Nat} (hd : 102 ≤ d) {a0 : Option Nat} {a1 : Int64} {s0 : Option Nat} {s1 : Int32} {h : ah_H} {r : Int32} {h2 : ah_H} (hf : bX9_put_18 X.2.2.2 a0 a1 s0 s1 h = some (r, h2)) : Rt X yX9_put cX9_put 5 (d + 1) 18 [(0, va_rf a0), (1, .long a1)] [.int s1, va_rf s0] h (some (.int r)) h2 := by
  unfold bX9_put_18 at hf
  obtain ⟨v3, w2, e1, hf⟩ := ob2_of hf
  have g4 := sX9_writeRefusal d (by omega) e1
  refine rt_callV (pc := 18) (As := [.int s1]) (st := []) me_X9_writeRefusal mi_X9_writeRefusal wl_X9_59 dX9_put_18 rfl (by decide) rfl g4.1 g4.2 ?_
  refine rt_istore_n (pc := 21) (k0 := 3) (x := v3) (l2 := [(3, .int v3), (0, va_rf a0), (1, .long a1)]) (by decide) (by first | rfl | (simp [rt_cat, cat_i, cat_l]; done) | (simp [rt_cat, cat_i, cat_l]; decide)) dX9_put_21 ?_
  refine rt_iload_n (pc := 22) (k0 := 3) (x := v3) 0 rfl dX9_put_22 ?_
  by_cases c5 : v3 = 0
  · rw [if_pos c5] at hf
    refine rt_if_eq_p (pc := 23) (x := v3) (tgt := 28) (by decide) dX9_put_23 c5 ?_
    refine rt_aload_n (pc := 28) (k0 := 0) (x := a0) 1 rfl dX9_put_28 ?_
    obtain ⟨v6, e7, hf⟩ := ob1 hf
    refine rt_gr (pc := 29) fd_X9_33 dX9_put_29 e7 ?_
    refine rt_lload_n (pc := 32) (k0 := 1) (x := a1) 2 rfl dX9_put_32 ?_
    obtain ⟨v10, w9, e8, hf⟩ := ob2_of hf
    have g11 := sX1_rowOf d (by omega) e8
    refine rt_callV (pc := 33) (As := [.long a1]) (st := []) me_X1_rowOf mi_X1_rowOf wl_X9_63 dX9_put_33 rfl (by decide) rfl g11.1 g11.2 ?_
    by_cases c12 : v10 = none
    · rw [if_pos c12] at hf
      refine rt_ifnonnull_p (pc := 36) (x := v10) (tgt := 43) (by decide) dX9_put_36 c12 ?_
      refine rt_iconst (pc := 39) (n := 0) (v := (0 : Int32)) (by decide) dX9_put_39 ?_
      refine rt_goto (pc := 40) (tgt := 44) (by decide) dX9_put_40 ?_
      exact rt_locals (rt_sub [1, 2] rfl) (rX9_put_44 hd hf)
    rw [if_neg c12] at hf
    refine rt_ifnonnull_n (pc := 36) (x := v10) (tgt := 43) (by decide) dX9_put_36 c12 ?_
    refine rt_iconst (pc := 43) (n := 1) (v := (1 : Int32)) (by decide) dX9_put_43 ?_
    exact rt_locals (rt_sub [1, 2] rfl) (rX9_put_44 hd hf)
  rw [if_neg c5] at hf
  refine rt_if_eq_n (pc := 23) (x := v3) (tgt := 28) (by decide) dX9_put_23 c5 ?_
  refine rt_iload_n (pc := 26) (k0 := 3) (x := v3) 0 rfl dX9_put_26 ?_
  cases hf
  exact rt_ret (pc := 27) dX9_put_27 rfl
noncomputable def bX9_put_0 (E : ah_E) (a0 : Option Nat) (a1 : Int64) (h : ah_H) : Option (Int32 × ah_H) :=
  (hp_gr h a0 10 0).bind fun v1 =>
  (hp_gi h v1 8 1).bind fun v3 =>
  if v3 ≤ (20 : Int32) then
    bX9_put_18 E a0 a1 a0 (0 : Int32) h
  else
  bX9_put_18 E a0 a1 a0 (1 : Int32) h
set_option maxRecDepth 20000 in
set_option maxHeartbeats 4000000 in
theorem rX9_put_0 {X : ah_X} {d : Nat} (hd : 102 ≤ d) {a0 : Option Nat} {a1 : Int64} {h : ah_H} {r : Int32} {h2 : ah_H} (hf : bX9_put_0 X.2.2.2 a0 a1 h = some (r, h2)) : Rt X yX9_put cX9_put 5 (d + 1) 0 [(0, va_rf a0), (1, .long a1)] [] h (some (.int r)) h2 := by
  unfold bX9_put_0 at hf
  refine rt_aload_n (pc := 0) (k0 := 0) (x := a0) 0 rfl dX9_put_0 ?_
  refine rt_aload_n (pc := 1) (k0 := 0) (x := a0) 0 rfl dX9_put_1 ?_
  obtain ⟨v1, e2, hf⟩ := ob1 hf
  refine rt_gr (pc := 2) fd_X9_10 dX9_put_2 e2 ?_
  obtain ⟨v3, e4, hf⟩ := ob1 hf
  refine rt_gi (pc := 5) fd_X9_47 dX9_put_5 e4 ?_
  refine rt_bipush (pc := 8) (n := 20) (v := (20 : Int32)) (by decide) dX9_put_8 ?_
  by_cases c5 : v3 ≤ (20 : Int32)
  · rw [if_pos c5] at hf
    refine rt_icmp_le_p (pc := 10) (x := v3) (z := (20 : Int32)) (tgt := 17) (by decide) dX9_put_10 c5 ?_
    refine rt_iconst (pc := 17) (n := 0) (v := (0 : Int32)) (by decide) dX9_put_17 ?_
    exact rX9_put_18 hd hf
  rw [if_neg c5] at hf
  refine rt_icmp_le_n (pc := 10) (x := v3) (z := (20 : Int32)) (tgt := 17) (by decide) dX9_put_10 c5 ?_
  refine rt_iconst (pc := 13) (n := 1) (v := (1 : Int32)) (by decide) dX9_put_13 ?_
  refine rt_goto (pc := 14) (tgt := 18) (by decide) dX9_put_14 ?_
  exact rX9_put_18 hd hf
noncomputable def fX9_put (E : ah_E) (a0 : Option Nat) (a1 : Int64) (h : ah_H) : Option (Int32 × ah_H) := if hp_rcv h a0 10 = false then none else bX9_put_0 E a0 a1 h
set_option maxRecDepth 20000 in
set_option maxHeartbeats 4000000 in
theorem sX9_put {X : ah_X} (d : Nat) (hd : 103 ≤ d) {a0 : Option Nat} {a1 : Int64} {h : ah_H} {r : Int32} {h2 : ah_H} (hf : fX9_put X.2.2.2 a0 a1 h = some (r, h2)) : hp_rcv h a0 10 = true ∧ Rn X yX9_put cX9_put 5 (some .int) d [va_rf a0, .long a1] h (some (.int r)) h2 := by
  unfold fX9_put at hf
  by_cases c0 : hp_rcv h a0 10 = false
  · rw [if_pos c0] at hf; cases hf
  rw [if_neg c0] at hf
  refine ⟨(Bool.not_eq_false _).mp c0, ?_⟩
  obtain ⟨d, rfl⟩ : ∃ k, d = k + 1 := ⟨d - 1, by omega⟩
  exact Rn.of2 me_X9_put (by simp [lg_sl, rt_cat, cat_i, cat_l]) (ok_i _) (l := [(0, va_rf a0), (1, .long a1)]) (by simp [lv_args, rt_cat, cat_i, cat_l]) (rX9_put_0 (by omega) hf)
noncomputable def bX9_release_0 (E : ah_E) (a0 : Option Nat) (a1 : Int32) (h : ah_H) : Option (Int32 × ah_H) :=
  (hp_gi h a0 10 9).bind fun v1 =>
  if v1 = 0 then
    ob2 (fX9_pictureIndex E a0 a1 h) fun v6 w5 =>
    if 0 ≤ v6 then
      (hp_gr w5 a0 10 4).bind fun v9 =>
      ob2 (fJx4a65c_remove_915e3 E v9 v6 w5) fun v13 w12 =>
      (hp_gr w12 a0 10 4).bind fun v15 =>
      ob2 (fJx4a65c_size_8abf5 E v15 w12) fun v19 w18 =>
      some (v19, w18)
    else
    some ((-1 : Int32), w5)
  else
  some ((-4 : Int32), h)
set_option maxRecDepth 20000 in
set_option maxHeartbeats 4000000 in
theorem rX9_release_0 {X : ah_X} {d : Nat} (hd : 3 ≤ d) {a0 : Option Nat} {a1 : Int32} {h : ah_H} {r : Int32} {h2 : ah_H} (hf : bX9_release_0 X.2.2.2 a0 a1 h = some (r, h2)) : Rt X yX9_release cX9_release 3 (d + 1) 0 [(0, va_rf a0), (1, .int a1)] [] h (some (.int r)) h2 := by
  unfold bX9_release_0 at hf
  refine rt_aload_n (pc := 0) (k0 := 0) (x := a0) 0 rfl dX9_release_0 ?_
  obtain ⟨v1, e2, hf⟩ := ob1 hf
  refine rt_gi (pc := 1) fd_X9_71 dX9_release_1 e2 ?_
  by_cases c3 : v1 = 0
  · rw [if_pos c3] at hf
    refine rt_if_eq_p (pc := 4) (x := v1) (tgt := 10) (by decide) dX9_release_4 c3 ?_
    refine rt_aload_n (pc := 10) (k0 := 0) (x := a0) 0 rfl dX9_release_10 ?_
    refine rt_iload_n (pc := 11) (k0 := 1) (x := a1) 1 rfl dX9_release_11 ?_
    obtain ⟨v6, w5, e4, hf⟩ := ob2_of hf
    have g7 := sX9_pictureIndex d (by omega) e4
    refine rt_callV (pc := 12) (As := [.int a1]) (st := []) me_X9_pictureIndex mi_X9_pictureIndex wl_X9_190 dX9_release_12 rfl (by decide) rfl g7.1 g7.2 ?_
    refine rt_istore_n (pc := 15) (k0 := 2) (x := v6) (l2 := [(2, .int v6), (0, va_rf a0), (1, .int a1)]) (by decide) (by first | rfl | (simp [rt_cat, cat_i, cat_l]; done) | (simp [rt_cat, cat_i, cat_l]; decide)) dX9_release_15 ?_
    refine rt_iload_n (pc := 16) (k0 := 2) (x := v6) 0 rfl dX9_release_16 ?_
    by_cases c8 : 0 ≤ v6
    · rw [if_pos c8] at hf
      refine rt_if_ge_p (pc := 17) (x := v6) (tgt := 22) (by decide) dX9_release_17 c8 ?_
      refine rt_aload_n (pc := 22) (k0 := 0) (x := a0) 1 rfl dX9_release_22 ?_
      obtain ⟨v9, e10, hf⟩ := ob1 hf
      refine rt_gr (pc := 23) fd_X9_40 dX9_release_23 e10 ?_
      refine rt_iload_n (pc := 26) (k0 := 2) (x := v6) 0 rfl dX9_release_26 ?_
      obtain ⟨v13, w12, e11, hf⟩ := ob2_of hf
      have g14 := sJx4a65c_remove_915e3 d (by omega) e11
      refine rt_callV (pc := 27) (As := [.int v6]) (st := []) me_Jx4a65c_remove_915e3 mi_Jx4a65c_remove_915e3 wl_X9_198 dX9_release_27 rfl (by decide) rfl g14.1 g14.2 ?_
      refine rt_pop (pc := 30) (rt_cat _) dX9_release_30 ?_
      refine rt_aload_n (pc := 31) (k0 := 0) (x := a0) 1 rfl dX9_release_31 ?_
      obtain ⟨v15, e16, hf⟩ := ob1 hf
      refine rt_gr (pc := 32) fd_X9_40 dX9_release_32 e16 ?_
      obtain ⟨v19, w18, e17, hf⟩ := ob2_of hf
      have g20 := sJx4a65c_size_8abf5 d (by omega) e17
      refine rt_callV (pc := 35) (As := []) (st := []) me_Jx4a65c_size_8abf5 mi_Jx4a65c_size_8abf5 wl_X9_98 dX9_release_35 rfl (by decide) rfl g20.1 g20.2 ?_
      cases hf
      exact rt_ret (pc := 38) dX9_release_38 rfl
    rw [if_neg c8] at hf
    refine rt_if_ge_n (pc := 17) (x := v6) (tgt := 22) (by decide) dX9_release_17 c8 ?_
    refine rt_iconst (pc := 20) (n := -1) (v := (-1 : Int32)) (by decide) dX9_release_20 ?_
    cases hf
    exact rt_ret (pc := 21) dX9_release_21 rfl
  rw [if_neg c3] at hf
  refine rt_if_eq_n (pc := 4) (x := v1) (tgt := 10) (by decide) dX9_release_4 c3 ?_
  refine rt_bipush (pc := 7) (n := -4) (v := (-4 : Int32)) (by decide) dX9_release_7 ?_
  cases hf
  exact rt_ret (pc := 9) dX9_release_9 rfl
noncomputable def fX9_release (E : ah_E) (a0 : Option Nat) (a1 : Int32) (h : ah_H) : Option (Int32 × ah_H) := if hp_rcv h a0 10 = false then none else bX9_release_0 E a0 a1 h
set_option maxRecDepth 20000 in
set_option maxHeartbeats 4000000 in
theorem sX9_release {X : ah_X} (d : Nat) (hd : 4 ≤ d) {a0 : Option Nat} {a1 : Int32} {h : ah_H} {r : Int32} {h2 : ah_H} (hf : fX9_release X.2.2.2 a0 a1 h = some (r, h2)) : hp_rcv h a0 10 = true ∧ Rn X yX9_release cX9_release 3 (some .int) d [va_rf a0, .int a1] h (some (.int r)) h2 := by
  unfold fX9_release at hf
  by_cases c0 : hp_rcv h a0 10 = false
  · rw [if_pos c0] at hf; cases hf
  rw [if_neg c0] at hf
  refine ⟨(Bool.not_eq_false _).mp c0, ?_⟩
  obtain ⟨d, rfl⟩ : ∃ k, d = k + 1 := ⟨d - 1, by omega⟩
  exact Rn.of2 me_X9_release (by simp [lg_sl, rt_cat, cat_i, cat_l]) (ok_i _) (l := [(0, va_rf a0), (1, .int a1)]) (by simp [lv_args, rt_cat, cat_i, cat_l]) (rX9_release_0 (by omega) hf)
noncomputable def bX9_adopt_0 (E : ah_E) (a0 : Option Nat) (a1 : Option Nat) (h : ah_H) : Option ah_H :=
  (hp_gr h a0 10 2).bind fun v1 =>
  (hp_gr h a1 4 2).bind fun v3 =>
  (hp_pv h v1 9 0 (va_rf v3)).bind fun w5 =>
  (hp_gr w5 a1 4 2).bind fun v7 =>
  (hp_gr w5 a0 10 3).bind fun v9 =>
  (fX8_gather E zd v7 v9 (0 : Int32) w5).bind fun w12 =>
  (hp_gr w12 a1 4 4).bind fun v14 =>
  (hp_gr w12 a0 10 4).bind fun v16 =>
  (fX9_copyPictures E v14 v16 w12).bind fun w19 =>
  (hp_gi w19 a1 4 1).bind fun v21 =>
  (hp_pv w19 a0 10 6 (.int v21)).bind fun w23 =>
  (hp_gi w23 a1 4 0).bind fun v25 =>
  (hp_pv w23 a0 10 7 (.int v25)).bind fun w27 =>
  some w27
set_option maxRecDepth 20000 in
set_option maxHeartbeats 4000000 in
theorem rX9_adopt_0 {X : ah_X} {d : Nat} (hd : 52 ≤ d) {a0 : Option Nat} {a1 : Option Nat} {h : ah_H} {h2 : ah_H} (hf : bX9_adopt_0 X.2.2.2 a0 a1 h = some h2) : Rt X yX9_adopt cX9_adopt 2 (d + 1) 0 [(0, va_rf a0), (1, va_rf a1)] [] h none h2 := by
  unfold bX9_adopt_0 at hf
  refine rt_aload_n (pc := 0) (k0 := 0) (x := a0) 0 rfl dX9_adopt_0 ?_
  obtain ⟨v1, e2, hf⟩ := ob1 hf
  refine rt_gr (pc := 1) fd_X9_26 dX9_adopt_1 e2 ?_
  refine rt_aload_n (pc := 4) (k0 := 1) (x := a1) 1 rfl dX9_adopt_4 ?_
  obtain ⟨v3, e4, hf⟩ := ob1 hf
  refine rt_gr (pc := 5) fd_X9_231 dX9_adopt_5 e4 ?_
  obtain ⟨w5, e6, hf⟩ := ob1 hf
  refine rt_putf (pc := 8) (x := v1) fw_X9_107 (Or.inl rfl) (pf_o _ _).1 (pf_o _ _).2 dX9_adopt_8 e6 ?_
  refine rt_aload_n (pc := 11) (k0 := 1) (x := a1) 1 rfl dX9_adopt_11 ?_
  obtain ⟨v7, e8, hf⟩ := ob1 hf
  refine rt_gr (pc := 12) fd_X9_231 dX9_adopt_12 e8 ?_
  refine rt_aload_n (pc := 15) (k0 := 0) (x := a0) 0 rfl dX9_adopt_15 ?_
  obtain ⟨v9, e10, hf⟩ := ob1 hf
  refine rt_gr (pc := 16) fd_X9_33 dX9_adopt_16 e10 ?_
  refine rt_iconst (pc := 19) (n := 0) (v := (0 : Int32)) (by decide) dX9_adopt_19 ?_
  obtain ⟨w12, e11, hf⟩ := ob1 hf
  have g13 := sX8_gather zd d (by unfold zd; omega) _ _ _ _ _ e11
  refine rt_callSN (pc := 20) (As := [va_rf v7, va_rf v9, .int (0 : Int32)]) (st := []) me_X8_gather ms_X8_gather wln_X9_294 dX9_adopt_20 rfl (by decide) rfl g13 ?_
  refine rt_aload_n (pc := 23) (k0 := 1) (x := a1) 1 rfl dX9_adopt_23 ?_
  obtain ⟨v14, e15, hf⟩ := ob1 hf
  refine rt_gr (pc := 24) fd_X9_230 dX9_adopt_24 e15 ?_
  refine rt_aload_n (pc := 27) (k0 := 0) (x := a0) 0 rfl dX9_adopt_27 ?_
  obtain ⟨v16, e17, hf⟩ := ob1 hf
  refine rt_gr (pc := 28) fd_X9_40 dX9_adopt_28 e17 ?_
  obtain ⟨w19, e18, hf⟩ := ob1 hf
  have g20 := sX9_copyPictures d (by omega) e18
  refine rt_callS (pc := 31) (As := [va_rf v14, va_rf v16]) (st := []) me_X9_copyPictures ms_X9_copyPictures wl_X9_278 dX9_adopt_31 rfl (by decide) rfl g20 ?_
  refine rt_aload_n (pc := 34) (k0 := 0) (x := a0) 0 rfl dX9_adopt_34 ?_
  refine rt_aload_n (pc := 35) (k0 := 1) (x := a1) 1 rfl dX9_adopt_35 ?_
  obtain ⟨v21, e22, hf⟩ := ob1 hf
  refine rt_gi (pc := 36) fd_X9_229 dX9_adopt_36 e22 ?_
  obtain ⟨w23, e24, hf⟩ := ob1 hf
  refine rt_putf (pc := 39) (x := a0) fw_X9_236 (Or.inl rfl) (pf_i _).1 (pf_i _).2 dX9_adopt_39 e24 ?_
  refine rt_aload_n (pc := 42) (k0 := 0) (x := a0) 0 rfl dX9_adopt_42 ?_
  refine rt_aload_n (pc := 43) (k0 := 1) (x := a1) 1 rfl dX9_adopt_43 ?_
  obtain ⟨v25, e26, hf⟩ := ob1 hf
  refine rt_gi (pc := 44) fd_X9_226 dX9_adopt_44 e26 ?_
  obtain ⟨w27, e28, hf⟩ := ob1 hf
  refine rt_putf (pc := 47) (x := a0) fw_X9_219 (Or.inl rfl) (pf_i _).1 (pf_i _).2 dX9_adopt_47 e28 ?_
  cases hf
  exact rt_ret (pc := 50) dX9_adopt_50 rfl
noncomputable def fX9_adopt (E : ah_E) (a0 : Option Nat) (a1 : Option Nat) (h : ah_H) : Option ah_H := if hp_rcv h a0 10 = false then none else bX9_adopt_0 E a0 a1 h
set_option maxRecDepth 20000 in
set_option maxHeartbeats 4000000 in
theorem sX9_adopt {X : ah_X} (d : Nat) (hd : 53 ≤ d) {a0 : Option Nat} {a1 : Option Nat} {h : ah_H} {h2 : ah_H} (hf : fX9_adopt X.2.2.2 a0 a1 h = some h2) : hp_rcv h a0 10 = true ∧ Rn X yX9_adopt cX9_adopt 2 none d [va_rf a0, va_rf a1] h none h2 := by
  unfold fX9_adopt at hf
  by_cases c0 : hp_rcv h a0 10 = false
  · rw [if_pos c0] at hf; cases hf
  rw [if_neg c0] at hf
  refine ⟨(Bool.not_eq_false _).mp c0, ?_⟩
  obtain ⟨d, rfl⟩ : ∃ k, d = k + 1 := ⟨d - 1, by omega⟩
  exact Rn.of2 me_X9_adopt (by simp [lg_sl, rt_cat, cat_i, cat_l]) rfl (l := [(0, va_rf a0), (1, va_rf a1)]) (by simp [lv_args, rt_cat, cat_i, cat_l]) (rX9_adopt_0 (by omega) hf)
noncomputable def bX9_rise_42 (E : ah_E) (a0 : Option Nat) (h : ah_H) : Option (Int32 × ah_H) :=
  (hp_gi h a0 10 7).bind fun v1 =>
  some (v1, h)
set_option maxRecDepth 20000 in
set_option maxHeartbeats 4000000 in
theorem rX9_rise_42 {X : ah_X} {d : Nat} (hd : 53 ≤ d) {a0 : Option Nat} {h : ah_H} {r : Int32} {h2 : ah_H} (hf : bX9_rise_42 X.2.2.2 a0 h = some (r, h2)) : Rt X yX9_rise cX9_rise 2 (d + 1) 42 [(0, va_rf a0)] [] h (some (.int r)) h2 := by
  unfold bX9_rise_42 at hf
  refine rt_aload_n (pc := 42) (k0 := 0) (x := a0) 0 rfl dX9_rise_42 ?_
  obtain ⟨v1, e2, hf⟩ := ob1 hf
  refine rt_gi (pc := 43) fd_X9_219 dX9_rise_43 e2 ?_
  cases hf
  exact rt_ret (pc := 46) dX9_rise_46 rfl
noncomputable def bX9_rise_0 (E : ah_E) (a0 : Option Nat) (h : ah_H) : Option (Int32 × ah_H) :=
  (hp_gi h a0 10 9).bind fun v1 =>
  if v1 = 0 then
    some ((-2 : Int32), h)
  else
  (fX9_startAnew E a0 h).bind fun w5 =>
  (hp_gr w5 a0 10 1).bind fun v7 =>
  ob2 (fX0_latestHead E v7 w5) fun v11 w10 =>
  if v11 = none then
    bX9_rise_42 E a0 w10
  else
  (fX9_adopt E a0 v11 w10).bind fun w15 =>
  (hp_gr w15 a0 10 1).bind fun v17 =>
  ob2 (fX0_greatestPicture E v17 w15) fun v21 w20 =>
  (hp_pv w20 a0 10 5 (.int v21)).bind fun w23 =>
  bX9_rise_42 E a0 w23
set_option maxRecDepth 20000 in
set_option maxHeartbeats 4000000 in
theorem rX9_rise_0 {X : ah_X} {d : Nat} (hd : 53 ≤ d) {a0 : Option Nat} {h : ah_H} {r : Int32} {h2 : ah_H} (hf : bX9_rise_0 X.2.2.2 a0 h = some (r, h2)) : Rt X yX9_rise cX9_rise 2 (d + 1) 0 [(0, va_rf a0)] [] h (some (.int r)) h2 := by
  unfold bX9_rise_0 at hf
  refine rt_aload_n (pc := 0) (k0 := 0) (x := a0) 0 rfl dX9_rise_0 ?_
  obtain ⟨v1, e2, hf⟩ := ob1 hf
  refine rt_gi (pc := 1) fd_X9_71 dX9_rise_1 e2 ?_
  by_cases c3 : v1 = 0
  · rw [if_pos c3] at hf
    refine rt_if_ne_p (pc := 4) (x := v1) (tgt := 10) (by decide) dX9_rise_4 c3 ?_
    refine rt_bipush (pc := 7) (n := -2) (v := (-2 : Int32)) (by decide) dX9_rise_7 ?_
    cases hf
    exact rt_ret (pc := 9) dX9_rise_9 rfl
  rw [if_neg c3] at hf
  refine rt_if_ne_n (pc := 4) (x := v1) (tgt := 10) (by decide) dX9_rise_4 c3 ?_
  refine rt_aload_n (pc := 10) (k0 := 0) (x := a0) 0 rfl dX9_rise_10 ?_
  obtain ⟨w5, e4, hf⟩ := ob1 hf
  have g6 := sX9_startAnew d (by omega) e4
  refine rt_callV (pc := 11) (As := []) (st := []) me_X9_startAnew mi_X9_startAnew wl_X9_44 dX9_rise_11 rfl (by decide) rfl g6.1 g6.2 ?_
  refine rt_aload_n (pc := 14) (k0 := 0) (x := a0) 0 rfl dX9_rise_14 ?_
  obtain ⟨v7, e8, hf⟩ := ob1 hf
  refine rt_gr (pc := 15) fd_X9_19 dX9_rise_15 e8 ?_
  obtain ⟨v11, w10, e9, hf⟩ := ob2_of hf
  have g12 := sX0_latestHead d (by omega) e9
  refine rt_callV (pc := 18) (As := []) (st := []) me_X0_latestHead mi_X0_latestHead wl_X9_208 dX9_rise_18 rfl (by decide) rfl g12.1 g12.2 ?_
  refine rt_astore_n (pc := 21) (k0 := 1) (x := v11) (l2 := [(1, va_rf v11), (0, va_rf a0)]) (by decide) (by first | rfl | (simp [rt_cat, cat_i, cat_l]; done) | (simp [rt_cat, cat_i, cat_l]; decide)) dX9_rise_21 ?_
  refine rt_aload_n (pc := 22) (k0 := 1) (x := v11) 0 rfl dX9_rise_22 ?_
  by_cases c13 : v11 = none
  · rw [if_pos c13] at hf
    refine rt_ifnull_p (pc := 23) (x := v11) (tgt := 42) (by decide) dX9_rise_23 c13 ?_
    exact rt_locals (rt_sub [1] rfl) (rX9_rise_42 hd hf)
  rw [if_neg c13] at hf
  refine rt_ifnull_n (pc := 23) (x := v11) (tgt := 42) (by decide) dX9_rise_23 c13 ?_
  refine rt_aload_n (pc := 26) (k0 := 0) (x := a0) 1 rfl dX9_rise_26 ?_
  refine rt_aload_n (pc := 27) (k0 := 1) (x := v11) 0 rfl dX9_rise_27 ?_
  obtain ⟨w15, e14, hf⟩ := ob1 hf
  have g16 := sX9_adopt d (by omega) e14
  refine rt_callV (pc := 28) (As := [va_rf v11]) (st := []) me_X9_adopt mi_X9_adopt wl_X9_212 dX9_rise_28 rfl (by decide) rfl g16.1 g16.2 ?_
  refine rt_aload_n (pc := 31) (k0 := 0) (x := a0) 1 rfl dX9_rise_31 ?_
  refine rt_aload_n (pc := 32) (k0 := 0) (x := a0) 1 rfl dX9_rise_32 ?_
  obtain ⟨v17, e18, hf⟩ := ob1 hf
  refine rt_gr (pc := 33) fd_X9_19 dX9_rise_33 e18 ?_
  obtain ⟨v21, w20, e19, hf⟩ := ob2_of hf
  have g22 := sX0_greatestPicture d (by omega) e19
  refine rt_callV (pc := 36) (As := []) (st := [va_rf a0]) me_X0_greatestPicture mi_X0_greatestPicture wl_X9_216 dX9_rise_36 rfl (by simp [rt_cat, cat_i, cat_l]) rfl g22.1 g22.2 ?_
  obtain ⟨w23, e24, hf⟩ := ob1 hf
  refine rt_putf (pc := 39) (x := a0) fw_X9_178 (Or.inl rfl) (pf_i _).1 (pf_i _).2 dX9_rise_39 e24 ?_
  exact rt_locals (rt_sub [1] rfl) (rX9_rise_42 hd hf)
noncomputable def fX9_rise (E : ah_E) (a0 : Option Nat) (h : ah_H) : Option (Int32 × ah_H) := if hp_rcv h a0 10 = false then none else bX9_rise_0 E a0 h
set_option maxRecDepth 20000 in
set_option maxHeartbeats 4000000 in
theorem sX9_rise {X : ah_X} (d : Nat) (hd : 54 ≤ d) {a0 : Option Nat} {h : ah_H} {r : Int32} {h2 : ah_H} (hf : fX9_rise X.2.2.2 a0 h = some (r, h2)) : hp_rcv h a0 10 = true ∧ Rn X yX9_rise cX9_rise 2 (some .int) d [va_rf a0] h (some (.int r)) h2 := by
  unfold fX9_rise at hf
  by_cases c0 : hp_rcv h a0 10 = false
  · rw [if_pos c0] at hf; cases hf
  rw [if_neg c0] at hf
  refine ⟨(Bool.not_eq_false _).mp c0, ?_⟩
  obtain ⟨d, rfl⟩ : ∃ k, d = k + 1 := ⟨d - 1, by omega⟩
  exact Rn.of2 me_X9_rise (by simp [lg_sl, rt_cat, cat_i, cat_l]) (ok_i _) (l := [(0, va_rf a0)]) (by simp [lv_args, rt_cat, cat_i, cat_l]) (rX9_rise_0 (by omega) hf)
noncomputable def bX9_settle_19 (E : ah_E) (s0 : Int32) (h : ah_H) : Option (Int32 × ah_H) :=
  some (s0, h)
set_option maxRecDepth 20000 in
set_option maxHeartbeats 4000000 in
theorem rX9_settle_19 {X : ah_X} {d : Nat} (hd : 149 ≤ d) {s0 : Int32} {h : ah_H} {r : Int32} {h2 : ah_H} (hf : bX9_settle_19 X.2.2.2 s0 h = some (r, h2)) : Rt X yX9_settle cX9_settle 1 (d + 1) 19 [] [.int s0] h (some (.int r)) h2 := by
  unfold bX9_settle_19 at hf
  cases hf
  exact rt_ret (pc := 19) dX9_settle_19 rfl
noncomputable def bX9_settle_0 (E : ah_E) (a0 : Option Nat) (h : ah_H) : Option (Int32 × ah_H) :=
  (hp_gi h a0 10 9).bind fun v1 =>
  if v1 = 0 then
    (hp_gr h a0 10 2).bind fun v4 =>
    ob2 (fX8_settleAll E v4 h) fun v8 w7 =>
    bX9_settle_19 E v8 w7
  else
  bX9_settle_19 E (-4 : Int32) h
set_option maxRecDepth 20000 in
set_option maxHeartbeats 4000000 in
theorem rX9_settle_0 {X : ah_X} {d : Nat} (hd : 149 ≤ d) {a0 : Option Nat} {h : ah_H} {r : Int32} {h2 : ah_H} (hf : bX9_settle_0 X.2.2.2 a0 h = some (r, h2)) : Rt X yX9_settle cX9_settle 1 (d + 1) 0 [(0, va_rf a0)] [] h (some (.int r)) h2 := by
  unfold bX9_settle_0 at hf
  refine rt_aload_n (pc := 0) (k0 := 0) (x := a0) 0 rfl dX9_settle_0 ?_
  obtain ⟨v1, e2, hf⟩ := ob1 hf
  refine rt_gi (pc := 1) fd_X9_71 dX9_settle_1 e2 ?_
  by_cases c3 : v1 = 0
  · rw [if_pos c3] at hf
    refine rt_if_eq_p (pc := 4) (x := v1) (tgt := 12) (by decide) dX9_settle_4 c3 ?_
    refine rt_aload_n (pc := 12) (k0 := 0) (x := a0) 0 rfl dX9_settle_12 ?_
    obtain ⟨v4, e5, hf⟩ := ob1 hf
    refine rt_gr (pc := 13) fd_X9_26 dX9_settle_13 e5 ?_
    obtain ⟨v8, w7, e6, hf⟩ := ob2_of hf
    have g9 := sX8_settleAll d (by omega) e6
    refine rt_callV (pc := 16) (As := []) (st := []) me_X8_settleAll mi_X8_settleAll wl_X9_104 dX9_settle_16 rfl (by decide) rfl g9.1 g9.2 ?_
    exact rt_locals (rt_sub [] rfl) (rX9_settle_19 hd hf)
  rw [if_neg c3] at hf
  refine rt_if_eq_n (pc := 4) (x := v1) (tgt := 12) (by decide) dX9_settle_4 c3 ?_
  refine rt_bipush (pc := 7) (n := -4) (v := (-4 : Int32)) (by decide) dX9_settle_7 ?_
  refine rt_goto (pc := 9) (tgt := 19) (by decide) dX9_settle_9 ?_
  exact rt_locals (rt_sub [] rfl) (rX9_settle_19 hd hf)
noncomputable def fX9_settle (E : ah_E) (a0 : Option Nat) (h : ah_H) : Option (Int32 × ah_H) := if hp_rcv h a0 10 = false then none else bX9_settle_0 E a0 h
set_option maxRecDepth 20000 in
set_option maxHeartbeats 4000000 in
theorem sX9_settle {X : ah_X} (d : Nat) (hd : 150 ≤ d) {a0 : Option Nat} {h : ah_H} {r : Int32} {h2 : ah_H} (hf : fX9_settle X.2.2.2 a0 h = some (r, h2)) : hp_rcv h a0 10 = true ∧ Rn X yX9_settle cX9_settle 1 (some .int) d [va_rf a0] h (some (.int r)) h2 := by
  unfold fX9_settle at hf
  by_cases c0 : hp_rcv h a0 10 = false
  · rw [if_pos c0] at hf; cases hf
  rw [if_neg c0] at hf
  refine ⟨(Bool.not_eq_false _).mp c0, ?_⟩
  obtain ⟨d, rfl⟩ : ∃ k, d = k + 1 := ⟨d - 1, by omega⟩
  exact Rn.of2 me_X9_settle (by simp [lg_sl, rt_cat, cat_i, cat_l]) (ok_i _) (l := [(0, va_rf a0)]) (by simp [lv_args, rt_cat, cat_i, cat_l]) (rX9_settle_0 (by omega) hf)
noncomputable def bX9_sink_19 (E : ah_E) (s0 : Int32) (h : ah_H) : Option (Int32 × ah_H) :=
  some (s0, h)
set_option maxRecDepth 20000 in
set_option maxHeartbeats 4000000 in
theorem rX9_sink_19 {X : ah_X} {d : Nat} (hd : 103 ≤ d) {s0 : Int32} {h : ah_H} {r : Int32} {h2 : ah_H} (hf : bX9_sink_19 X.2.2.2 s0 h = some (r, h2)) : Rt X yX9_sink cX9_sink 1 (d + 1) 19 [] [.int s0] h (some (.int r)) h2 := by
  unfold bX9_sink_19 at hf
  cases hf
  exact rt_ret (pc := 19) dX9_sink_19 rfl
noncomputable def bX9_sink_0 (E : ah_E) (a0 : Option Nat) (h : ah_H) : Option (Int32 × ah_H) :=
  (hp_gi h a0 10 9).bind fun v1 =>
  if v1 = 0 then
    (hp_gr h a0 10 2).bind fun v4 =>
    ob2 (fX8_sinkRoot E v4 h) fun v8 w7 =>
    bX9_sink_19 E v8 w7
  else
  bX9_sink_19 E (-4 : Int32) h
set_option maxRecDepth 20000 in
set_option maxHeartbeats 4000000 in
theorem rX9_sink_0 {X : ah_X} {d : Nat} (hd : 103 ≤ d) {a0 : Option Nat} {h : ah_H} {r : Int32} {h2 : ah_H} (hf : bX9_sink_0 X.2.2.2 a0 h = some (r, h2)) : Rt X yX9_sink cX9_sink 1 (d + 1) 0 [(0, va_rf a0)] [] h (some (.int r)) h2 := by
  unfold bX9_sink_0 at hf
  refine rt_aload_n (pc := 0) (k0 := 0) (x := a0) 0 rfl dX9_sink_0 ?_
  obtain ⟨v1, e2, hf⟩ := ob1 hf
  refine rt_gi (pc := 1) fd_X9_71 dX9_sink_1 e2 ?_
  by_cases c3 : v1 = 0
  · rw [if_pos c3] at hf
    refine rt_if_eq_p (pc := 4) (x := v1) (tgt := 12) (by decide) dX9_sink_4 c3 ?_
    refine rt_aload_n (pc := 12) (k0 := 0) (x := a0) 0 rfl dX9_sink_12 ?_
    obtain ⟨v4, e5, hf⟩ := ob1 hf
    refine rt_gr (pc := 13) fd_X9_26 dX9_sink_13 e5 ?_
    obtain ⟨v8, w7, e6, hf⟩ := ob2_of hf
    have g9 := sX8_sinkRoot d (by omega) e6
    refine rt_callV (pc := 16) (As := []) (st := []) me_X8_sinkRoot mi_X8_sinkRoot wl_X9_101 dX9_sink_16 rfl (by decide) rfl g9.1 g9.2 ?_
    exact rt_locals (rt_sub [] rfl) (rX9_sink_19 hd hf)
  rw [if_neg c3] at hf
  refine rt_if_eq_n (pc := 4) (x := v1) (tgt := 12) (by decide) dX9_sink_4 c3 ?_
  refine rt_bipush (pc := 7) (n := -4) (v := (-4 : Int32)) (by decide) dX9_sink_7 ?_
  refine rt_goto (pc := 9) (tgt := 19) (by decide) dX9_sink_9 ?_
  exact rt_locals (rt_sub [] rfl) (rX9_sink_19 hd hf)
noncomputable def fX9_sink (E : ah_E) (a0 : Option Nat) (h : ah_H) : Option (Int32 × ah_H) := if hp_rcv h a0 10 = false then none else bX9_sink_0 E a0 h
set_option maxRecDepth 20000 in
set_option maxHeartbeats 4000000 in
theorem sX9_sink {X : ah_X} (d : Nat) (hd : 104 ≤ d) {a0 : Option Nat} {h : ah_H} {r : Int32} {h2 : ah_H} (hf : fX9_sink X.2.2.2 a0 h = some (r, h2)) : hp_rcv h a0 10 = true ∧ Rn X yX9_sink cX9_sink 1 (some .int) d [va_rf a0] h (some (.int r)) h2 := by
  unfold fX9_sink at hf
  by_cases c0 : hp_rcv h a0 10 = false
  · rw [if_pos c0] at hf; cases hf
  rw [if_neg c0] at hf
  refine ⟨(Bool.not_eq_false _).mp c0, ?_⟩
  obtain ⟨d, rfl⟩ : ∃ k, d = k + 1 := ⟨d - 1, by omega⟩
  exact Rn.of2 me_X9_sink (by simp [lg_sl, rt_cat, cat_i, cat_l]) (ok_i _) (l := [(0, va_rf a0)]) (by simp [lv_args, rt_cat, cat_i, cat_l]) (rX9_sink_0 (by omega) hf)
noncomputable def bX9_swap_40 (E : ah_E) (a0 : Option Nat) (a1 : Int64) (a3 : Int32) (s0 : Int32) (h : ah_H) : Option (Int32 × ah_H) :=
  ob2 (fX9_writeRefusal E a0 s0 h) fun v3 w2 =>
  if v3 = 0 then
    ob2 (fX9_write E a0 (3 : Int32) a1 a1 a3 w2) fun v8 w7 =>
    some (v8, w7)
  else
  some (v3, w2)
set_option maxRecDepth 20000 in
set_option maxHeartbeats 4000000 in
theorem rX9_swap_40 {X : ah_X} {d : Nat} (hd : 102 ≤ d) {a0 : Option Nat} {a1 : Int64} {a3 : Int32} {s0 : Int32} {h : ah_H} {r : Int32} {h2 : ah_H} (hf : bX9_swap_40 X.2.2.2 a0 a1 a3 s0 h = some (r, h2)) : Rt X yX9_swap cX9_swap 6 (d + 1) 40 [(0, va_rf a0), (1, .long a1), (3, .int a3)] [.int s0] h (some (.int r)) h2 := by
  unfold bX9_swap_40 at hf
  refine rt_istore (pc := 40) (i := 4) (x := s0) (l2 := [(4, .int s0), (0, va_rf a0), (1, .long a1), (3, .int a3)]) (by decide) (by first | rfl | (simp [rt_cat, cat_i, cat_l]; done) | (simp [rt_cat, cat_i, cat_l]; decide)) dX9_swap_40 ?_
  refine rt_aload_n (pc := 42) (k0 := 0) (x := a0) 1 rfl dX9_swap_42 ?_
  refine rt_iload (pc := 43) (i := 4) (x := s0) 0 rfl dX9_swap_43 ?_
  obtain ⟨v3, w2, e1, hf⟩ := ob2_of hf
  have g4 := sX9_writeRefusal d (by omega) e1
  refine rt_callV (pc := 45) (As := [.int s0]) (st := []) me_X9_writeRefusal mi_X9_writeRefusal wl_X9_59 dX9_swap_45 rfl (by decide) rfl g4.1 g4.2 ?_
  refine rt_istore (pc := 48) (i := 5) (x := v3) (l2 := [(5, .int v3), (4, .int s0), (0, va_rf a0), (1, .long a1), (3, .int a3)]) (by decide) (by first | rfl | (simp [rt_cat, cat_i, cat_l]; done) | (simp [rt_cat, cat_i, cat_l]; decide)) dX9_swap_48 ?_
  refine rt_iload (pc := 50) (i := 5) (x := v3) 0 rfl dX9_swap_50 ?_
  by_cases c5 : v3 = 0
  · rw [if_pos c5] at hf
    refine rt_if_eq_p (pc := 52) (x := v3) (tgt := 58) (by decide) dX9_swap_52 c5 ?_
    refine rt_aload_n (pc := 58) (k0 := 0) (x := a0) 2 rfl dX9_swap_58 ?_
    refine rt_iconst (pc := 59) (n := 3) (v := (3 : Int32)) (by decide) dX9_swap_59 ?_
    refine rt_lload_n (pc := 60) (k0 := 1) (x := a1) 3 rfl dX9_swap_60 ?_
    refine rt_lload_n (pc := 61) (k0 := 1) (x := a1) 3 rfl dX9_swap_61 ?_
    refine rt_iload_n (pc := 62) (k0 := 3) (x := a3) 4 rfl dX9_swap_62 ?_
    obtain ⟨v8, w7, e6, hf⟩ := ob2_of hf
    have g9 := sX9_write d (by omega) e6
    refine rt_callV (pc := 63) (As := [.int (3 : Int32), .long a1, .long a1, .int a3]) (st := []) me_X9_write mi_X9_write wl_X9_67 dX9_swap_63 rfl (by decide) rfl g9.1 g9.2 ?_
    cases hf
    exact rt_ret (pc := 66) dX9_swap_66 rfl
  rw [if_neg c5] at hf
  refine rt_if_eq_n (pc := 52) (x := v3) (tgt := 58) (by decide) dX9_swap_52 c5 ?_
  refine rt_iload (pc := 55) (i := 5) (x := v3) 0 rfl dX9_swap_55 ?_
  cases hf
  exact rt_ret (pc := 57) dX9_swap_57 rfl
noncomputable def bX9_swap_35 (E : ah_E) (a0 : Option Nat) (a1 : Int64) (a3 : Int32) (h : ah_H) : Option (Int32 × ah_H) :=
  bX9_swap_40 E a0 a1 a3 (1 : Int32) h
set_option maxRecDepth 20000 in
set_option maxHeartbeats 4000000 in
theorem rX9_swap_35 {X : ah_X} {d : Nat} (hd : 102 ≤ d) {a0 : Option Nat} {a1 : Int64} {a3 : Int32} {h : ah_H} {r : Int32} {h2 : ah_H} (hf : bX9_swap_35 X.2.2.2 a0 a1 a3 h = some (r, h2)) : Rt X yX9_swap cX9_swap 6 (d + 1) 35 [(0, va_rf a0), (1, .long a1), (3, .int a3)] [] h (some (.int r)) h2 := by
  unfold bX9_swap_35 at hf
  refine rt_iconst (pc := 35) (n := 1) (v := (1 : Int32)) (by decide) dX9_swap_35 ?_
  refine rt_goto (pc := 36) (tgt := 40) (by decide) dX9_swap_36 ?_
  exact rX9_swap_40 hd hf
noncomputable def bX9_swap_0 (E : ah_E) (a0 : Option Nat) (a1 : Int64) (a3 : Int32) (h : ah_H) : Option (Int32 × ah_H) :=
  if a3 < 0 then
    bX9_swap_35 E a0 a1 a3 h
  else
  if (20 : Int32) < a3 then
    bX9_swap_35 E a0 a1 a3 h
  else
  (hp_gr h a0 10 0).bind fun v3 =>
  (hp_gi h v3 8 1).bind fun v5 =>
  if v5 < a3 then
    bX9_swap_35 E a0 a1 a3 h
  else
  (hp_gr h a0 10 0).bind fun v8 =>
  (hp_gi h v8 8 1).bind fun v10 =>
  if (v10 - a3) ≤ (20 : Int32) then
    bX9_swap_40 E a0 a1 a3 (0 : Int32) h
  else
  bX9_swap_35 E a0 a1 a3 h
set_option maxRecDepth 20000 in
set_option maxHeartbeats 4000000 in
theorem rX9_swap_0 {X : ah_X} {d : Nat} (hd : 102 ≤ d) {a0 : Option Nat} {a1 : Int64} {a3 : Int32} {h : ah_H} {r : Int32} {h2 : ah_H} (hf : bX9_swap_0 X.2.2.2 a0 a1 a3 h = some (r, h2)) : Rt X yX9_swap cX9_swap 6 (d + 1) 0 [(0, va_rf a0), (1, .long a1), (3, .int a3)] [] h (some (.int r)) h2 := by
  unfold bX9_swap_0 at hf
  refine rt_iload_n (pc := 0) (k0 := 3) (x := a3) 2 rfl dX9_swap_0 ?_
  by_cases c1 : a3 < 0
  · rw [if_pos c1] at hf
    refine rt_if_lt_p (pc := 1) (x := a3) (tgt := 35) (by decide) dX9_swap_1 c1 ?_
    exact rX9_swap_35 hd hf
  rw [if_neg c1] at hf
  refine rt_if_lt_n (pc := 1) (x := a3) (tgt := 35) (by decide) dX9_swap_1 c1 ?_
  refine rt_iload_n (pc := 4) (k0 := 3) (x := a3) 2 rfl dX9_swap_4 ?_
  refine rt_bipush (pc := 5) (n := 20) (v := (20 : Int32)) (by decide) dX9_swap_5 ?_
  by_cases c2 : (20 : Int32) < a3
  · rw [if_pos c2] at hf
    refine rt_icmp_gt_p (pc := 7) (x := a3) (z := (20 : Int32)) (tgt := 35) (by decide) dX9_swap_7 c2 ?_
    exact rX9_swap_35 hd hf
  rw [if_neg c2] at hf
  refine rt_icmp_gt_n (pc := 7) (x := a3) (z := (20 : Int32)) (tgt := 35) (by decide) dX9_swap_7 c2 ?_
  refine rt_iload_n (pc := 10) (k0 := 3) (x := a3) 2 rfl dX9_swap_10 ?_
  refine rt_aload_n (pc := 11) (k0 := 0) (x := a0) 0 rfl dX9_swap_11 ?_
  obtain ⟨v3, e4, hf⟩ := ob1 hf
  refine rt_gr (pc := 12) fd_X9_10 dX9_swap_12 e4 ?_
  obtain ⟨v5, e6, hf⟩ := ob1 hf
  refine rt_gi (pc := 15) fd_X9_47 dX9_swap_15 e6 ?_
  by_cases c7 : v5 < a3
  · rw [if_pos c7] at hf
    refine rt_icmp_gt_p (pc := 18) (x := a3) (z := v5) (tgt := 35) (by decide) dX9_swap_18 c7 ?_
    exact rX9_swap_35 hd hf
  rw [if_neg c7] at hf
  refine rt_icmp_gt_n (pc := 18) (x := a3) (z := v5) (tgt := 35) (by decide) dX9_swap_18 c7 ?_
  refine rt_aload_n (pc := 21) (k0 := 0) (x := a0) 0 rfl dX9_swap_21 ?_
  obtain ⟨v8, e9, hf⟩ := ob1 hf
  refine rt_gr (pc := 22) fd_X9_10 dX9_swap_22 e9 ?_
  obtain ⟨v10, e11, hf⟩ := ob1 hf
  refine rt_gi (pc := 25) fd_X9_47 dX9_swap_25 e11 ?_
  refine rt_iload_n (pc := 28) (k0 := 3) (x := a3) 2 rfl dX9_swap_28 ?_
  refine rt_isub (pc := 29) (x := v10) (z := a3) dX9_swap_29 ?_
  refine rt_bipush (pc := 30) (n := 20) (v := (20 : Int32)) (by decide) dX9_swap_30 ?_
  by_cases c12 : (v10 - a3) ≤ (20 : Int32)
  · rw [if_pos c12] at hf
    refine rt_icmp_le_p (pc := 32) (x := (v10 - a3)) (z := (20 : Int32)) (tgt := 39) (by decide) dX9_swap_32 c12 ?_
    refine rt_iconst (pc := 39) (n := 0) (v := (0 : Int32)) (by decide) dX9_swap_39 ?_
    exact rX9_swap_40 hd hf
  rw [if_neg c12] at hf
  refine rt_icmp_le_n (pc := 32) (x := (v10 - a3)) (z := (20 : Int32)) (tgt := 39) (by decide) dX9_swap_32 c12 ?_
  exact rX9_swap_35 hd hf
noncomputable def fX9_swap (E : ah_E) (a0 : Option Nat) (a1 : Int64) (a3 : Int32) (h : ah_H) : Option (Int32 × ah_H) := if hp_rcv h a0 10 = false then none else bX9_swap_0 E a0 a1 a3 h
set_option maxRecDepth 20000 in
set_option maxHeartbeats 4000000 in
theorem sX9_swap {X : ah_X} (d : Nat) (hd : 103 ≤ d) {a0 : Option Nat} {a1 : Int64} {a3 : Int32} {h : ah_H} {r : Int32} {h2 : ah_H} (hf : fX9_swap X.2.2.2 a0 a1 a3 h = some (r, h2)) : hp_rcv h a0 10 = true ∧ Rn X yX9_swap cX9_swap 6 (some .int) d [va_rf a0, .long a1, .int a3] h (some (.int r)) h2 := by
  unfold fX9_swap at hf
  by_cases c0 : hp_rcv h a0 10 = false
  · rw [if_pos c0] at hf; cases hf
  rw [if_neg c0] at hf
  refine ⟨(Bool.not_eq_false _).mp c0, ?_⟩
  obtain ⟨d, rfl⟩ : ∃ k, d = k + 1 := ⟨d - 1, by omega⟩
  exact Rn.of2 me_X9_swap (by simp [lg_sl, rt_cat, cat_i, cat_l]) (ok_i _) (l := [(0, va_rf a0), (1, .long a1), (3, .int a3)]) (by simp [lv_args, rt_cat, cat_i, cat_l]) (rX9_swap_0 (by omega) hf)
noncomputable def bX9_sweep_12 (E : ah_E) (a0 : Option Nat) (a1 : Int64) (a3 : Int64) (s0 : Option Nat) (s1 : Int32) (h : ah_H) : Option (Int32 × ah_H) :=
  ob2 (fX9_writeRefusal E s0 s1 h) fun v3 w2 =>
  if v3 = 0 then
    ob2 (fX9_write E a0 (5 : Int32) a1 a3 (0 : Int32) w2) fun v8 w7 =>
    some (v8, w7)
  else
  some (v3, w2)
set_option maxRecDepth 20000 in
set_option maxHeartbeats 4000000 in
theorem rX9_sweep_12 {X : ah_X} {d : Nat} (hd : 102 ≤ d) {a0 : Option Nat} {a1 : Int64} {a3 : Int64} {s0 : Option Nat} {s1 : Int32} {h : ah_H} {r : Int32} {h2 : ah_H} (hf : bX9_sweep_12 X.2.2.2 a0 a1 a3 s0 s1 h = some (r, h2)) : Rt X yX9_sweep cX9_sweep 6 (d + 1) 12 [(0, va_rf a0), (1, .long a1), (3, .long a3)] [.int s1, va_rf s0] h (some (.int r)) h2 := by
  unfold bX9_sweep_12 at hf
  obtain ⟨v3, w2, e1, hf⟩ := ob2_of hf
  have g4 := sX9_writeRefusal d (by omega) e1
  refine rt_callV (pc := 12) (As := [.int s1]) (st := []) me_X9_writeRefusal mi_X9_writeRefusal wl_X9_59 dX9_sweep_12 rfl (by decide) rfl g4.1 g4.2 ?_
  refine rt_istore (pc := 15) (i := 5) (x := v3) (l2 := [(5, .int v3), (0, va_rf a0), (1, .long a1), (3, .long a3)]) (by decide) (by first | rfl | (simp [rt_cat, cat_i, cat_l]; done) | (simp [rt_cat, cat_i, cat_l]; decide)) dX9_sweep_15 ?_
  refine rt_iload (pc := 17) (i := 5) (x := v3) 0 rfl dX9_sweep_17 ?_
  by_cases c5 : v3 = 0
  · rw [if_pos c5] at hf
    refine rt_if_eq_p (pc := 19) (x := v3) (tgt := 25) (by decide) dX9_sweep_19 c5 ?_
    refine rt_aload_n (pc := 25) (k0 := 0) (x := a0) 1 rfl dX9_sweep_25 ?_
    refine rt_iconst (pc := 26) (n := 5) (v := (5 : Int32)) (by decide) dX9_sweep_26 ?_
    refine rt_lload_n (pc := 27) (k0 := 1) (x := a1) 2 rfl dX9_sweep_27 ?_
    refine rt_lload_n (pc := 28) (k0 := 3) (x := a3) 3 rfl dX9_sweep_28 ?_
    refine rt_iconst (pc := 29) (n := 0) (v := (0 : Int32)) (by decide) dX9_sweep_29 ?_
    obtain ⟨v8, w7, e6, hf⟩ := ob2_of hf
    have g9 := sX9_write d (by omega) e6
    refine rt_callV (pc := 30) (As := [.int (5 : Int32), .long a1, .long a3, .int (0 : Int32)]) (st := []) me_X9_write mi_X9_write wl_X9_67 dX9_sweep_30 rfl (by decide) rfl g9.1 g9.2 ?_
    cases hf
    exact rt_ret (pc := 33) dX9_sweep_33 rfl
  rw [if_neg c5] at hf
  refine rt_if_eq_n (pc := 19) (x := v3) (tgt := 25) (by decide) dX9_sweep_19 c5 ?_
  refine rt_iload (pc := 22) (i := 5) (x := v3) 0 rfl dX9_sweep_22 ?_
  cases hf
  exact rt_ret (pc := 24) dX9_sweep_24 rfl
noncomputable def bX9_sweep_0 (E : ah_E) (a0 : Option Nat) (a1 : Int64) (a3 : Int64) (h : ah_H) : Option (Int32 × ah_H) :=
  if a1 ≤ a3 then
    bX9_sweep_12 E a0 a1 a3 a0 (0 : Int32) h
  else
  bX9_sweep_12 E a0 a1 a3 a0 (1 : Int32) h
set_option maxRecDepth 20000 in
set_option maxHeartbeats 4000000 in
theorem rX9_sweep_0 {X : ah_X} {d : Nat} (hd : 102 ≤ d) {a0 : Option Nat} {a1 : Int64} {a3 : Int64} {h : ah_H} {r : Int32} {h2 : ah_H} (hf : bX9_sweep_0 X.2.2.2 a0 a1 a3 h = some (r, h2)) : Rt X yX9_sweep cX9_sweep 6 (d + 1) 0 [(0, va_rf a0), (1, .long a1), (3, .long a3)] [] h (some (.int r)) h2 := by
  unfold bX9_sweep_0 at hf
  refine rt_aload_n (pc := 0) (k0 := 0) (x := a0) 0 rfl dX9_sweep_0 ?_
  refine rt_lload_n (pc := 1) (k0 := 3) (x := a3) 2 rfl dX9_sweep_1 ?_
  refine rt_lload_n (pc := 2) (k0 := 1) (x := a1) 1 rfl dX9_sweep_2 ?_
  by_cases c1 : a1 ≤ a3
  · rw [if_pos c1] at hf
    refine rt_lif_ge_p (pc := 3) (x := a3) (z := a1) (tgt := 11) (by decide) dX9_sweep_3 dX9_sweep_4 c1 ?_
    refine rt_iconst (pc := 11) (n := 0) (v := (0 : Int32)) (by decide) dX9_sweep_11 ?_
    exact rX9_sweep_12 hd hf
  rw [if_neg c1] at hf
  refine rt_lif_ge_n (pc := 3) (x := a3) (z := a1) (tgt := 11) (by decide) dX9_sweep_3 dX9_sweep_4 c1 ?_
  refine rt_iconst (pc := 7) (n := 1) (v := (1 : Int32)) (by decide) dX9_sweep_7 ?_
  refine rt_goto (pc := 8) (tgt := 12) (by decide) dX9_sweep_8 ?_
  exact rX9_sweep_12 hd hf
noncomputable def fX9_sweep (E : ah_E) (a0 : Option Nat) (a1 : Int64) (a3 : Int64) (h : ah_H) : Option (Int32 × ah_H) := if hp_rcv h a0 10 = false then none else bX9_sweep_0 E a0 a1 a3 h
set_option maxRecDepth 20000 in
set_option maxHeartbeats 4000000 in
theorem sX9_sweep {X : ah_X} (d : Nat) (hd : 103 ≤ d) {a0 : Option Nat} {a1 : Int64} {a3 : Int64} {h : ah_H} {r : Int32} {h2 : ah_H} (hf : fX9_sweep X.2.2.2 a0 a1 a3 h = some (r, h2)) : hp_rcv h a0 10 = true ∧ Rn X yX9_sweep cX9_sweep 6 (some .int) d [va_rf a0, .long a1, .long a3] h (some (.int r)) h2 := by
  unfold fX9_sweep at hf
  by_cases c0 : hp_rcv h a0 10 = false
  · rw [if_pos c0] at hf; cases hf
  rw [if_neg c0] at hf
  refine ⟨(Bool.not_eq_false _).mp c0, ?_⟩
  obtain ⟨d, rfl⟩ : ∃ k, d = k + 1 := ⟨d - 1, by omega⟩
  exact Rn.of2 me_X9_sweep (by simp [lg_sl, rt_cat, cat_i, cat_l]) (ok_i _) (l := [(0, va_rf a0), (1, .long a1), (3, .long a3)]) (by simp [lv_args, rt_cat, cat_i, cat_l]) (rX9_sweep_0 (by omega) hf)
noncomputable def bX9_sync_48 (E : ah_E) (s0 : Int32) (h : ah_H) : Option (Int32 × ah_H) :=
  some (s0, h)
set_option maxRecDepth 20000 in
set_option maxHeartbeats 4000000 in
theorem rX9_sync_48 {X : ah_X} {d : Nat} (hd : 51 ≤ d) {s0 : Int32} {h : ah_H} {r : Int32} {h2 : ah_H} (hf : bX9_sync_48 X.2.2.2 s0 h = some (r, h2)) : Rt X yX9_sync cX9_sync 2 (d + 1) 48 [] [.int s0] h (some (.int r)) h2 := by
  unfold bX9_sync_48 at hf
  cases hf
  exact rt_ret (pc := 48) dX9_sync_48 rfl
noncomputable def bX9_sync_0 (E : ah_E) (a0 : Option Nat) (h : ah_H) : Option (Int32 × ah_H) :=
  (hp_gi h a0 10 9).bind fun v1 =>
  if v1 = 0 then
    (hp_gr h a0 10 2).bind fun v4 =>
    (hp_gr h v4 9 0).bind fun v6 =>
    ob2 (fX8_changedIn E zd v6 (0 : Int32) h) fun v10 w9 =>
    ob2 (fX9_freePlaces E a0 w9) fun v14 w13 =>
    if v10 ≤ v14 then
      ob2 (fX9_writeAll E a0 w13) fun v19 w18 =>
      if v19 = 0 then
        bX9_sync_48 E (-5 : Int32) w18
      else
      bX9_sync_48 E (v10 + (1 : Int32)) w18
    else
    some ((-3 : Int32), w13)
  else
  some ((-4 : Int32), h)
set_option maxRecDepth 20000 in
set_option maxHeartbeats 4000000 in
theorem rX9_sync_0 {X : ah_X} {d : Nat} (hd : 51 ≤ d) {a0 : Option Nat} {h : ah_H} {r : Int32} {h2 : ah_H} (hf : bX9_sync_0 X.2.2.2 a0 h = some (r, h2)) : Rt X yX9_sync cX9_sync 2 (d + 1) 0 [(0, va_rf a0)] [] h (some (.int r)) h2 := by
  unfold bX9_sync_0 at hf
  refine rt_aload_n (pc := 0) (k0 := 0) (x := a0) 0 rfl dX9_sync_0 ?_
  obtain ⟨v1, e2, hf⟩ := ob1 hf
  refine rt_gi (pc := 1) fd_X9_71 dX9_sync_1 e2 ?_
  by_cases c3 : v1 = 0
  · rw [if_pos c3] at hf
    refine rt_if_eq_p (pc := 4) (x := v1) (tgt := 10) (by decide) dX9_sync_4 c3 ?_
    refine rt_aload_n (pc := 10) (k0 := 0) (x := a0) 0 rfl dX9_sync_10 ?_
    obtain ⟨v4, e5, hf⟩ := ob1 hf
    refine rt_gr (pc := 11) fd_X9_26 dX9_sync_11 e5 ?_
    obtain ⟨v6, e7, hf⟩ := ob1 hf
    refine rt_gr (pc := 14) fd_X9_107 dX9_sync_14 e7 ?_
    refine rt_iconst (pc := 17) (n := 0) (v := (0 : Int32)) (by decide) dX9_sync_17 ?_
    obtain ⟨v10, w9, e8, hf⟩ := ob2_of hf
    have g11 := sX8_changedIn zd d (by unfold zd; omega) _ _ _ _ _ e8
    refine rt_callSN (pc := 18) (As := [va_rf v6, .int (0 : Int32)]) (st := []) me_X8_changedIn ms_X8_changedIn wln_X9_169 dX9_sync_18 rfl (by decide) rfl g11 ?_
    refine rt_istore_n (pc := 21) (k0 := 1) (x := v10) (l2 := [(1, .int v10), (0, va_rf a0)]) (by decide) (by first | rfl | (simp [rt_cat, cat_i, cat_l]; done) | (simp [rt_cat, cat_i, cat_l]; decide)) dX9_sync_21 ?_
    refine rt_aload_n (pc := 22) (k0 := 0) (x := a0) 1 rfl dX9_sync_22 ?_
    obtain ⟨v14, w13, e12, hf⟩ := ob2_of hf
    have g15 := sX9_freePlaces d (by omega) e12
    refine rt_callV (pc := 23) (As := []) (st := []) me_X9_freePlaces mi_X9_freePlaces wl_X9_172 dX9_sync_23 rfl (by decide) rfl g15.1 g15.2 ?_
    refine rt_iload_n (pc := 26) (k0 := 1) (x := v10) 0 rfl dX9_sync_26 ?_
    by_cases c16 : v10 ≤ v14
    · rw [if_pos c16] at hf
      refine rt_icmp_ge_p (pc := 27) (x := v14) (z := v10) (tgt := 33) (by decide) dX9_sync_27 c16 ?_
      refine rt_aload_n (pc := 33) (k0 := 0) (x := a0) 1 rfl dX9_sync_33 ?_
      obtain ⟨v19, w18, e17, hf⟩ := ob2_of hf
      have g20 := sX9_writeAll d (by omega) e17
      refine rt_callV (pc := 34) (As := []) (st := []) me_X9_writeAll mi_X9_writeAll wl_X9_175 dX9_sync_34 rfl (by decide) rfl g20.1 g20.2 ?_
      by_cases c21 : v19 = 0
      · rw [if_pos c21] at hf
        refine rt_if_eq_p (pc := 37) (x := v19) (tgt := 46) (by decide) dX9_sync_37 c21 ?_
        refine rt_bipush (pc := 46) (n := -5) (v := (-5 : Int32)) (by decide) dX9_sync_46 ?_
        exact rt_locals (rt_sub [] rfl) (rX9_sync_48 hd hf)
      rw [if_neg c21] at hf
      refine rt_if_eq_n (pc := 37) (x := v19) (tgt := 46) (by decide) dX9_sync_37 c21 ?_
      refine rt_iload_n (pc := 40) (k0 := 1) (x := v10) 0 rfl dX9_sync_40 ?_
      refine rt_iconst (pc := 41) (n := 1) (v := (1 : Int32)) (by decide) dX9_sync_41 ?_
      refine rt_iadd (pc := 42) (x := v10) (z := (1 : Int32)) dX9_sync_42 ?_
      refine rt_goto (pc := 43) (tgt := 48) (by decide) dX9_sync_43 ?_
      exact rt_locals (rt_sub [] rfl) (rX9_sync_48 hd hf)
    rw [if_neg c16] at hf
    refine rt_icmp_ge_n (pc := 27) (x := v14) (z := v10) (tgt := 33) (by decide) dX9_sync_27 c16 ?_
    refine rt_bipush (pc := 30) (n := -3) (v := (-3 : Int32)) (by decide) dX9_sync_30 ?_
    cases hf
    exact rt_ret (pc := 32) dX9_sync_32 rfl
  rw [if_neg c3] at hf
  refine rt_if_eq_n (pc := 4) (x := v1) (tgt := 10) (by decide) dX9_sync_4 c3 ?_
  refine rt_bipush (pc := 7) (n := -4) (v := (-4 : Int32)) (by decide) dX9_sync_7 ?_
  cases hf
  exact rt_ret (pc := 9) dX9_sync_9 rfl
noncomputable def fX9_sync (E : ah_E) (a0 : Option Nat) (h : ah_H) : Option (Int32 × ah_H) := if hp_rcv h a0 10 = false then none else bX9_sync_0 E a0 h
set_option maxRecDepth 20000 in
set_option maxHeartbeats 4000000 in
theorem sX9_sync {X : ah_X} (d : Nat) (hd : 52 ≤ d) {a0 : Option Nat} {h : ah_H} {r : Int32} {h2 : ah_H} (hf : fX9_sync X.2.2.2 a0 h = some (r, h2)) : hp_rcv h a0 10 = true ∧ Rn X yX9_sync cX9_sync 2 (some .int) d [va_rf a0] h (some (.int r)) h2 := by
  unfold fX9_sync at hf
  by_cases c0 : hp_rcv h a0 10 = false
  · rw [if_pos c0] at hf; cases hf
  rw [if_neg c0] at hf
  refine ⟨(Bool.not_eq_false _).mp c0, ?_⟩
  obtain ⟨d, rfl⟩ : ∃ k, d = k + 1 := ⟨d - 1, by omega⟩
  exact Rn.of2 me_X9_sync (by simp [lg_sl, rt_cat, cat_i, cat_l]) (ok_i _) (l := [(0, va_rf a0)]) (by simp [lv_args, rt_cat, cat_i, cat_l]) (rX9_sync_0 (by omega) hf)
noncomputable def bX9_writes_16 (E : ah_E) (h : ah_H) : Option (Int32 × ah_H) :=
  some ((-1 : Int32), h)
set_option maxRecDepth 20000 in
set_option maxHeartbeats 4000000 in
theorem rX9_writes_16 {X : ah_X} {d : Nat}  {h : ah_H} {r : Int32} {h2 : ah_H} (hf : bX9_writes_16 X.2.2.2  h = some (r, h2)) : Rt X yX9_writes cX9_writes 2 d 16 [] [] h (some (.int r)) h2 := by
  unfold bX9_writes_16 at hf
  refine rt_iconst (pc := 16) (n := -1) (v := (-1 : Int32)) (by decide) dX9_writes_16 ?_
  cases hf
  exact rt_ret (pc := 17) dX9_writes_17 rfl
noncomputable def bX9_writes_0 (E : ah_E) (a0 : Option Nat) (a1 : Int32) (h : ah_H) : Option (Int32 × ah_H) :=
  if a1 < 0 then
    bX9_writes_16 E  h
  else
  (hp_gr h a0 10 1).bind fun v2 =>
  (hp_gr h v2 1 1).bind fun v4 =>
  (hp_len h v4).bind fun v6 =>
  if a1 < v6 then
    (hp_gr h a0 10 1).bind fun v9 =>
    (hp_gr h v9 1 1).bind fun v11 =>
    (hp_ldi h v11 a1).bind fun v13 =>
    some (v13, h)
  else
  bX9_writes_16 E  h
set_option maxRecDepth 20000 in
set_option maxHeartbeats 4000000 in
theorem rX9_writes_0 {X : ah_X} {d : Nat} {a0 : Option Nat} {a1 : Int32} {h : ah_H} {r : Int32} {h2 : ah_H} (hf : bX9_writes_0 X.2.2.2 a0 a1 h = some (r, h2)) : Rt X yX9_writes cX9_writes 2 d 0 [(0, va_rf a0), (1, .int a1)] [] h (some (.int r)) h2 := by
  unfold bX9_writes_0 at hf
  refine rt_iload_n (pc := 0) (k0 := 1) (x := a1) 1 rfl dX9_writes_0 ?_
  by_cases c1 : a1 < 0
  · rw [if_pos c1] at hf
    refine rt_if_lt_p (pc := 1) (x := a1) (tgt := 16) (by decide) dX9_writes_1 c1 ?_
    exact rt_locals (rt_sub [] rfl) (rX9_writes_16 hf)
  rw [if_neg c1] at hf
  refine rt_if_lt_n (pc := 1) (x := a1) (tgt := 16) (by decide) dX9_writes_1 c1 ?_
  refine rt_iload_n (pc := 4) (k0 := 1) (x := a1) 1 rfl dX9_writes_4 ?_
  refine rt_aload_n (pc := 5) (k0 := 0) (x := a0) 0 rfl dX9_writes_5 ?_
  obtain ⟨v2, e3, hf⟩ := ob1 hf
  refine rt_gr (pc := 6) fd_X9_19 dX9_writes_6 e3 ?_
  obtain ⟨v4, e5, hf⟩ := ob1 hf
  refine rt_gr (pc := 9) fd_X9_232 dX9_writes_9 e5 ?_
  obtain ⟨v6, e7, hf⟩ := ob1 hf
  refine rt_alen (pc := 12) dX9_writes_12 e7 ?_
  by_cases c8 : a1 < v6
  · rw [if_pos c8] at hf
    refine rt_icmp_lt_p (pc := 13) (x := a1) (z := v6) (tgt := 18) (by decide) dX9_writes_13 c8 ?_
    refine rt_aload_n (pc := 18) (k0 := 0) (x := a0) 0 rfl dX9_writes_18 ?_
    obtain ⟨v9, e10, hf⟩ := ob1 hf
    refine rt_gr (pc := 19) fd_X9_19 dX9_writes_19 e10 ?_
    obtain ⟨v11, e12, hf⟩ := ob1 hf
    refine rt_gr (pc := 22) fd_X9_232 dX9_writes_22 e12 ?_
    refine rt_iload_n (pc := 25) (k0 := 1) (x := a1) 1 rfl dX9_writes_25 ?_
    obtain ⟨v13, e14, hf⟩ := ob1 hf
    refine rt_iald (pc := 26) dX9_writes_26 e14 ?_
    cases hf
    exact rt_ret (pc := 27) dX9_writes_27 rfl
  rw [if_neg c8] at hf
  refine rt_icmp_lt_n (pc := 13) (x := a1) (z := v6) (tgt := 18) (by decide) dX9_writes_13 c8 ?_
  exact rt_locals (rt_sub [] rfl) (rX9_writes_16 hf)
noncomputable def fX9_writes (E : ah_E) (a0 : Option Nat) (a1 : Int32) (h : ah_H) : Option (Int32 × ah_H) := if hp_rcv h a0 10 = false then none else bX9_writes_0 E a0 a1 h
set_option maxRecDepth 20000 in
set_option maxHeartbeats 4000000 in
theorem sX9_writes {X : ah_X} (d : Nat) (hd : 0 ≤ d) {a0 : Option Nat} {a1 : Int32} {h : ah_H} {r : Int32} {h2 : ah_H} (hf : fX9_writes X.2.2.2 a0 a1 h = some (r, h2)) : hp_rcv h a0 10 = true ∧ Rn X yX9_writes cX9_writes 2 (some .int) d [va_rf a0, .int a1] h (some (.int r)) h2 := by
  unfold fX9_writes at hf
  by_cases c0 : hp_rcv h a0 10 = false
  · rw [if_pos c0] at hf; cases hf
  rw [if_neg c0] at hf
  refine ⟨(Bool.not_eq_false _).mp c0, ?_⟩
  exact Rn.of2 me_X9_writes (by simp [lg_sl, rt_cat, cat_i, cat_l]) (ok_i _) (l := [(0, va_rf a0), (1, .int a1)]) (by simp [lv_args, rt_cat, cat_i, cat_l]) (rX9_writes_0 hf)
