def fs4 (m : Nat) : List Value := [.int 0, .ref (m + 1), .int 0, .ref (m + 2), .ref (m + 3), .ref (m + 4), .int 0, .long 0, .ref (m + 5), .ref (m + 6), .ref (m + 7), .ref (m + 8), .ref (m + 9), .ref (m + 10), .int 0, .int 0, .ref (m + 11), .int 0, .ref (m + 12), .ref (m + 13), .ref (m + 14), .ref (m + 15), .ref (m + 16), .ref (m + 17), .ref (m + 18), .ref (m + 19), .ref (m + 20), .ref (m + 21), .ref (m + 22), .int 2700, .int 0, .ref (m + 23), .ref (m + 24), .ref (m + 25), .ref (m + 26), .int 0, .ref (m + 27), .ref (m + 28), .ref (m + 29), .ref (m + 30), .int 0, .ref (m + 31), .int 0, .ref (m + 32), .ref (m + 33), .ref (m + 34), .int 0, .ref (m + 35), .ref (m + 36), .ref (m + 37), .int 0, .int 0, .ref (m + 38), .ref (m + 39), .ref (m + 40), .ref (m + 41), .ref (m + 42), .ref (m + 43), .ref (m + 44), .ref (m + 45), .ref (m + 46), .ref (m + 47), .ref (m + 48), .ref (m + 49), .ref (m + 50), .ref (m + 51), .ref (m + 52), .ref (m + 53), .ref (m + 54), .ref (m + 55), .ref (m + 56), .int 0, .int 1, .int 0, .int 0, .ref (m + 57), .ref (m + 58), .ref (m + 59)]
theorem f4_len (m : Nat) : (fs4 m).length = 78 := rfl
theorem f4_18 (m : Nat) : (fs4 m)[18]? = some (.ref (m + 12)) := rfl
theorem f4_19 (m : Nat) : (fs4 m)[19]? = some (.ref (m + 13)) := rfl
theorem f4_20 (m : Nat) : (fs4 m)[20]? = some (.ref (m + 14)) := rfl
theorem f4_21 (m : Nat) : (fs4 m)[21]? = some (.ref (m + 15)) := rfl
theorem f4_24 (m : Nat) : (fs4 m)[24]? = some (.ref (m + 18)) := rfl
theorem f4_25 (m : Nat) : (fs4 m)[25]? = some (.ref (m + 19)) := rfl
theorem f4_26 (m : Nat) : (fs4 m)[26]? = some (.ref (m + 20)) := rfl
theorem f4_27 (m : Nat) : (fs4 m)[27]? = some (.ref (m + 21)) := rfl
theorem f4_28 (m : Nat) : (fs4 m)[28]? = some (.ref (m + 22)) := rfl
theorem f4_29 (m : Nat) : (fs4 m)[29]? = some (.int 2700) := rfl
theorem f4_30 (m : Nat) : (fs4 m)[30]? = some (.int 0) := rfl
theorem pm_clear {E : ah_E} {m : Nat} {W : ah_H} (p0 : W.2.2 m = some (.inr (11, preM m))) (p28 : W.2.2 (m + 22) = some (.inl (2, 2700, .inl (fun _ => 0)))) (p34 : W.2.2 (m + 26) = some (.inl (2, 7000, .inl (fun _ => 0)))) (p39 : W.2.2 (m + 30) = some (.inl (2, 14000, .inl (fun _ => 0)))) : ∃ (h4 : ah_H) (f1 f2 f3 : Nat → Int32), fX10_clearPages E (some m) W = some h4 ∧ f1 2699 = 0 ∧ h4.1 = W.1 ∧ h4.2.1 = W.2.1 ∧ h4.2.2 m = some (.inr (11, fs4 m)) ∧ h4.2.2 (m + 22) = some (.inl (2, 2700, .inl f1)) ∧ h4.2.2 (m + 26) = some (.inl (2, 7000, .inl f2)) ∧ h4.2.2 (m + 30) = some (.inl (2, 14000, .inl f3)) ∧ ∀ b, b ≠ m → b ≠ m + 22 → b ≠ m + 26 → b ≠ m + 30 → h4.2.2 b = W.2.2 b := by
  obtain ⟨f1, h1, a1, a2, a3, a4, a5, a6, a7⟩ := lm_9 E m (m + 22) (by omega) 2700 zf 0 W (fun _ => 0) (preM m) rfl (by decide) p0 rfl rfl (by show 29 < 78; decide) p28 (fun h => absurd h (by decide))
  have a6' : h1.2.2 m = some (.inr (11, fs4 m)) := a6
  obtain ⟨f2, b1⟩ := lm_41 E m (m + 26) (by omega) 7000 zf 0 h1 (fun _ => 0) rfl (by decide) (by rw [rd_r_of, a6', rd_r_o]; rfl) (by rw [a7 _ (by omega) (by omega)]; exact p34)
  have m2 : (ah_set h1 (m + 26) (.inl (2, 7000, .inl f2))).2.2 m = some (.inr (11, fs4 m)) := by rw [rs_ne (by omega)]; exact a6'
  have b2 : hp_pv (ah_set h1 (m + 26) (.inl (2, 7000, .inl f2))) (some m) 11 35 (.int (0 : Int32)) = some (ah_set h1 (m + 26) (.inl (2, 7000, .inl f2))) := by
    rw [rd_p_of, m2, rd_p_o, if_pos (by show 35 < 78; decide), show (fs4 m).set 35 (.int (0 : Int32)) = fs4 m from rfl, ah_set_id m2]
  obtain ⟨f3, d1⟩ := lm_83 E m (m + 30) (by omega) 14000 zf 0 (ah_set h1 (m + 26) (.inl (2, 7000, .inl f2))) (fun _ => 0) rfl (by decide) (by rw [rd_r_of, m2, rd_r_o]; rfl) (by rw [rs_ne (by omega), a7 _ (by omega) (by omega)]; exact p39)
  have m3 : (ah_set (ah_set h1 (m + 26) (.inl (2, 7000, .inl f2))) (m + 30) (.inl (2, 14000, .inl f3))).2.2 m = some (.inr (11, fs4 m)) := by rw [rs_ne (by omega)]; exact m2
  have d2 : hp_pv (ah_set (ah_set h1 (m + 26) (.inl (2, 7000, .inl f2))) (m + 30) (.inl (2, 14000, .inl f3))) (some m) 11 40 (.int (0 : Int32)) = some (ah_set (ah_set h1 (m + 26) (.inl (2, 7000, .inl f2))) (m + 30) (.inl (2, 14000, .inl f3))) := by
    rw [rd_p_of, m3, rd_p_o, if_pos (by show 40 < 78; decide), show (fs4 m).set 40 (.int (0 : Int32)) = fs4 m from rfl, ah_set_id m3]
  have c0 : hp_pv W (some m) 11 29 (.int (0 : Int32)) = some W := by
    rw [rd_p_of, p0, rd_p_o, if_pos (by show 29 < 78; decide), show (preM m).set 29 (.int (0 : Int32)) = preM m from rfl, ah_set_id p0]
  have r0 : hp_rcv W (some m) 11 = true := by rw [rd_c_of, p0, rd_c_o]
  have g1 : bX10_clearPages_9 E zf (some m) (2699 : Int32) W = bX10_clearPages_41 E zf (some m) (0 : Int32) h1 := a1
  have g2 : bX10_clearPages_41 E zf (some m) (0 : Int32) h1 = _ := b1
  have g3 : bX10_clearPages_83 E zf (some m) (0 : Int32) (ah_set h1 (m + 26) (.inl (2, 7000, .inl f2))) = _ := d1
  refine ⟨ah_set (ah_set h1 (m + 26) (.inl (2, 7000, .inl f2))) (m + 30) (.inl (2, 14000, .inl f3)), f1, f2, f3, ?_, a2, a3, a4, m3, ?_, ?_, ?_, fun b h0 h1 h2 h3 => ?_⟩
  · unfold fX10_clearPages bX10_clearPages_0
    rw [r0, if_neg (by decide), c0, Option.bind_some, g1, g2, b2, Option.bind_some, g3, d2, Option.bind_some]
  · rw [rs_ne (by omega), rs_ne (by omega)]; exact a5
  · rw [rs_ne (by omega), rs_at, if_pos rfl]
  · rw [rs_at, if_pos rfl]
  · rw [rs_ne h3, rs_ne h2, a7 b h1 h0]
set_option maxRecDepth 100000 in
set_option maxHeartbeats 1000000 in
theorem pm_init {E : ah_E} {m : Nat} {h : ah_H} (hn : h.1 = m) : ∃ (h2 : ah_H) (f1 f2 f3 : Nat → Int32), fX10_init E (some m) (ah_new h (.inr (11, nf_11)) 78) = some h2 ∧ FrM f1 f2 f3 m h2 ∧ h2.1 = m + 60 ∧ h2.2.1 = h.2.1 + 78 + 1402464 ∧ ∀ b, b < m → h2.2.2 b = h.2.2 b := by
  obtain ⟨W, hW, w1, w2, p0, wl, pr, wf⟩ := inM_run (h := h) hn
  have p1 := pr 0 _ rfl (by decide)
  have p2 := pr 1 _ rfl (by decide)
  have p3 := pr 2 _ rfl (by decide)
  have p4 := pr 3 _ rfl (by decide)
  have p5 := pr 4 _ rfl (by decide)
  have p6 := pr 5 _ rfl (by decide)
  have p7 := pr 6 _ rfl (by decide)
  have p8 := pr 7 _ rfl (by decide)
  have p9 := pr 8 _ rfl (by decide)
  have p10 := pr 9 _ rfl (by decide)
  have p11 := pr 10 _ rfl (by decide)
  have p12 := pr 11 _ rfl (by decide)
  have p13 := pr 12 _ rfl (by decide)
  have p14 := pr 13 _ rfl (by decide)
  have p15 := pr 14 _ rfl (by decide)
  have p16 := pr 15 _ rfl (by decide)
  have p17 := pr 16 _ rfl (by decide)
  have p18 := pr 17 _ rfl (by decide)
  have p19 := pr 18 _ rfl (by decide)
  have p20 := pr 19 _ rfl (by decide)
  have p21 := pr 20 _ rfl (by decide)
  have p22 := pr 21 _ rfl (by decide)
  have p23 := pr 22 _ rfl (by decide)
  have p24 := pr 23 _ rfl (by decide)
  have p25 := pr 24 _ rfl (by decide)
  have p26 := pr 25 _ rfl (by decide)
  have p27 := pr 26 _ rfl (by decide)
  have p28 := pr 27 _ rfl (by decide)
  have p29 := pr 28 _ rfl (by decide)
  have p30 := pr 29 _ rfl (by decide)
  have p31 := pr 30 _ rfl (by decide)
  have p32 := pr 31 _ rfl (by decide)
  have p33 := pr 32 _ rfl (by decide)
  have p34 := pr 33 _ rfl (by decide)
  have p35 := pr 34 _ rfl (by decide)
  have p36 := pr 35 _ rfl (by decide)
  have p37 := pr 36 _ rfl (by decide)
  have p38 := pr 37 _ rfl (by decide)
  have p39 := pr 38 _ rfl (by decide)
  have p40 := pr 39 _ rfl (by decide)
  have p41 := pr 40 _ rfl (by decide)
  have p42 := pr 41 _ rfl (by decide)
  have p43 := pr 42 _ rfl (by decide)
  have p44 := pr 43 _ rfl (by decide)
  have p45 := pr 44 _ rfl (by decide)
  have p46 := pr 45 _ rfl (by decide)
  have p47 := pr 46 _ rfl (by decide)
  have p48 := pr 47 _ rfl (by decide)
  have p49 := pr 48 _ rfl (by decide)
  have p50 := pr 49 _ rfl (by decide)
  have p51 := pr 50 _ rfl (by decide)
  have p52 := pr 51 _ rfl (by decide)
  have p53 := pr 52 _ rfl (by decide)
  have p54 := pr 53 _ rfl (by decide)
  have p55 := pr 54 _ rfl (by decide)
  have p56 := pr 55 _ rfl (by decide)
  have p57 := pr 56 _ rfl (by decide)
  have p58 := pr 57 _ rfl (by decide)
  have p59 := pr 58 _ rfl (by decide)
  have r : hp_rcv (ah_new h (.inr (11, nf_11)) 78) (some m) 11 = true := by rw [rd_c_of, rn_at, if_pos hn.symm, rd_c_o]
  obtain ⟨h4, f1, f2, f3, e4, fz, n4, s4, g0, g22, g26, g30, gf⟩ := pm_clear (E := E) p0 p22 p26 p30
  have g1 := (gf (m + 1) (by omega) (by omega) (by omega) (by omega)).trans p1
  have g2 := (gf (m + 2) (by omega) (by omega) (by omega) (by omega)).trans p2
  have g3 := (gf (m + 3) (by omega) (by omega) (by omega) (by omega)).trans p3
  have g4 := (gf (m + 4) (by omega) (by omega) (by omega) (by omega)).trans p4
  have g5 := (gf (m + 5) (by omega) (by omega) (by omega) (by omega)).trans p5
  have g6 := (gf (m + 6) (by omega) (by omega) (by omega) (by omega)).trans p6
  have g7 := (gf (m + 7) (by omega) (by omega) (by omega) (by omega)).trans p7
  have g8 := (gf (m + 8) (by omega) (by omega) (by omega) (by omega)).trans p8
  have g9 := (gf (m + 9) (by omega) (by omega) (by omega) (by omega)).trans p9
  have g10 := (gf (m + 10) (by omega) (by omega) (by omega) (by omega)).trans p10
  have g11 := (gf (m + 11) (by omega) (by omega) (by omega) (by omega)).trans p11
  have g12 := (gf (m + 12) (by omega) (by omega) (by omega) (by omega)).trans p12
  have g13 := (gf (m + 13) (by omega) (by omega) (by omega) (by omega)).trans p13
  have g14 := (gf (m + 14) (by omega) (by omega) (by omega) (by omega)).trans p14
  have g15 := (gf (m + 15) (by omega) (by omega) (by omega) (by omega)).trans p15
  have g16 := (gf (m + 16) (by omega) (by omega) (by omega) (by omega)).trans p16
  have g17 := (gf (m + 17) (by omega) (by omega) (by omega) (by omega)).trans p17
  have g18 := (gf (m + 18) (by omega) (by omega) (by omega) (by omega)).trans p18
  have g19 := (gf (m + 19) (by omega) (by omega) (by omega) (by omega)).trans p19
  have g20 := (gf (m + 20) (by omega) (by omega) (by omega) (by omega)).trans p20
  have g21 := (gf (m + 21) (by omega) (by omega) (by omega) (by omega)).trans p21
  have g23 := (gf (m + 23) (by omega) (by omega) (by omega) (by omega)).trans p23
  have g24 := (gf (m + 24) (by omega) (by omega) (by omega) (by omega)).trans p24
  have g25 := (gf (m + 25) (by omega) (by omega) (by omega) (by omega)).trans p25
  have g27 := (gf (m + 27) (by omega) (by omega) (by omega) (by omega)).trans p27
  have g28 := (gf (m + 28) (by omega) (by omega) (by omega) (by omega)).trans p28
  have g29 := (gf (m + 29) (by omega) (by omega) (by omega) (by omega)).trans p29
  have g31 := (gf (m + 31) (by omega) (by omega) (by omega) (by omega)).trans p31
  have g32 := (gf (m + 32) (by omega) (by omega) (by omega) (by omega)).trans p32
  have g33 := (gf (m + 33) (by omega) (by omega) (by omega) (by omega)).trans p33
  have g34 := (gf (m + 34) (by omega) (by omega) (by omega) (by omega)).trans p34
  have g35 := (gf (m + 35) (by omega) (by omega) (by omega) (by omega)).trans p35
  have g36 := (gf (m + 36) (by omega) (by omega) (by omega) (by omega)).trans p36
  have g37 := (gf (m + 37) (by omega) (by omega) (by omega) (by omega)).trans p37
  have g38 := (gf (m + 38) (by omega) (by omega) (by omega) (by omega)).trans p38
  have g39 := (gf (m + 39) (by omega) (by omega) (by omega) (by omega)).trans p39
  have g40 := (gf (m + 40) (by omega) (by omega) (by omega) (by omega)).trans p40
  have g41 := (gf (m + 41) (by omega) (by omega) (by omega) (by omega)).trans p41
  have g42 := (gf (m + 42) (by omega) (by omega) (by omega) (by omega)).trans p42
  have g43 := (gf (m + 43) (by omega) (by omega) (by omega) (by omega)).trans p43
  have g44 := (gf (m + 44) (by omega) (by omega) (by omega) (by omega)).trans p44
  have g45 := (gf (m + 45) (by omega) (by omega) (by omega) (by omega)).trans p45
  have g46 := (gf (m + 46) (by omega) (by omega) (by omega) (by omega)).trans p46
  have g47 := (gf (m + 47) (by omega) (by omega) (by omega) (by omega)).trans p47
  have g48 := (gf (m + 48) (by omega) (by omega) (by omega) (by omega)).trans p48
  have g49 := (gf (m + 49) (by omega) (by omega) (by omega) (by omega)).trans p49
  have g50 := (gf (m + 50) (by omega) (by omega) (by omega) (by omega)).trans p50
  have g51 := (gf (m + 51) (by omega) (by omega) (by omega) (by omega)).trans p51
  have g52 := (gf (m + 52) (by omega) (by omega) (by omega) (by omega)).trans p52
  have g53 := (gf (m + 53) (by omega) (by omega) (by omega) (by omega)).trans p53
  have g54 := (gf (m + 54) (by omega) (by omega) (by omega) (by omega)).trans p54
  have g55 := (gf (m + 55) (by omega) (by omega) (by omega) (by omega)).trans p55
  have g56 := (gf (m + 56) (by omega) (by omega) (by omega) (by omega)).trans p56
  have g57 := (gf (m + 57) (by omega) (by omega) (by omega) (by omega)).trans p57
  have g58 := (gf (m + 58) (by omega) (by omega) (by omega) (by omega)).trans p58
  have g59 := (gf (m + 59) (by omega) (by omega) (by omega) (by omega)).trans p59
  have q : fX10_init E (some m) (ah_new h (.inr (11, nf_11)) 78) = tlM E (some m) W := by
    unfold fX10_init
    rw [r, if_neg (by decide), inM_eq, hW]
  rw [q]
  refine ⟨_, f1, f2, f3, by simp [↓rb_bind, ↓rb_ob2, rb_zb, rs_1, rs_at, rn_1, rn_at, rd_i_of, rd_i_o, rd_j_of, rd_j_o, rd_r_of, rd_r_o, rd_p_of, rd_p_o, rd_c_of, rd_c_o, rd_k_of, rd_k_n, rd_b_of, rd_b_o, rd_b_n, rd_a_of, rd_a_o, rv_i_i, rv_j_j, rv_r_r, rv_r_n, va_rf, hp_len, hp_ldi, hp_ldb, hp_ldl, hp_ldq, hp_sti, hp_stb, hp_stl, hp_stq, hp_na, hp_new, hp_isq, hp_cpq, hp_cpb, zf, zd, upd_at, updL_at, up_at, nar_0, nar_1, i8_0, i8_1, tlM, e4, fX10_page, bX10_page_0, up_zero, fz, fs_set, List.length_set, -getElem?_pos, -getElem?_neg, Nat.add_assoc, g0, g22, g26, g30, f4_len, f4_18, f4_19, f4_20, f4_21, f4_24, f4_25, f4_26, f4_27, f4_28, f4_29, f4_30, g1, g2, g3, g4, g5, g6, g7, g8, g9, g10, g11, g12, g13, g14, g15, g16, g17, g18, g19, g20, g21, g23, g24, g25, g27, g28, g29, g31, g32, g33, g34, g35, g36, g37, g38, g39, g40, g41, g42, g43, g44, g45, g46, g47, g48, g49, g50, g51, g52, g53, g54, g55, g56, g57, g58, g59]; rfl, ?_, ?_, ?_, fun b hb => ?_⟩
  · refine ⟨?_, ?_, ?_, ?_, ?_, ?_, ?_, ?_, ?_, ?_, ?_, ?_, ?_, ?_, ?_, ?_, ?_, ?_, ?_, ?_, ?_, ?_, ?_, ?_, ?_, ?_, ?_, ?_, ?_, ?_, ?_, ?_, ?_, ?_, ?_, ?_, ?_, ?_, ?_, ?_, ?_, ?_, ?_, ?_, ?_, ?_, ?_, ?_, ?_, ?_, ?_, ?_, ?_, ?_, ?_, ?_, ?_, ?_, ?_, ?_⟩
    · rw [rs_at, if_pos rfl]; rfl
    all_goals simp [rs_at, g0, g22, g26, g30, g1, g2, g3, g4, g5, g6, g7, g8, g9, g10, g11, g12, g13, g14, g15, g16, g17, g18, g19, g20, g21, g23, g24, g25, g27, g28, g29, g31, g32, g33, g34, g35, g36, g37, g38, g39, g40, g41, g42, g43, g44, g45, g46, g47, g48, g49, g50, g51, g52, g53, g54, g55, g56, g57, g58, g59]
  · simp only [rs_1]; omega
  · simp only [rs_2]; omega
  · simp (disch := omega) only [rs_ne]
    rw [gf b (by omega) (by omega) (by omega) (by omega), wf b hb]
