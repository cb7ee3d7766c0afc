set_option maxRecDepth 100000 in
set_option maxHeartbeats 4000000 in
theorem pc_cut {E : ah_E} {nx : Nat} {h : ah_H} (F : FrC E nx h) (hn : h.1 = nx + 76) (n : Int32) : ∃ h2, fX9_cut E (some nx) n h = some (q_cut n, h2) ∧ Kp nx h h2 := by
  obtain ⟨c0, c1, c2, c3, c4, c5, c6, c7, c8, c9, c10, c11, c12, c13, c14, c15, cE, cN, hl, hl2⟩ := F
  have hE0 : ∀ k, (E.1 = nx + k) = False := fun k => eq_false (by omega)
  have hE1 : (E.1 = nx) = False := eq_false (by omega)
  have hE2 : ∀ k, (E.2.1 = nx + k) = False := fun k => eq_false (by omega)
  have hE3 : (E.2.1 = nx) = False := eq_false (by omega)
  have hE4 : ∀ k, (nx + k = E.1) = False := fun k => eq_false (by omega)
  have hE5 : (nx = E.1) = False := eq_false (by omega)
  have hE6 : ∀ k, (nx + k = E.2.1) = False := fun k => eq_false (by omega)
  have hE7 : (nx = E.2.1) = False := eq_false (by omega)
  by_cases e0 : n < 0
  · refine ⟨_, by simp [↓rb_bind, ↓rb_ob2, rb_zb, rs_1, rs_at, rn_1, rn_at, rd_i_of, rd_i_o, rd_j_of, rd_j_o, rd_r_of, rd_r_o, rd_p_of, rd_p_o, rd_c_of, rd_c_o, rd_k_of, rd_k_n, rd_b_of, rd_b_o, rd_b_n, rd_a_of, rd_a_o, rv_i_i, rv_j_j, rv_r_r, rv_r_n, va_rf, hp_len, hp_ldi, hp_ldb, hp_ldl, hp_ldq, hp_sti, hp_stb, hp_stl, hp_stq, hp_na, hp_new, hp_isq, hp_cpq, hp_cpb, zf, zd, upd_at, updL_at, up_at, nar_0, nar_1, i8_0, i8_1, bX9_cut_0, bX9_cut_15, fX9_cut, lc_fill, nf_0, nf_3, nf_4, nf_5, nf_6, nf_2, nf_7, q_feed, q_cut, q_swap, q_sweep, q_page, q_fall, q_disk, q_bend, q_writes, q_number, c0, c1, c2, c3, c4, c5, c6, c7, c8, c9, c10, c11, c12, c13, c14, c15, cE, cN, hn, hE0, hE1, hE2, hE3, hE4, hE5, hE6, hE7, Nat.add_assoc, e0]; rfl, ?_⟩
    first
      | (refine ⟨?_, ?_, ?_, fun z h1 h2 => ?_⟩
         · simp only [rs_1, rn_1]; try omega
         · simp only [rs_1, rn_1]; try omega
         · simp only [rs_2, rn_2]; try omega
         · simp (disch := first | omega | (simp only [rs_1, rn_1]; omega)) only [rs_ne, rn_ne])
      | exact Kp.rf
  · by_cases e1 : n ≤ 0
    · refine ⟨_, by simp [↓rb_bind, ↓rb_ob2, rb_zb, rs_1, rs_at, rn_1, rn_at, rd_i_of, rd_i_o, rd_j_of, rd_j_o, rd_r_of, rd_r_o, rd_p_of, rd_p_o, rd_c_of, rd_c_o, rd_k_of, rd_k_n, rd_b_of, rd_b_o, rd_b_n, rd_a_of, rd_a_o, rv_i_i, rv_j_j, rv_r_r, rv_r_n, va_rf, hp_len, hp_ldi, hp_ldb, hp_ldl, hp_ldq, hp_sti, hp_stb, hp_stl, hp_stq, hp_na, hp_new, hp_isq, hp_cpq, hp_cpb, zf, zd, upd_at, updL_at, up_at, nar_0, nar_1, i8_0, i8_1, bX9_cut_0, bX9_cut_15, fX9_cut, lc_fill, nf_0, nf_3, nf_4, nf_5, nf_6, nf_2, nf_7, q_feed, q_cut, q_swap, q_sweep, q_page, q_fall, q_disk, q_bend, q_writes, q_number, c0, c1, c2, c3, c4, c5, c6, c7, c8, c9, c10, c11, c12, c13, c14, c15, cE, cN, hn, hE0, hE1, hE2, hE3, hE4, hE5, hE6, hE7, Nat.add_assoc, e0, e1, Int32.not_lt.mpr e1]; rfl, ?_⟩
      first
        | (refine ⟨?_, ?_, ?_, fun z h1 h2 => ?_⟩
           · simp only [rs_1, rn_1]; try omega
           · simp only [rs_1, rn_1]; try omega
           · simp only [rs_2, rn_2]; try omega
           · simp (disch := first | omega | (simp only [rs_1, rn_1]; omega)) only [rs_ne, rn_ne])
        | exact Kp.rf
    · refine ⟨_, by simp [↓rb_bind, ↓rb_ob2, rb_zb, rs_1, rs_at, rn_1, rn_at, rd_i_of, rd_i_o, rd_j_of, rd_j_o, rd_r_of, rd_r_o, rd_p_of, rd_p_o, rd_c_of, rd_c_o, rd_k_of, rd_k_n, rd_b_of, rd_b_o, rd_b_n, rd_a_of, rd_a_o, rv_i_i, rv_j_j, rv_r_r, rv_r_n, va_rf, hp_len, hp_ldi, hp_ldb, hp_ldl, hp_ldq, hp_sti, hp_stb, hp_stl, hp_stq, hp_na, hp_new, hp_isq, hp_cpq, hp_cpb, zf, zd, upd_at, updL_at, up_at, nar_0, nar_1, i8_0, i8_1, bX9_cut_0, bX9_cut_15, fX9_cut, lc_fill, nf_0, nf_3, nf_4, nf_5, nf_6, nf_2, nf_7, q_feed, q_cut, q_swap, q_sweep, q_page, q_fall, q_disk, q_bend, q_writes, q_number, c0, c1, c2, c3, c4, c5, c6, c7, c8, c9, c10, c11, c12, c13, c14, c15, cE, cN, hn, hE0, hE1, hE2, hE3, hE4, hE5, hE6, hE7, Nat.add_assoc, e0, e1, Int32.not_le.mp e1]; rfl, ?_⟩
      first
        | (refine ⟨?_, ?_, ?_, fun z h1 h2 => ?_⟩
           · simp only [rs_1, rn_1]; try omega
           · simp only [rs_1, rn_1]; try omega
           · simp only [rs_2, rn_2]; try omega
           · simp (disch := first | omega | (simp only [rs_1, rn_1]; omega)) only [rs_ne, rn_ne])
        | exact Kp.rf
set_option maxRecDepth 100000 in
set_option maxHeartbeats 4000000 in
theorem pc_byteAt {E : ah_E} {nx : Nat} {h : ah_H} (F : FrC E nx h) (hn : h.1 = nx + 76) (i : Int32) : ∃ h2, fX9_byteAt E (some nx) i h = some (-1, h2) ∧ Kp nx h h2 := by
  obtain ⟨c0, c1, c2, c3, c4, c5, c6, c7, c8, c9, c10, c11, c12, c13, c14, c15, cE, cN, hl, hl2⟩ := F
  have hE0 : ∀ k, (E.1 = nx + k) = False := fun k => eq_false (by omega)
  have hE1 : (E.1 = nx) = False := eq_false (by omega)
  have hE2 : ∀ k, (E.2.1 = nx + k) = False := fun k => eq_false (by omega)
  have hE3 : (E.2.1 = nx) = False := eq_false (by omega)
  have hE4 : ∀ k, (nx + k = E.1) = False := fun k => eq_false (by omega)
  have hE5 : (nx = E.1) = False := eq_false (by omega)
  have hE6 : ∀ k, (nx + k = E.2.1) = False := fun k => eq_false (by omega)
  have hE7 : (nx = E.2.1) = False := eq_false (by omega)
  by_cases e0 : i < 0
  · refine ⟨_, by simp [↓rb_bind, ↓rb_ob2, rb_zb, rs_1, rs_at, rn_1, rn_at, rd_i_of, rd_i_o, rd_j_of, rd_j_o, rd_r_of, rd_r_o, rd_p_of, rd_p_o, rd_c_of, rd_c_o, rd_k_of, rd_k_n, rd_b_of, rd_b_o, rd_b_n, rd_a_of, rd_a_o, rv_i_i, rv_j_j, rv_r_r, rv_r_n, va_rf, hp_len, hp_ldi, hp_ldb, hp_ldl, hp_ldq, hp_sti, hp_stb, hp_stl, hp_stq, hp_na, hp_new, hp_isq, hp_cpq, hp_cpb, zf, zd, upd_at, updL_at, up_at, nar_0, nar_1, i8_0, i8_1, bX9_byteAt_0, bX9_byteAt_15, fX9_byteAt, lc_fill, nf_0, nf_3, nf_4, nf_5, nf_6, nf_2, nf_7, q_feed, q_cut, q_swap, q_sweep, q_page, q_fall, q_disk, q_bend, q_writes, q_number, c0, c1, c2, c3, c4, c5, c6, c7, c8, c9, c10, c11, c12, c13, c14, c15, cE, cN, hn, hE0, hE1, hE2, hE3, hE4, hE5, hE6, hE7, Nat.add_assoc, e0]; rfl, ?_⟩
    first
      | (refine ⟨?_, ?_, ?_, fun z h1 h2 => ?_⟩
         · simp only [rs_1, rn_1]; try omega
         · simp only [rs_1, rn_1]; try omega
         · simp only [rs_2, rn_2]; try omega
         · simp (disch := first | omega | (simp only [rs_1, rn_1]; omega)) only [rs_ne, rn_ne])
      | exact Kp.rf
  · refine ⟨_, by simp [↓rb_bind, ↓rb_ob2, rb_zb, rs_1, rs_at, rn_1, rn_at, rd_i_of, rd_i_o, rd_j_of, rd_j_o, rd_r_of, rd_r_o, rd_p_of, rd_p_o, rd_c_of, rd_c_o, rd_k_of, rd_k_n, rd_b_of, rd_b_o, rd_b_n, rd_a_of, rd_a_o, rv_i_i, rv_j_j, rv_r_r, rv_r_n, va_rf, hp_len, hp_ldi, hp_ldb, hp_ldl, hp_ldq, hp_sti, hp_stb, hp_stl, hp_stq, hp_na, hp_new, hp_isq, hp_cpq, hp_cpb, zf, zd, upd_at, updL_at, up_at, nar_0, nar_1, i8_0, i8_1, bX9_byteAt_0, bX9_byteAt_15, fX9_byteAt, lc_fill, nf_0, nf_3, nf_4, nf_5, nf_6, nf_2, nf_7, q_feed, q_cut, q_swap, q_sweep, q_page, q_fall, q_disk, q_bend, q_writes, q_number, c0, c1, c2, c3, c4, c5, c6, c7, c8, c9, c10, c11, c12, c13, c14, c15, cE, cN, hn, hE0, hE1, hE2, hE3, hE4, hE5, hE6, hE7, Nat.add_assoc, e0]; rfl, ?_⟩
    first
      | (refine ⟨?_, ?_, ?_, fun z h1 h2 => ?_⟩
         · simp only [rs_1, rn_1]; try omega
         · simp only [rs_1, rn_1]; try omega
         · simp only [rs_2, rn_2]; try omega
         · simp (disch := first | omega | (simp only [rs_1, rn_1]; omega)) only [rs_ne, rn_ne])
      | exact Kp.rf
