set_option maxRecDepth 100000 in
set_option maxHeartbeats 4000000 in
theorem pc_get {E : ah_E} {nx : Nat} {h : ah_H} (F : FrC E nx h) (hn : h.1 = nx + 76) (k : Int64) : ∃ h2, fX9_get E (some nx) k h = some (-1, h2) ∧ Kp nx h h2 := by
  obtain ⟨c0, c1, c2, c3, c4, c5, c6, c7, c8, c9, c10, c11, c12, c13, c14, c15, cE, cN, hl, hl2⟩ := F
  have hE0 : ∀ k, (E.1 = nx + k) = False := fun k => eq_false (by omega)
  have hE1 : (E.1 = nx) = False := eq_false (by omega)
  have hE2 : ∀ k, (E.2.1 = nx + k) = False := fun k => eq_false (by omega)
  have hE3 : (E.2.1 = nx) = False := eq_false (by omega)
  have hE4 : ∀ k, (nx + k = E.1) = False := fun k => eq_false (by omega)
  have hE5 : (nx = E.1) = False := eq_false (by omega)
  have hE6 : ∀ k, (nx + k = E.2.1) = False := fun k => eq_false (by omega)
  have hE7 : (nx = E.2.1) = False := eq_false (by omega)
  refine ⟨_, by simp [↓rb_bind, ↓rb_ob2, rb_zb, rs_1, rs_at, rn_1, rn_at, rd_i_of, rd_i_o, rd_j_of, rd_j_o, rd_r_of, rd_r_o, rd_p_of, rd_p_o, rd_c_of, rd_c_o, rd_k_of, rd_k_n, rd_b_of, rd_b_o, rd_b_n, rd_a_of, rd_a_o, rv_i_i, rv_j_j, rv_r_r, rv_r_n, va_rf, hp_len, hp_ldi, hp_ldb, hp_ldl, hp_ldq, hp_sti, hp_stb, hp_stl, hp_stq, hp_na, hp_new, hp_isq, hp_cpq, hp_cpb, zf, zd, upd_at, updL_at, up_at, nar_0, nar_1, i8_0, i8_1, bJ15_checkIndex_7cf53_0, bJ3_checkIndex_8e157_0, bJ3_checkIndex_8e157_9, bJ9_min_7cf53_0, bJ9_min_7cf53_10, bJx4a65c_elementData_915e3_0, bJx4a65c_get_915e3_0, bJx4a65c_size_8abf5_0, bX1_firstNotBelow_0, bX1_firstNotBelow_67, bX1_firstNotBelow_73, bX1_hasAt_0, bX1_hasAt_38, bX1_hasAt_39, bX1_rowOf_0, bX1_rowOf_33, bX7_become_0, bX9_get_0, bX9_load_0, fJ15_checkIndex_7cf53, fJ3_checkIndex_8e157, fJ9_min_7cf53, fJx4a65c_elementData_915e3, fJx4a65c_get_915e3, fJx4a65c_size_8abf5, fX1_firstNotBelow, fX1_hasAt, fX1_rowOf, fX7_become, fX9_get, fX9_load, u_bX1_firstNotBelow_14, lc_fill, nf_0, nf_3, nf_4, nf_5, nf_6, nf_2, nf_7, q_feed, q_cut, q_swap, q_sweep, q_page, q_fall, q_disk, q_bend, q_writes, q_number, c0, c1, c2, c3, c4, c5, c6, c7, c8, c9, c10, c11, c12, c13, c14, c15, cE, cN, hn, hE0, hE1, hE2, hE3, hE4, hE5, hE6, hE7, Nat.add_assoc]; rfl, ?_⟩
  first
    | (refine ⟨?_, ?_, ?_, fun z h1 h2 => ?_⟩
       · simp only [rs_1, rn_1]; try omega
       · simp only [rs_1, rn_1]; try omega
       · simp only [rs_2, rn_2]; try omega
       · simp (disch := first | omega | (simp only [rs_1, rn_1]; omega)) only [rs_ne, rn_ne])
    | exact Kp.rf
set_option maxRecDepth 100000 in
set_option maxHeartbeats 4000000 in
theorem pc_has {E : ah_E} {nx : Nat} {h : ah_H} (F : FrC E nx h) (hn : h.1 = nx + 76) (k : Int64) : ∃ h2, fX9_has E (some nx) k h = some (0, h2) ∧ Kp nx h h2 := by
  obtain ⟨c0, c1, c2, c3, c4, c5, c6, c7, c8, c9, c10, c11, c12, c13, c14, c15, cE, cN, hl, hl2⟩ := F
  have hE0 : ∀ k, (E.1 = nx + k) = False := fun k => eq_false (by omega)
  have hE1 : (E.1 = nx) = False := eq_false (by omega)
  have hE2 : ∀ k, (E.2.1 = nx + k) = False := fun k => eq_false (by omega)
  have hE3 : (E.2.1 = nx) = False := eq_false (by omega)
  have hE4 : ∀ k, (nx + k = E.1) = False := fun k => eq_false (by omega)
  have hE5 : (nx = E.1) = False := eq_false (by omega)
  have hE6 : ∀ k, (nx + k = E.2.1) = False := fun k => eq_false (by omega)
  have hE7 : (nx = E.2.1) = False := eq_false (by omega)
  refine ⟨_, by simp [↓rb_bind, ↓rb_ob2, rb_zb, rs_1, rs_at, rn_1, rn_at, rd_i_of, rd_i_o, rd_j_of, rd_j_o, rd_r_of, rd_r_o, rd_p_of, rd_p_o, rd_c_of, rd_c_o, rd_k_of, rd_k_n, rd_b_of, rd_b_o, rd_b_n, rd_a_of, rd_a_o, rv_i_i, rv_j_j, rv_r_r, rv_r_n, va_rf, hp_len, hp_ldi, hp_ldb, hp_ldl, hp_ldq, hp_sti, hp_stb, hp_stl, hp_stq, hp_na, hp_new, hp_isq, hp_cpq, hp_cpb, zf, zd, upd_at, updL_at, up_at, nar_0, nar_1, i8_0, i8_1, bJ15_checkIndex_7cf53_0, bJ3_checkIndex_8e157_0, bJ3_checkIndex_8e157_9, bJx4a65c_elementData_915e3_0, bJx4a65c_get_915e3_0, bJx4a65c_size_8abf5_0, bX1_firstNotBelow_0, bX1_firstNotBelow_67, bX1_firstNotBelow_73, bX1_hasAt_0, bX1_hasAt_38, bX1_hasAt_39, bX1_rowOf_0, bX1_rowOf_33, bX9_has_0, bX9_has_26, fJ15_checkIndex_7cf53, fJ3_checkIndex_8e157, fJx4a65c_elementData_915e3, fJx4a65c_get_915e3, fJx4a65c_size_8abf5, fX1_firstNotBelow, fX1_hasAt, fX1_rowOf, fX9_has, u_bX1_firstNotBelow_14, lc_fill, nf_0, nf_3, nf_4, nf_5, nf_6, nf_2, nf_7, q_feed, q_cut, q_swap, q_sweep, q_page, q_fall, q_disk, q_bend, q_writes, q_number, c0, c1, c2, c3, c4, c5, c6, c7, c8, c9, c10, c11, c12, c13, c14, c15, cE, cN, hn, hE0, hE1, hE2, hE3, hE4, hE5, hE6, hE7, Nat.add_assoc]; rfl, ?_⟩
  first
    | (refine ⟨?_, ?_, ?_, fun z h1 h2 => ?_⟩
       · simp only [rs_1, rn_1]; try omega
       · simp only [rs_1, rn_1]; try omega
       · simp only [rs_2, rn_2]; try omega
       · simp (disch := first | omega | (simp only [rs_1, rn_1]; omega)) only [rs_ne, rn_ne])
    | exact Kp.rf
set_option maxRecDepth 100000 in
set_option maxHeartbeats 4000000 in
theorem pc_next {E : ah_E} {nx : Nat} {h : ah_H} (F : FrC E nx h) (hn : h.1 = nx + 76) (k : Int64) : ∃ h2, fX9_next E (some nx) k h = some (0, h2) ∧ Kp nx h h2 := by
  obtain ⟨c0, c1, c2, c3, c4, c5, c6, c7, c8, c9, c10, c11, c12, c13, c14, c15, cE, cN, hl, hl2⟩ := F
  have hE0 : ∀ k, (E.1 = nx + k) = False := fun k => eq_false (by omega)
  have hE1 : (E.1 = nx) = False := eq_false (by omega)
  have hE2 : ∀ k, (E.2.1 = nx + k) = False := fun k => eq_false (by omega)
  have hE3 : (E.2.1 = nx) = False := eq_false (by omega)
  have hE4 : ∀ k, (nx + k = E.1) = False := fun k => eq_false (by omega)
  have hE5 : (nx = E.1) = False := eq_false (by omega)
  have hE6 : ∀ k, (nx + k = E.2.1) = False := fun k => eq_false (by omega)
  have hE7 : (nx = E.2.1) = False := eq_false (by omega)
  refine ⟨_, by simp [↓rb_bind, ↓rb_ob2, rb_zb, rs_1, rs_at, rn_1, rn_at, rd_i_of, rd_i_o, rd_j_of, rd_j_o, rd_r_of, rd_r_o, rd_p_of, rd_p_o, rd_c_of, rd_c_o, rd_k_of, rd_k_n, rd_b_of, rd_b_o, rd_b_n, rd_a_of, rd_a_o, rv_i_i, rv_j_j, rv_r_r, rv_r_n, va_rf, hp_len, hp_ldi, hp_ldb, hp_ldl, hp_ldq, hp_sti, hp_stb, hp_stl, hp_stq, hp_na, hp_new, hp_isq, hp_cpq, hp_cpb, zf, zd, upd_at, updL_at, up_at, nar_0, nar_1, i8_0, i8_1, bJ15_checkIndex_7cf53_0, bJ3_checkIndex_8e157_0, bJ3_checkIndex_8e157_9, bJx4a65c_elementData_915e3_0, bJx4a65c_get_915e3_0, bJx4a65c_size_8abf5_0, bX1_firstNotBelow_0, bX1_firstNotBelow_67, bX1_firstNotBelow_73, bX9_findEntry_0, bX9_findEntry_18, bX9_next_0, fJ15_checkIndex_7cf53, fJ3_checkIndex_8e157, fJx4a65c_elementData_915e3, fJx4a65c_get_915e3, fJx4a65c_size_8abf5, fX1_firstNotBelow, fX9_findEntry, fX9_next, u_bX1_firstNotBelow_14, lc_fill, nf_0, nf_3, nf_4, nf_5, nf_6, nf_2, nf_7, q_feed, q_cut, q_swap, q_sweep, q_page, q_fall, q_disk, q_bend, q_writes, q_number, c0, c1, c2, c3, c4, c5, c6, c7, c8, c9, c10, c11, c12, c13, c14, c15, cE, cN, hn, hE0, hE1, hE2, hE3, hE4, hE5, hE6, hE7, Nat.add_assoc]; rfl, ?_⟩
  first
    | (refine ⟨?_, ?_, ?_, fun z h1 h2 => ?_⟩
       · simp only [rs_1, rn_1]; try omega
       · simp only [rs_1, rn_1]; try omega
       · simp only [rs_2, rn_2]; try omega
       · simp (disch := first | omega | (simp only [rs_1, rn_1]; omega)) only [rs_ne, rn_ne])
    | exact Kp.rf
set_option maxRecDepth 100000 in
set_option maxHeartbeats 4000000 in
theorem pc_prior {E : ah_E} {nx : Nat} {h : ah_H} (F : FrC E nx h) (hn : h.1 = nx + 76) (k : Int64) : ∃ h2, fX9_prior E (some nx) k h = some (0, h2) ∧ Kp nx h h2 := by
  obtain ⟨c0, c1, c2, c3, c4, c5, c6, c7, c8, c9, c10, c11, c12, c13, c14, c15, cE, cN, hl, hl2⟩ := F
  have hE0 : ∀ k, (E.1 = nx + k) = False := fun k => eq_false (by omega)
  have hE1 : (E.1 = nx) = False := eq_false (by omega)
  have hE2 : ∀ k, (E.2.1 = nx + k) = False := fun k => eq_false (by omega)
  have hE3 : (E.2.1 = nx) = False := eq_false (by omega)
  have hE4 : ∀ k, (nx + k = E.1) = False := fun k => eq_false (by omega)
  have hE5 : (nx = E.1) = False := eq_false (by omega)
  have hE6 : ∀ k, (nx + k = E.2.1) = False := fun k => eq_false (by omega)
  have hE7 : (nx = E.2.1) = False := eq_false (by omega)
  refine ⟨_, by simp [↓rb_bind, ↓rb_ob2, rb_zb, rs_1, rs_at, rn_1, rn_at, rd_i_of, rd_i_o, rd_j_of, rd_j_o, rd_r_of, rd_r_o, rd_p_of, rd_p_o, rd_c_of, rd_c_o, rd_k_of, rd_k_n, rd_b_of, rd_b_o, rd_b_n, rd_a_of, rd_a_o, rv_i_i, rv_j_j, rv_r_r, rv_r_n, va_rf, hp_len, hp_ldi, hp_ldb, hp_ldl, hp_ldq, hp_sti, hp_stb, hp_stl, hp_stq, hp_na, hp_new, hp_isq, hp_cpq, hp_cpb, zf, zd, upd_at, updL_at, up_at, nar_0, nar_1, i8_0, i8_1, bJ15_checkIndex_7cf53_0, bJ3_checkIndex_8e157_0, bJ3_checkIndex_8e157_9, bJx4a65c_elementData_915e3_0, bJx4a65c_get_915e3_0, bJx4a65c_size_8abf5_0, bX1_firstNotBelow_0, bX1_firstNotBelow_67, bX1_firstNotBelow_73, bX1_hasAt_0, bX1_hasAt_38, bX1_hasAt_39, bX9_findEntry_0, bX9_findEntry_18, bX9_prior_0, bX9_prior_39, fJ15_checkIndex_7cf53, fJ3_checkIndex_8e157, fJx4a65c_elementData_915e3, fJx4a65c_get_915e3, fJx4a65c_size_8abf5, fX1_firstNotBelow, fX1_hasAt, fX9_findEntry, fX9_prior, u_bX1_firstNotBelow_14, lc_fill, nf_0, nf_3, nf_4, nf_5, nf_6, nf_2, nf_7, q_feed, q_cut, q_swap, q_sweep, q_page, q_fall, q_disk, q_bend, q_writes, q_number, c0, c1, c2, c3, c4, c5, c6, c7, c8, c9, c10, c11, c12, c13, c14, c15, cE, cN, hn, hE0, hE1, hE2, hE3, hE4, hE5, hE6, hE7, Nat.add_assoc]; rfl, ?_⟩
  first
    | (refine ⟨?_, ?_, ?_, fun z h1 h2 => ?_⟩
       · simp only [rs_1, rn_1]; try omega
       · simp only [rs_1, rn_1]; try omega
       · simp only [rs_2, rn_2]; try omega
       · simp (disch := first | omega | (simp only [rs_1, rn_1]; omega)) only [rs_ne, rn_ne])
    | exact Kp.rf
set_option maxRecDepth 100000 in
set_option maxHeartbeats 4000000 in
theorem pc_found {E : ah_E} {nx : Nat} {h : ah_H} (F : FrC E nx h) (hn : h.1 = nx + 76)  : ∃ h2, fX9_found E (some nx)  h = some (0, h2) ∧ Kp nx h h2 := by
  obtain ⟨c0, c1, c2, c3, c4, c5, c6, c7, c8, c9, c10, c11, c12, c13, c14, c15, cE, cN, hl, hl2⟩ := F
  have hE0 : ∀ k, (E.1 = nx + k) = False := fun k => eq_false (by omega)
  have hE1 : (E.1 = nx) = False := eq_false (by omega)
  have hE2 : ∀ k, (E.2.1 = nx + k) = False := fun k => eq_false (by omega)
  have hE3 : (E.2.1 = nx) = False := eq_false (by omega)
  have hE4 : ∀ k, (nx + k = E.1) = False := fun k => eq_false (by omega)
  have hE5 : (nx = E.1) = False := eq_false (by omega)
  have hE6 : ∀ k, (nx + k = E.2.1) = False := fun k => eq_false (by omega)
  have hE7 : (nx = E.2.1) = False := eq_false (by omega)
  refine ⟨_, by simp [↓rb_bind, ↓rb_ob2, rb_zb, rs_1, rs_at, rn_1, rn_at, rd_i_of, rd_i_o, rd_j_of, rd_j_o, rd_r_of, rd_r_o, rd_p_of, rd_p_o, rd_c_of, rd_c_o, rd_k_of, rd_k_n, rd_b_of, rd_b_o, rd_b_n, rd_a_of, rd_a_o, rv_i_i, rv_j_j, rv_r_r, rv_r_n, va_rf, hp_len, hp_ldi, hp_ldb, hp_ldl, hp_ldq, hp_sti, hp_stb, hp_stl, hp_stq, hp_na, hp_new, hp_isq, hp_cpq, hp_cpb, zf, zd, upd_at, updL_at, up_at, nar_0, nar_1, i8_0, i8_1, bX9_found_0, fX9_found, lc_fill, nf_0, nf_3, nf_4, nf_5, nf_6, nf_2, nf_7, q_feed, q_cut, q_swap, q_sweep, q_page, q_fall, q_disk, q_bend, q_writes, q_number, c0, c1, c2, c3, c4, c5, c6, c7, c8, c9, c10, c11, c12, c13, c14, c15, cE, cN, hn, hE0, hE1, hE2, hE3, hE4, hE5, hE6, hE7, Nat.add_assoc]; rfl, ?_⟩
  first
    | (refine ⟨?_, ?_, ?_, fun z h1 h2 => ?_⟩
       · simp only [rs_1, rn_1]; try omega
       · simp only [rs_1, rn_1]; try omega
       · simp only [rs_2, rn_2]; try omega
       · simp (disch := first | omega | (simp only [rs_1, rn_1]; omega)) only [rs_ne, rn_ne])
    | exact Kp.rf
set_option maxRecDepth 100000 in
set_option maxHeartbeats 4000000 in
theorem pc_count {E : ah_E} {nx : Nat} {h : ah_H} (F : FrC E nx h) (hn : h.1 = nx + 76)  : ∃ h2, fX9_count E (some nx)  h = some (0, h2) ∧ Kp nx h h2 := by
  obtain ⟨c0, c1, c2, c3, c4, c5, c6, c7, c8, c9, c10, c11, c12, c13, c14, c15, cE, cN, hl, hl2⟩ := F
  have hE0 : ∀ k, (E.1 = nx + k) = False := fun k => eq_false (by omega)
  have hE1 : (E.1 = nx) = False := eq_false (by omega)
  have hE2 : ∀ k, (E.2.1 = nx + k) = False := fun k => eq_false (by omega)
  have hE3 : (E.2.1 = nx) = False := eq_false (by omega)
  have hE4 : ∀ k, (nx + k = E.1) = False := fun k => eq_false (by omega)
  have hE5 : (nx = E.1) = False := eq_false (by omega)
  have hE6 : ∀ k, (nx + k = E.2.1) = False := fun k => eq_false (by omega)
  have hE7 : (nx = E.2.1) = False := eq_false (by omega)
  refine ⟨_, by simp [↓rb_bind, ↓rb_ob2, rb_zb, rs_1, rs_at, rn_1, rn_at, rd_i_of, rd_i_o, rd_j_of, rd_j_o, rd_r_of, rd_r_o, rd_p_of, rd_p_o, rd_c_of, rd_c_o, rd_k_of, rd_k_n, rd_b_of, rd_b_o, rd_b_n, rd_a_of, rd_a_o, rv_i_i, rv_j_j, rv_r_r, rv_r_n, va_rf, hp_len, hp_ldi, hp_ldb, hp_ldl, hp_ldq, hp_sti, hp_stb, hp_stl, hp_stq, hp_na, hp_new, hp_isq, hp_cpq, hp_cpb, zf, zd, upd_at, updL_at, up_at, nar_0, nar_1, i8_0, i8_1, bJx4a65c_size_8abf5_0, bX9_count_0, bX9_count_22, fJx4a65c_size_8abf5, fX9_count, lc_fill, nf_0, nf_3, nf_4, nf_5, nf_6, nf_2, nf_7, q_feed, q_cut, q_swap, q_sweep, q_page, q_fall, q_disk, q_bend, q_writes, q_number, c0, c1, c2, c3, c4, c5, c6, c7, c8, c9, c10, c11, c12, c13, c14, c15, cE, cN, hn, hE0, hE1, hE2, hE3, hE4, hE5, hE6, hE7, Nat.add_assoc]; rfl, ?_⟩
  first
    | (refine ⟨?_, ?_, ?_, fun z h1 h2 => ?_⟩
       · simp only [rs_1, rn_1]; try omega
       · simp only [rs_1, rn_1]; try omega
       · simp only [rs_2, rn_2]; try omega
       · simp (disch := first | omega | (simp only [rs_1, rn_1]; omega)) only [rs_ne, rn_ne])
    | exact Kp.rf
set_option maxRecDepth 100000 in
set_option maxHeartbeats 4000000 in
theorem pc_sink {E : ah_E} {nx : Nat} {h : ah_H} (F : FrC E nx h) (hn : h.1 = nx + 76)  : ∃ h2, fX9_sink E (some nx)  h = some (0, h2) ∧ Kp nx h h2 := by
  obtain ⟨c0, c1, c2, c3, c4, c5, c6, c7, c8, c9, c10, c11, c12, c13, c14, c15, cE, cN, hl, hl2⟩ := F
  have hE0 : ∀ k, (E.1 = nx + k) = False := fun k => eq_false (by omega)
  have hE1 : (E.1 = nx) = False := eq_false (by omega)
  have hE2 : ∀ k, (E.2.1 = nx + k) = False := fun k => eq_false (by omega)
  have hE3 : (E.2.1 = nx) = False := eq_false (by omega)
  have hE4 : ∀ k, (nx + k = E.1) = False := fun k => eq_false (by omega)
  have hE5 : (nx = E.1) = False := eq_false (by omega)
  have hE6 : ∀ k, (nx + k = E.2.1) = False := fun k => eq_false (by omega)
  have hE7 : (nx = E.2.1) = False := eq_false (by omega)
  refine ⟨_, by simp [↓rb_bind, ↓rb_ob2, rb_zb, rs_1, rs_at, rn_1, rn_at, rd_i_of, rd_i_o, rd_j_of, rd_j_o, rd_r_of, rd_r_o, rd_p_of, rd_p_o, rd_c_of, rd_c_o, rd_k_of, rd_k_n, rd_b_of, rd_b_o, rd_b_n, rd_a_of, rd_a_o, rv_i_i, rv_j_j, rv_r_r, rv_r_n, va_rf, hp_len, hp_ldi, hp_ldb, hp_ldl, hp_ldq, hp_sti, hp_stb, hp_stl, hp_stq, hp_na, hp_new, hp_isq, hp_cpq, hp_cpb, zf, zd, upd_at, updL_at, up_at, nar_0, nar_1, i8_0, i8_1, bJ15_checkIndex_7cf53_0, bJ3_checkIndex_8e157_0, bJ3_checkIndex_8e157_9, bJ7_copyOf_1904c_0, bJ7_copyOf_6403c_0, bJ7_copyOf_9075b_0, bJ8_hugeLength_7cf53_0, bJ8_newLength_cabcc_0, bJ8_newLength_cabcc_21, bJ9_max_7cf53_0, bJ9_max_7cf53_10, bJ9_max_f86c9_0, bJ9_max_f86c9_11, bJ9_min_7cf53_0, bJ9_min_7cf53_10, bJ9_min_f86c9_0, bJ9_min_f86c9_11, bJx4a65c_add_72be8_0, bJx4a65c_add_72be8_11, bJx4a65c_add_7a177_0, bJx4a65c_add_7a177_38, bJx4a65c_add_9ea2d_0, bJx4a65c_clear_da8c8_0, bJx4a65c_elementData_915e3_0, bJx4a65c_fastRemove_b59b0_0, bJx4a65c_fastRemove_b59b0_34, bJx4a65c_get_915e3_0, bJx4a65c_grow_92f84_0, bJx4a65c_grow_92f84_20, bJx4a65c_grow_d5877_0, bJx4a65c_init_da8c8_0, bJx4a65c_isEmpty_aae02_0, bJx4a65c_isEmpty_aae02_12, bJx4a65c_rangeCheckForAdd_d00df_0, bJx4a65c_rangeCheckForAdd_d00df_12, bJx4a65c_remove_915e3_0, bJx4a65c_set_bcc79_0, bJx4a65c_size_8abf5_0, bJxa1e45_init_da8c8_0, bJxc12de_init_da8c8_0, bX1_act_0, bX1_act_127, bX1_act_25, bX1_act_67, bX1_firstNotBelow_0, bX1_firstNotBelow_67, bX1_firstNotBelow_73, bX1_hasAt_0, bX1_hasAt_38, bX1_hasAt_39, bX1_init_0, bX1_isChangedBy_0, bX1_isChangedBy_60, bX1_removeFrom_0, bX1_removeFrom_64, bX2_init_0, bX4_changes_0, bX4_changes_16, bX4_changes_30, bX4_changes_39, bX4_changes_55, bX4_changes_85, bX4_changes_92, bX4_init_0, bX4_meets_0, bX4_meets_22, bX4_meets_23, bX4_rowAfter_0, bX4_rowAfter_16, bX4_rowAfter_30, bX5_copyInto_0, bX5_copyInto_103, bX5_copyInto_56, bX5_fullestKid_0, bX5_fullestKid_53, bX5_init_0, bX5_isChangedBy_0, bX5_isChangedBy_35, bX5_isLeaf_0, bX5_isTooBig_0, bX5_isTooBig_17, bX5_isTooBig_25, bX5_lastKeyOf_0, bX5_lastKeyOf_37, bX5_lettersFrom_0, bX5_lettersFrom_52, bX5_moveLetters_0, bX5_moveLetters_69, bX5_moveLetters_77, bX5_opened_0, bX5_partKid_0, bX5_partKid_32, bX5_partKid_58, bX5_partOf_0, bX5_partOf_58, bX5_partOf_59, bX5_takeInParts_0, bX5_takeInParts_85, bX5_takeIn_0, bX5_takeIn_63, bX5_width_0, bX8_give_0, bX8_give_63, bX8_partRoot_0, bX8_partRoot_64, bX8_sinkPage_0, bX8_sinkPage_22, bX8_sinkRoot_0, bX9_sink_0, bX9_sink_19, fJ15_checkIndex_7cf53, fJ3_checkIndex_8e157, fJ7_copyOf_1904c, fJ7_copyOf_6403c, fJ7_copyOf_9075b, fJ8_hugeLength_7cf53, fJ8_newLength_cabcc, fJ9_max_7cf53, fJ9_max_f86c9, fJ9_min_7cf53, fJ9_min_f86c9, fJx4a65c_add_72be8, fJx4a65c_add_7a177, fJx4a65c_add_9ea2d, fJx4a65c_clear_da8c8, fJx4a65c_elementData_915e3, fJx4a65c_fastRemove_b59b0, fJx4a65c_get_915e3, fJx4a65c_grow_92f84, fJx4a65c_grow_d5877, fJx4a65c_init_da8c8, fJx4a65c_isEmpty_aae02, fJx4a65c_rangeCheckForAdd_d00df, fJx4a65c_remove_915e3, fJx4a65c_set_bcc79, fJx4a65c_size_8abf5, fJxa1e45_init_da8c8, fJxc12de_init_da8c8, fX1_act, fX1_firstNotBelow, fX1_hasAt, fX1_init, fX1_isChangedBy, fX1_removeFrom, fX2_init, fX4_changes, fX4_init, fX4_meets, fX4_rowAfter, fX5_copyInto, fX5_fullestKid, fX5_init, fX5_isChangedBy, fX5_isLeaf, fX5_isTooBig, fX5_lastKeyOf, fX5_lettersFrom, fX5_moveLetters, fX5_opened, fX5_partKid, fX5_partOf, fX5_takeIn, fX5_takeInParts, fX5_width, fX8_partRoot, fX8_sinkPage, fX8_sinkRoot, fX9_sink, gX8_give, u_bJx4a65c_clear_da8c8_27, u_bX1_firstNotBelow_14, u_bX1_removeFrom_12, u_bX4_changes_58, u_bX4_rowAfter_59, u_bX5_copyInto_3, u_bX5_copyInto_59, u_bX5_fullestKid_6, u_bX5_isChangedBy_2, u_bX5_lettersFrom_6, u_bX5_moveLetters_12, u_bX5_moveLetters_93, u_bX5_opened_41, u_bX5_partKid_90, u_bX5_takeInParts_2, u_bX5_takeIn_2, u_bX8_give_32, u_bX8_partRoot_2, u_fX8_give, lc_fill, nf_0, nf_3, nf_4, nf_5, nf_6, nf_2, nf_7, q_feed, q_cut, q_swap, q_sweep, q_page, q_fall, q_disk, q_bend, q_writes, q_number, c0, c1, c2, c3, c4, c5, c6, c7, c8, c9, c10, c11, c12, c13, c14, c15, cE, cN, hn, hE0, hE1, hE2, hE3, hE4, hE5, hE6, hE7, Nat.add_assoc]; rfl, ?_⟩
  first
    | (refine ⟨?_, ?_, ?_, fun z h1 h2 => ?_⟩
       · simp only [rs_1, rn_1]; try omega
       · simp only [rs_1, rn_1]; try omega
       · simp only [rs_2, rn_2]; try omega
       · simp (disch := first | omega | (simp only [rs_1, rn_1]; omega)) only [rs_ne, rn_ne])
    | exact Kp.rf
set_option maxRecDepth 100000 in
set_option maxHeartbeats 4000000 in
theorem pc_settle {E : ah_E} {nx : Nat} {h : ah_H} (F : FrC E nx h) (hn : h.1 = nx + 76)  : ∃ h2, fX9_settle E (some nx)  h = some (0, h2) ∧ Kp nx h h2 := by
  obtain ⟨c0, c1, c2, c3, c4, c5, c6, c7, c8, c9, c10, c11, c12, c13, c14, c15, cE, cN, hl, hl2⟩ := F
  have hE0 : ∀ k, (E.1 = nx + k) = False := fun k => eq_false (by omega)
  have hE1 : (E.1 = nx) = False := eq_false (by omega)
  have hE2 : ∀ k, (E.2.1 = nx + k) = False := fun k => eq_false (by omega)
  have hE3 : (E.2.1 = nx) = False := eq_false (by omega)
  have hE4 : ∀ k, (nx + k = E.1) = False := fun k => eq_false (by omega)
  have hE5 : (nx = E.1) = False := eq_false (by omega)
  have hE6 : ∀ k, (nx + k = E.2.1) = False := fun k => eq_false (by omega)
  have hE7 : (nx = E.2.1) = False := eq_false (by omega)
  refine ⟨_, by simp [↓rb_bind, ↓rb_ob2, rb_zb, rs_1, rs_at, rn_1, rn_at, rd_i_of, rd_i_o, rd_j_of, rd_j_o, rd_r_of, rd_r_o, rd_p_of, rd_p_o, rd_c_of, rd_c_o, rd_k_of, rd_k_n, rd_b_of, rd_b_o, rd_b_n, rd_a_of, rd_a_o, rv_i_i, rv_j_j, rv_r_r, rv_r_n, va_rf, hp_len, hp_ldi, hp_ldb, hp_ldl, hp_ldq, hp_sti, hp_stb, hp_stl, hp_stq, hp_na, hp_new, hp_isq, hp_cpq, hp_cpb, zf, zd, upd_at, updL_at, up_at, nar_0, nar_1, i8_0, i8_1, bJ15_checkIndex_7cf53_0, bJ3_checkIndex_8e157_0, bJ3_checkIndex_8e157_9, bJ7_copyOf_1904c_0, bJ7_copyOf_6403c_0, bJ7_copyOf_9075b_0, bJ8_hugeLength_7cf53_0, bJ8_newLength_cabcc_0, bJ8_newLength_cabcc_21, bJ9_max_7cf53_0, bJ9_max_7cf53_10, bJ9_max_f86c9_0, bJ9_max_f86c9_11, bJ9_min_7cf53_0, bJ9_min_7cf53_10, bJ9_min_f86c9_0, bJ9_min_f86c9_11, bJx4a65c_add_72be8_0, bJx4a65c_add_72be8_11, bJx4a65c_add_7a177_0, bJx4a65c_add_7a177_38, bJx4a65c_add_9ea2d_0, bJx4a65c_clear_da8c8_0, bJx4a65c_elementData_915e3_0, bJx4a65c_fastRemove_b59b0_0, bJx4a65c_fastRemove_b59b0_34, bJx4a65c_get_915e3_0, bJx4a65c_grow_92f84_0, bJx4a65c_grow_92f84_20, bJx4a65c_grow_d5877_0, bJx4a65c_init_da8c8_0, bJx4a65c_isEmpty_aae02_0, bJx4a65c_isEmpty_aae02_12, bJx4a65c_rangeCheckForAdd_d00df_0, bJx4a65c_rangeCheckForAdd_d00df_12, bJx4a65c_remove_915e3_0, bJx4a65c_set_bcc79_0, bJx4a65c_size_8abf5_0, bJxa1e45_init_da8c8_0, bJxc12de_init_da8c8_0, bX1_act_0, bX1_act_127, bX1_act_25, bX1_act_67, bX1_firstNotBelow_0, bX1_firstNotBelow_67, bX1_firstNotBelow_73, bX1_hasAt_0, bX1_hasAt_38, bX1_hasAt_39, bX1_init_0, bX1_isChangedBy_0, bX1_isChangedBy_60, bX1_removeFrom_0, bX1_removeFrom_64, bX2_init_0, bX4_changes_0, bX4_changes_16, bX4_changes_30, bX4_changes_39, bX4_changes_55, bX4_changes_85, bX4_changes_92, bX4_init_0, bX4_meets_0, bX4_meets_22, bX4_meets_23, bX4_rowAfter_0, bX4_rowAfter_16, bX4_rowAfter_30, bX5_copyInto_0, bX5_copyInto_103, bX5_copyInto_56, bX5_fullestKid_0, bX5_fullestKid_53, bX5_init_0, bX5_isChangedBy_0, bX5_isChangedBy_35, bX5_isLeaf_0, bX5_isTooBig_0, bX5_isTooBig_17, bX5_isTooBig_25, bX5_lastKeyOf_0, bX5_lastKeyOf_37, bX5_lettersFrom_0, bX5_lettersFrom_52, bX5_moveLetters_0, bX5_moveLetters_69, bX5_moveLetters_77, bX5_opened_0, bX5_partKid_0, bX5_partKid_32, bX5_partKid_58, bX5_partOf_0, bX5_partOf_58, bX5_partOf_59, bX5_takeInParts_0, bX5_takeInParts_85, bX5_takeIn_0, bX5_takeIn_63, bX5_width_0, bX8_give_0, bX8_give_63, bX8_lettersIn_0, bX8_lettersIn_53, bX8_partRoot_0, bX8_partRoot_64, bX8_settleAll_0, bX8_settleAll_61, bX8_settleBelow_0, bX8_settleBelow_152, bX8_settleBelow_165, bX8_settleBelow_171, bX8_settleBelow_59, bX8_sinkPage_0, bX8_sinkPage_22, bX9_settle_0, bX9_settle_19, fJ15_checkIndex_7cf53, fJ3_checkIndex_8e157, fJ7_copyOf_1904c, fJ7_copyOf_6403c, fJ7_copyOf_9075b, fJ8_hugeLength_7cf53, fJ8_newLength_cabcc, fJ9_max_7cf53, fJ9_max_f86c9, fJ9_min_7cf53, fJ9_min_f86c9, fJx4a65c_add_72be8, fJx4a65c_add_7a177, fJx4a65c_add_9ea2d, fJx4a65c_clear_da8c8, fJx4a65c_elementData_915e3, fJx4a65c_fastRemove_b59b0, fJx4a65c_get_915e3, fJx4a65c_grow_92f84, fJx4a65c_grow_d5877, fJx4a65c_init_da8c8, fJx4a65c_isEmpty_aae02, fJx4a65c_rangeCheckForAdd_d00df, fJx4a65c_remove_915e3, fJx4a65c_set_bcc79, fJx4a65c_size_8abf5, fJxa1e45_init_da8c8, fJxc12de_init_da8c8, fX1_act, fX1_firstNotBelow, fX1_hasAt, fX1_init, fX1_isChangedBy, fX1_removeFrom, fX2_init, fX4_changes, fX4_init, fX4_meets, fX4_rowAfter, fX5_copyInto, fX5_fullestKid, fX5_init, fX5_isChangedBy, fX5_isLeaf, fX5_isTooBig, fX5_lastKeyOf, fX5_lettersFrom, fX5_moveLetters, fX5_opened, fX5_partKid, fX5_partOf, fX5_takeIn, fX5_takeInParts, fX5_width, fX8_partRoot, fX8_settleAll, fX8_sinkPage, fX9_settle, gX8_give, gX8_lettersIn, gX8_settleBelow, u_bJx4a65c_clear_da8c8_27, u_bX1_firstNotBelow_14, u_bX1_removeFrom_12, u_bX4_changes_58, u_bX4_rowAfter_59, u_bX5_copyInto_3, u_bX5_copyInto_59, u_bX5_fullestKid_6, u_bX5_isChangedBy_2, u_bX5_lettersFrom_6, u_bX5_moveLetters_12, u_bX5_moveLetters_93, u_bX5_opened_41, u_bX5_partKid_90, u_bX5_takeInParts_2, u_bX5_takeIn_2, u_bX8_give_32, u_bX8_lettersIn_10, u_bX8_partRoot_2, u_bX8_settleAll_6, u_bX8_settleBelow_21, u_bX8_settleBelow_65, u_fX8_give, u_fX8_lettersIn, u_fX8_settleBelow, lc_fill, nf_0, nf_3, nf_4, nf_5, nf_6, nf_2, nf_7, q_feed, q_cut, q_swap, q_sweep, q_page, q_fall, q_disk, q_bend, q_writes, q_number, c0, c1, c2, c3, c4, c5, c6, c7, c8, c9, c10, c11, c12, c13, c14, c15, cE, cN, hn, hE0, hE1, hE2, hE3, hE4, hE5, hE6, hE7, Nat.add_assoc]; rfl, ?_⟩
  first
    | (refine ⟨?_, ?_, ?_, fun z h1 h2 => ?_⟩
       · simp only [rs_1, rn_1]; try omega
       · simp only [rs_1, rn_1]; try omega
       · simp only [rs_2, rn_2]; try omega
       · simp (disch := first | omega | (simp only [rs_1, rn_1]; omega)) only [rs_ne, rn_ne])
    | exact Kp.rf
set_option maxRecDepth 100000 in
set_option maxHeartbeats 4000000 in
theorem pc_pages {E : ah_E} {nx : Nat} {h : ah_H} (F : FrC E nx h) (hn : h.1 = nx + 76)  : ∃ h2, fX9_pages E (some nx)  h = some (1, h2) ∧ Kp nx h h2 := by
  obtain ⟨c0, c1, c2, c3, c4, c5, c6, c7, c8, c9, c10, c11, c12, c13, c14, c15, cE, cN, hl, hl2⟩ := F
  have hE0 : ∀ k, (E.1 = nx + k) = False := fun k => eq_false (by omega)
  have hE1 : (E.1 = nx) = False := eq_false (by omega)
  have hE2 : ∀ k, (E.2.1 = nx + k) = False := fun k => eq_false (by omega)
  have hE3 : (E.2.1 = nx) = False := eq_false (by omega)
  have hE4 : ∀ k, (nx + k = E.1) = False := fun k => eq_false (by omega)
  have hE5 : (nx = E.1) = False := eq_false (by omega)
  have hE6 : ∀ k, (nx + k = E.2.1) = False := fun k => eq_false (by omega)
  have hE7 : (nx = E.2.1) = False := eq_false (by omega)
  refine ⟨_, by simp [↓rb_bind, ↓rb_ob2, rb_zb, rs_1, rs_at, rn_1, rn_at, rd_i_of, rd_i_o, rd_j_of, rd_j_o, rd_r_of, rd_r_o, rd_p_of, rd_p_o, rd_c_of, rd_c_o, rd_k_of, rd_k_n, rd_b_of, rd_b_o, rd_b_n, rd_a_of, rd_a_o, rv_i_i, rv_j_j, rv_r_r, rv_r_n, va_rf, hp_len, hp_ldi, hp_ldb, hp_ldl, hp_ldq, hp_sti, hp_stb, hp_stl, hp_stq, hp_na, hp_new, hp_isq, hp_cpq, hp_cpb, zf, zd, upd_at, updL_at, up_at, nar_0, nar_1, i8_0, i8_1, bJ15_checkIndex_7cf53_0, bJ3_checkIndex_8e157_0, bJ3_checkIndex_8e157_9, bJx4a65c_elementData_915e3_0, bJx4a65c_get_915e3_0, bJx4a65c_size_8abf5_0, bX8_pagesIn_0, bX8_pagesIn_47, bX9_pages_0, bX9_pages_23, fJ15_checkIndex_7cf53, fJ3_checkIndex_8e157, fJx4a65c_elementData_915e3, fJx4a65c_get_915e3, fJx4a65c_size_8abf5, fX9_pages, gX8_pagesIn, u_bX8_pagesIn_4, u_fX8_pagesIn, lc_fill, nf_0, nf_3, nf_4, nf_5, nf_6, nf_2, nf_7, q_feed, q_cut, q_swap, q_sweep, q_page, q_fall, q_disk, q_bend, q_writes, q_number, c0, c1, c2, c3, c4, c5, c6, c7, c8, c9, c10, c11, c12, c13, c14, c15, cE, cN, hn, hE0, hE1, hE2, hE3, hE4, hE5, hE6, hE7, Nat.add_assoc]; rfl, ?_⟩
  first
    | (refine ⟨?_, ?_, ?_, fun z h1 h2 => ?_⟩
       · simp only [rs_1, rn_1]; try omega
       · simp only [rs_1, rn_1]; try omega
       · simp only [rs_2, rn_2]; try omega
       · simp (disch := first | omega | (simp only [rs_1, rn_1]; omega)) only [rs_ne, rn_ne])
    | exact Kp.rf
set_option maxRecDepth 100000 in
set_option maxHeartbeats 4000000 in
theorem pc_height {E : ah_E} {nx : Nat} {h : ah_H} (F : FrC E nx h) (hn : h.1 = nx + 76)  : ∃ h2, fX9_height E (some nx)  h = some (1, h2) ∧ Kp nx h h2 := by
  obtain ⟨c0, c1, c2, c3, c4, c5, c6, c7, c8, c9, c10, c11, c12, c13, c14, c15, cE, cN, hl, hl2⟩ := F
  have hE0 : ∀ k, (E.1 = nx + k) = False := fun k => eq_false (by omega)
  have hE1 : (E.1 = nx) = False := eq_false (by omega)
  have hE2 : ∀ k, (E.2.1 = nx + k) = False := fun k => eq_false (by omega)
  have hE3 : (E.2.1 = nx) = False := eq_false (by omega)
  have hE4 : ∀ k, (nx + k = E.1) = False := fun k => eq_false (by omega)
  have hE5 : (nx = E.1) = False := eq_false (by omega)
  have hE6 : ∀ k, (nx + k = E.2.1) = False := fun k => eq_false (by omega)
  have hE7 : (nx = E.2.1) = False := eq_false (by omega)
  refine ⟨_, by simp [↓rb_bind, ↓rb_ob2, rb_zb, rs_1, rs_at, rn_1, rn_at, rd_i_of, rd_i_o, rd_j_of, rd_j_o, rd_r_of, rd_r_o, rd_p_of, rd_p_o, rd_c_of, rd_c_o, rd_k_of, rd_k_n, rd_b_of, rd_b_o, rd_b_n, rd_a_of, rd_a_o, rv_i_i, rv_j_j, rv_r_r, rv_r_n, va_rf, hp_len, hp_ldi, hp_ldb, hp_ldl, hp_ldq, hp_sti, hp_stb, hp_stl, hp_stq, hp_na, hp_new, hp_isq, hp_cpq, hp_cpb, zf, zd, upd_at, updL_at, up_at, nar_0, nar_1, i8_0, i8_1, bJ15_checkIndex_7cf53_0, bJ3_checkIndex_8e157_0, bJ3_checkIndex_8e157_9, bJx4a65c_elementData_915e3_0, bJx4a65c_get_915e3_0, bJx4a65c_isEmpty_aae02_0, bJx4a65c_isEmpty_aae02_12, bX5_isLeaf_0, bX8_levels_0, bX8_levels_43, bX9_height_0, bX9_height_19, fJ15_checkIndex_7cf53, fJ3_checkIndex_8e157, fJx4a65c_elementData_915e3, fJx4a65c_get_915e3, fJx4a65c_isEmpty_aae02, fX5_isLeaf, fX8_levels, fX9_height, u_bX8_levels_9, lc_fill, nf_0, nf_3, nf_4, nf_5, nf_6, nf_2, nf_7, q_feed, q_cut, q_swap, q_sweep, q_page, q_fall, q_disk, q_bend, q_writes, q_number, c0, c1, c2, c3, c4, c5, c6, c7, c8, c9, c10, c11, c12, c13, c14, c15, cE, cN, hn, hE0, hE1, hE2, hE3, hE4, hE5, hE6, hE7, Nat.add_assoc]; rfl, ?_⟩
  first
    | (refine ⟨?_, ?_, ?_, fun z h1 h2 => ?_⟩
       · simp only [rs_1, rn_1]; try omega
       · simp only [rs_1, rn_1]; try omega
       · simp only [rs_2, rn_2]; try omega
       · simp (disch := first | omega | (simp only [rs_1, rn_1]; omega)) only [rs_ne, rn_ne])
    | exact Kp.rf
set_option maxRecDepth 100000 in
set_option maxHeartbeats 4000000 in
theorem pc_letters {E : ah_E} {nx : Nat} {h : ah_H} (F : FrC E nx h) (hn : h.1 = nx + 76)  : ∃ h2, fX9_letters E (some nx)  h = some (0, h2) ∧ Kp nx h h2 := by
  obtain ⟨c0, c1, c2, c3, c4, c5, c6, c7, c8, c9, c10, c11, c12, c13, c14, c15, cE, cN, hl, hl2⟩ := F
  have hE0 : ∀ k, (E.1 = nx + k) = False := fun k => eq_false (by omega)
  have hE1 : (E.1 = nx) = False := eq_false (by omega)
  have hE2 : ∀ k, (E.2.1 = nx + k) = False := fun k => eq_false (by omega)
  have hE3 : (E.2.1 = nx) = False := eq_false (by omega)
  have hE4 : ∀ k, (nx + k = E.1) = False := fun k => eq_false (by omega)
  have hE5 : (nx = E.1) = False := eq_false (by omega)
  have hE6 : ∀ k, (nx + k = E.2.1) = False := fun k => eq_false (by omega)
  have hE7 : (nx = E.2.1) = False := eq_false (by omega)
  refine ⟨_, by simp [↓rb_bind, ↓rb_ob2, rb_zb, rs_1, rs_at, rn_1, rn_at, rd_i_of, rd_i_o, rd_j_of, rd_j_o, rd_r_of, rd_r_o, rd_p_of, rd_p_o, rd_c_of, rd_c_o, rd_k_of, rd_k_n, rd_b_of, rd_b_o, rd_b_n, rd_a_of, rd_a_o, rv_i_i, rv_j_j, rv_r_r, rv_r_n, va_rf, hp_len, hp_ldi, hp_ldb, hp_ldl, hp_ldq, hp_sti, hp_stb, hp_stl, hp_stq, hp_na, hp_new, hp_isq, hp_cpq, hp_cpb, zf, zd, upd_at, updL_at, up_at, nar_0, nar_1, i8_0, i8_1, bJ15_checkIndex_7cf53_0, bJ3_checkIndex_8e157_0, bJ3_checkIndex_8e157_9, bJx4a65c_elementData_915e3_0, bJx4a65c_get_915e3_0, bJx4a65c_size_8abf5_0, bX8_lettersIn_0, bX8_lettersIn_53, bX9_letters_0, bX9_letters_23, fJ15_checkIndex_7cf53, fJ3_checkIndex_8e157, fJx4a65c_elementData_915e3, fJx4a65c_get_915e3, fJx4a65c_size_8abf5, fX9_letters, gX8_lettersIn, u_bX8_lettersIn_10, u_fX8_lettersIn, lc_fill, nf_0, nf_3, nf_4, nf_5, nf_6, nf_2, nf_7, q_feed, q_cut, q_swap, q_sweep, q_page, q_fall, q_disk, q_bend, q_writes, q_number, c0, c1, c2, c3, c4, c5, c6, c7, c8, c9, c10, c11, c12, c13, c14, c15, cE, cN, hn, hE0, hE1, hE2, hE3, hE4, hE5, hE6, hE7, Nat.add_assoc]; rfl, ?_⟩
  first
    | (refine ⟨?_, ?_, ?_, fun z h1 h2 => ?_⟩
       · simp only [rs_1, rn_1]; try omega
       · simp only [rs_1, rn_1]; try omega
       · simp only [rs_2, rn_2]; try omega
       · simp (disch := first | omega | (simp only [rs_1, rn_1]; omega)) only [rs_ne, rn_ne])
    | exact Kp.rf
set_option maxRecDepth 100000 in
set_option maxHeartbeats 4000000 in
theorem pc_page {E : ah_E} {nx : Nat} {h : ah_H} (F : FrC E nx h) (hn : h.1 = nx + 76) (i w : Int32) : ∃ h2, fX9_page E (some nx) i w h = some (q_page i w, h2) ∧ Kp nx h h2 := by
  obtain ⟨c0, c1, c2, c3, c4, c5, c6, c7, c8, c9, c10, c11, c12, c13, c14, c15, cE, cN, hl, hl2⟩ := F
  have hE0 : ∀ k, (E.1 = nx + k) = False := fun k => eq_false (by omega)
  have hE1 : (E.1 = nx) = False := eq_false (by omega)
  have hE2 : ∀ k, (E.2.1 = nx + k) = False := fun k => eq_false (by omega)
  have hE3 : (E.2.1 = nx) = False := eq_false (by omega)
  have hE4 : ∀ k, (nx + k = E.1) = False := fun k => eq_false (by omega)
  have hE5 : (nx = E.1) = False := eq_false (by omega)
  have hE6 : ∀ k, (nx + k = E.2.1) = False := fun k => eq_false (by omega)
  have hE7 : (nx = E.2.1) = False := eq_false (by omega)
  by_cases e0 : i = 0
  · subst e0
    by_cases e1 : w = 0
    · subst e1
      refine ⟨_, by simp [↓rb_bind, ↓rb_ob2, rb_zb, rs_1, rs_at, rn_1, rn_at, rd_i_of, rd_i_o, rd_j_of, rd_j_o, rd_r_of, rd_r_o, rd_p_of, rd_p_o, rd_c_of, rd_c_o, rd_k_of, rd_k_n, rd_b_of, rd_b_o, rd_b_n, rd_a_of, rd_a_o, rv_i_i, rv_j_j, rv_r_r, rv_r_n, va_rf, hp_len, hp_ldi, hp_ldb, hp_ldl, hp_ldq, hp_sti, hp_stb, hp_stl, hp_stq, hp_na, hp_new, hp_isq, hp_cpq, hp_cpb, zf, zd, upd_at, updL_at, up_at, nar_0, nar_1, i8_0, i8_1, bJ15_checkIndex_7cf53_0, bJ3_checkIndex_8e157_0, bJ3_checkIndex_8e157_9, bJx4a65c_elementData_915e3_0, bJx4a65c_get_915e3_0, bJx4a65c_isEmpty_aae02_0, bJx4a65c_isEmpty_aae02_12, bJx4a65c_size_8abf5_0, bX5_isLeaf_0, bX5_width_0, bX8_pageAt_0, bX8_pageAt_86, bX8_pagesIn_0, bX8_pagesIn_47, bX9_page_0, bX9_page_72, fJ15_checkIndex_7cf53, fJ3_checkIndex_8e157, fJx4a65c_elementData_915e3, fJx4a65c_get_915e3, fJx4a65c_isEmpty_aae02, fJx4a65c_size_8abf5, fX5_isLeaf, fX5_width, fX9_page, gX8_pageAt, gX8_pagesIn, u_bX8_pageAt_11, u_bX8_pagesIn_4, u_fX8_pageAt, u_fX8_pagesIn, lc_fill, nf_0, nf_3, nf_4, nf_5, nf_6, nf_2, nf_7, q_feed, q_cut, q_swap, q_sweep, q_page, q_fall, q_disk, q_bend, q_writes, q_number, c0, c1, c2, c3, c4, c5, c6, c7, c8, c9, c10, c11, c12, c13, c14, c15, cE, cN, hn, hE0, hE1, hE2, hE3, hE4, hE5, hE6, hE7, Nat.add_assoc]; rfl, ?_⟩
      first
        | (refine ⟨?_, ?_, ?_, fun z h1 h2 => ?_⟩
           · simp only [rs_1, rn_1]; try omega
           · simp only [rs_1, rn_1]; try omega
           · simp only [rs_2, rn_2]; try omega
           · simp (disch := first | omega | (simp only [rs_1, rn_1]; omega)) only [rs_ne, rn_ne])
        | exact Kp.rf
    · by_cases e2 : w = 1
      · subst e2
        refine ⟨_, by simp [↓rb_bind, ↓rb_ob2, rb_zb, rs_1, rs_at, rn_1, rn_at, rd_i_of, rd_i_o, rd_j_of, rd_j_o, rd_r_of, rd_r_o, rd_p_of, rd_p_o, rd_c_of, rd_c_o, rd_k_of, rd_k_n, rd_b_of, rd_b_o, rd_b_n, rd_a_of, rd_a_o, rv_i_i, rv_j_j, rv_r_r, rv_r_n, va_rf, hp_len, hp_ldi, hp_ldb, hp_ldl, hp_ldq, hp_sti, hp_stb, hp_stl, hp_stq, hp_na, hp_new, hp_isq, hp_cpq, hp_cpb, zf, zd, upd_at, updL_at, up_at, nar_0, nar_1, i8_0, i8_1, bJ15_checkIndex_7cf53_0, bJ3_checkIndex_8e157_0, bJ3_checkIndex_8e157_9, bJx4a65c_elementData_915e3_0, bJx4a65c_get_915e3_0, bJx4a65c_isEmpty_aae02_0, bJx4a65c_isEmpty_aae02_12, bJx4a65c_size_8abf5_0, bX5_isLeaf_0, bX5_width_0, bX8_pageAt_0, bX8_pageAt_86, bX8_pagesIn_0, bX8_pagesIn_47, bX9_page_0, bX9_page_72, fJ15_checkIndex_7cf53, fJ3_checkIndex_8e157, fJx4a65c_elementData_915e3, fJx4a65c_get_915e3, fJx4a65c_isEmpty_aae02, fJx4a65c_size_8abf5, fX5_isLeaf, fX5_width, fX9_page, gX8_pageAt, gX8_pagesIn, u_bX8_pageAt_11, u_bX8_pagesIn_4, u_fX8_pageAt, u_fX8_pagesIn, lc_fill, nf_0, nf_3, nf_4, nf_5, nf_6, nf_2, nf_7, q_feed, q_cut, q_swap, q_sweep, q_page, q_fall, q_disk, q_bend, q_writes, q_number, c0, c1, c2, c3, c4, c5, c6, c7, c8, c9, c10, c11, c12, c13, c14, c15, cE, cN, hn, hE0, hE1, hE2, hE3, hE4, hE5, hE6, hE7, Nat.add_assoc]; rfl, ?_⟩
        first
          | (refine ⟨?_, ?_, ?_, fun z h1 h2 => ?_⟩
             · simp only [rs_1, rn_1]; try omega
             · simp only [rs_1, rn_1]; try omega
             · simp only [rs_2, rn_2]; try omega
             · simp (disch := first | omega | (simp only [rs_1, rn_1]; omega)) only [rs_ne, rn_ne])
          | exact Kp.rf
      · by_cases e3 : w = 2
        · subst e3
          refine ⟨_, by simp [↓rb_bind, ↓rb_ob2, rb_zb, rs_1, rs_at, rn_1, rn_at, rd_i_of, rd_i_o, rd_j_of, rd_j_o, rd_r_of, rd_r_o, rd_p_of, rd_p_o, rd_c_of, rd_c_o, rd_k_of, rd_k_n, rd_b_of, rd_b_o, rd_b_n, rd_a_of, rd_a_o, rv_i_i, rv_j_j, rv_r_r, rv_r_n, va_rf, hp_len, hp_ldi, hp_ldb, hp_ldl, hp_ldq, hp_sti, hp_stb, hp_stl, hp_stq, hp_na, hp_new, hp_isq, hp_cpq, hp_cpb, zf, zd, upd_at, updL_at, up_at, nar_0, nar_1, i8_0, i8_1, bJ15_checkIndex_7cf53_0, bJ3_checkIndex_8e157_0, bJ3_checkIndex_8e157_9, bJx4a65c_elementData_915e3_0, bJx4a65c_get_915e3_0, bJx4a65c_isEmpty_aae02_0, bJx4a65c_isEmpty_aae02_12, bJx4a65c_size_8abf5_0, bX5_isLeaf_0, bX5_width_0, bX8_pageAt_0, bX8_pageAt_86, bX8_pagesIn_0, bX8_pagesIn_47, bX9_page_0, bX9_page_72, fJ15_checkIndex_7cf53, fJ3_checkIndex_8e157, fJx4a65c_elementData_915e3, fJx4a65c_get_915e3, fJx4a65c_isEmpty_aae02, fJx4a65c_size_8abf5, fX5_isLeaf, fX5_width, fX9_page, gX8_pageAt, gX8_pagesIn, u_bX8_pageAt_11, u_bX8_pagesIn_4, u_fX8_pageAt, u_fX8_pagesIn, lc_fill, nf_0, nf_3, nf_4, nf_5, nf_6, nf_2, nf_7, q_feed, q_cut, q_swap, q_sweep, q_page, q_fall, q_disk, q_bend, q_writes, q_number, c0, c1, c2, c3, c4, c5, c6, c7, c8, c9, c10, c11, c12, c13, c14, c15, cE, cN, hn, hE0, hE1, hE2, hE3, hE4, hE5, hE6, hE7, Nat.add_assoc]; rfl, ?_⟩
          first
            | (refine ⟨?_, ?_, ?_, fun z h1 h2 => ?_⟩
               · simp only [rs_1, rn_1]; try omega
               · simp only [rs_1, rn_1]; try omega
               · simp only [rs_2, rn_2]; try omega
               · simp (disch := first | omega | (simp only [rs_1, rn_1]; omega)) only [rs_ne, rn_ne])
            | exact Kp.rf
        · by_cases e4 : w = 3
          · subst e4
            refine ⟨_, by simp [↓rb_bind, ↓rb_ob2, rb_zb, rs_1, rs_at, rn_1, rn_at, rd_i_of, rd_i_o, rd_j_of, rd_j_o, rd_r_of, rd_r_o, rd_p_of, rd_p_o, rd_c_of, rd_c_o, rd_k_of, rd_k_n, rd_b_of, rd_b_o, rd_b_n, rd_a_of, rd_a_o, rv_i_i, rv_j_j, rv_r_r, rv_r_n, va_rf, hp_len, hp_ldi, hp_ldb, hp_ldl, hp_ldq, hp_sti, hp_stb, hp_stl, hp_stq, hp_na, hp_new, hp_isq, hp_cpq, hp_cpb, zf, zd, upd_at, updL_at, up_at, nar_0, nar_1, i8_0, i8_1, bJ15_checkIndex_7cf53_0, bJ3_checkIndex_8e157_0, bJ3_checkIndex_8e157_9, bJx4a65c_elementData_915e3_0, bJx4a65c_get_915e3_0, bJx4a65c_isEmpty_aae02_0, bJx4a65c_isEmpty_aae02_12, bJx4a65c_size_8abf5_0, bX5_isLeaf_0, bX5_width_0, bX8_pageAt_0, bX8_pageAt_86, bX8_pagesIn_0, bX8_pagesIn_47, bX9_page_0, bX9_page_72, fJ15_checkIndex_7cf53, fJ3_checkIndex_8e157, fJx4a65c_elementData_915e3, fJx4a65c_get_915e3, fJx4a65c_isEmpty_aae02, fJx4a65c_size_8abf5, fX5_isLeaf, fX5_width, fX9_page, gX8_pageAt, gX8_pagesIn, u_bX8_pageAt_11, u_bX8_pagesIn_4, u_fX8_pageAt, u_fX8_pagesIn, lc_fill, nf_0, nf_3, nf_4, nf_5, nf_6, nf_2, nf_7, q_feed, q_cut, q_swap, q_sweep, q_page, q_fall, q_disk, q_bend, q_writes, q_number, c0, c1, c2, c3, c4, c5, c6, c7, c8, c9, c10, c11, c12, c13, c14, c15, cE, cN, hn, hE0, hE1, hE2, hE3, hE4, hE5, hE6, hE7, Nat.add_assoc]; rfl, ?_⟩
            first
              | (refine ⟨?_, ?_, ?_, fun z h1 h2 => ?_⟩
                 · simp only [rs_1, rn_1]; try omega
                 · simp only [rs_1, rn_1]; try omega
                 · simp only [rs_2, rn_2]; try omega
                 · simp (disch := first | omega | (simp only [rs_1, rn_1]; omega)) only [rs_ne, rn_ne])
              | exact Kp.rf
          · refine ⟨_, by simp [↓rb_bind, ↓rb_ob2, rb_zb, rs_1, rs_at, rn_1, rn_at, rd_i_of, rd_i_o, rd_j_of, rd_j_o, rd_r_of, rd_r_o, rd_p_of, rd_p_o, rd_c_of, rd_c_o, rd_k_of, rd_k_n, rd_b_of, rd_b_o, rd_b_n, rd_a_of, rd_a_o, rv_i_i, rv_j_j, rv_r_r, rv_r_n, va_rf, hp_len, hp_ldi, hp_ldb, hp_ldl, hp_ldq, hp_sti, hp_stb, hp_stl, hp_stq, hp_na, hp_new, hp_isq, hp_cpq, hp_cpb, zf, zd, upd_at, updL_at, up_at, nar_0, nar_1, i8_0, i8_1, bJ15_checkIndex_7cf53_0, bJ3_checkIndex_8e157_0, bJ3_checkIndex_8e157_9, bJx4a65c_elementData_915e3_0, bJx4a65c_get_915e3_0, bJx4a65c_isEmpty_aae02_0, bJx4a65c_isEmpty_aae02_12, bJx4a65c_size_8abf5_0, bX5_isLeaf_0, bX5_width_0, bX8_pageAt_0, bX8_pageAt_86, bX8_pagesIn_0, bX8_pagesIn_47, bX9_page_0, bX9_page_72, fJ15_checkIndex_7cf53, fJ3_checkIndex_8e157, fJx4a65c_elementData_915e3, fJx4a65c_get_915e3, fJx4a65c_isEmpty_aae02, fJx4a65c_size_8abf5, fX5_isLeaf, fX5_width, fX9_page, gX8_pageAt, gX8_pagesIn, u_bX8_pageAt_11, u_bX8_pagesIn_4, u_fX8_pageAt, u_fX8_pagesIn, lc_fill, nf_0, nf_3, nf_4, nf_5, nf_6, nf_2, nf_7, q_feed, q_cut, q_swap, q_sweep, q_page, q_fall, q_disk, q_bend, q_writes, q_number, c0, c1, c2, c3, c4, c5, c6, c7, c8, c9, c10, c11, c12, c13, c14, c15, cE, cN, hn, hE0, hE1, hE2, hE3, hE4, hE5, hE6, hE7, Nat.add_assoc, e1, e2, e3, e4]; rfl, ?_⟩
            first
              | (refine ⟨?_, ?_, ?_, fun z h1 h2 => ?_⟩
                 · simp only [rs_1, rn_1]; try omega
                 · simp only [rs_1, rn_1]; try omega
                 · simp only [rs_2, rn_2]; try omega
                 · simp (disch := first | omega | (simp only [rs_1, rn_1]; omega)) only [rs_ne, rn_ne])
              | exact Kp.rf
  · by_cases e1 : i < 0
    · refine ⟨_, by simp [↓rb_bind, ↓rb_ob2, rb_zb, rs_1, rs_at, rn_1, rn_at, rd_i_of, rd_i_o, rd_j_of, rd_j_o, rd_r_of, rd_r_o, rd_p_of, rd_p_o, rd_c_of, rd_c_o, rd_k_of, rd_k_n, rd_b_of, rd_b_o, rd_b_n, rd_a_of, rd_a_o, rv_i_i, rv_j_j, rv_r_r, rv_r_n, va_rf, hp_len, hp_ldi, hp_ldb, hp_ldl, hp_ldq, hp_sti, hp_stb, hp_stl, hp_stq, hp_na, hp_new, hp_isq, hp_cpq, hp_cpb, zf, zd, upd_at, updL_at, up_at, nar_0, nar_1, i8_0, i8_1, bJ15_checkIndex_7cf53_0, bJ3_checkIndex_8e157_0, bJ3_checkIndex_8e157_9, bJx4a65c_elementData_915e3_0, bJx4a65c_get_915e3_0, bJx4a65c_isEmpty_aae02_0, bJx4a65c_isEmpty_aae02_12, bJx4a65c_size_8abf5_0, bX5_isLeaf_0, bX5_width_0, bX8_pageAt_0, bX8_pageAt_86, bX8_pagesIn_0, bX8_pagesIn_47, bX9_page_0, bX9_page_72, fJ15_checkIndex_7cf53, fJ3_checkIndex_8e157, fJx4a65c_elementData_915e3, fJx4a65c_get_915e3, fJx4a65c_isEmpty_aae02, fJx4a65c_size_8abf5, fX5_isLeaf, fX5_width, fX9_page, gX8_pageAt, gX8_pagesIn, u_bX8_pageAt_11, u_bX8_pagesIn_4, u_fX8_pageAt, u_fX8_pagesIn, lc_fill, nf_0, nf_3, nf_4, nf_5, nf_6, nf_2, nf_7, q_feed, q_cut, q_swap, q_sweep, q_page, q_fall, q_disk, q_bend, q_writes, q_number, c0, c1, c2, c3, c4, c5, c6, c7, c8, c9, c10, c11, c12, c13, c14, c15, cE, cN, hn, hE0, hE1, hE2, hE3, hE4, hE5, hE6, hE7, Nat.add_assoc, e0, e1, Int32.le_of_lt e1]; rfl, ?_⟩
      first
        | (refine ⟨?_, ?_, ?_, fun z h1 h2 => ?_⟩
           · simp only [rs_1, rn_1]; try omega
           · simp only [rs_1, rn_1]; try omega
           · simp only [rs_2, rn_2]; try omega
           · simp (disch := first | omega | (simp only [rs_1, rn_1]; omega)) only [rs_ne, rn_ne])
        | exact Kp.rf
    · have e2 : 0 < i := i32_pos e0 e1
      refine ⟨_, by simp [↓rb_bind, ↓rb_ob2, rb_zb, rs_1, rs_at, rn_1, rn_at, rd_i_of, rd_i_o, rd_j_of, rd_j_o, rd_r_of, rd_r_o, rd_p_of, rd_p_o, rd_c_of, rd_c_o, rd_k_of, rd_k_n, rd_b_of, rd_b_o, rd_b_n, rd_a_of, rd_a_o, rv_i_i, rv_j_j, rv_r_r, rv_r_n, va_rf, hp_len, hp_ldi, hp_ldb, hp_ldl, hp_ldq, hp_sti, hp_stb, hp_stl, hp_stq, hp_na, hp_new, hp_isq, hp_cpq, hp_cpb, zf, zd, upd_at, updL_at, up_at, nar_0, nar_1, i8_0, i8_1, bJ15_checkIndex_7cf53_0, bJ3_checkIndex_8e157_0, bJ3_checkIndex_8e157_9, bJx4a65c_elementData_915e3_0, bJx4a65c_get_915e3_0, bJx4a65c_isEmpty_aae02_0, bJx4a65c_isEmpty_aae02_12, bJx4a65c_size_8abf5_0, bX5_isLeaf_0, bX5_width_0, bX8_pageAt_0, bX8_pageAt_86, bX8_pagesIn_0, bX8_pagesIn_47, bX9_page_0, bX9_page_72, fJ15_checkIndex_7cf53, fJ3_checkIndex_8e157, fJx4a65c_elementData_915e3, fJx4a65c_get_915e3, fJx4a65c_isEmpty_aae02, fJx4a65c_size_8abf5, fX5_isLeaf, fX5_width, fX9_page, gX8_pageAt, gX8_pagesIn, u_bX8_pageAt_11, u_bX8_pagesIn_4, u_fX8_pageAt, u_fX8_pagesIn, lc_fill, nf_0, nf_3, nf_4, nf_5, nf_6, nf_2, nf_7, q_feed, q_cut, q_swap, q_sweep, q_page, q_fall, q_disk, q_bend, q_writes, q_number, c0, c1, c2, c3, c4, c5, c6, c7, c8, c9, c10, c11, c12, c13, c14, c15, cE, cN, hn, hE0, hE1, hE2, hE3, hE4, hE5, hE6, hE7, Nat.add_assoc, e0, e1, e2, Int32.not_le.mpr e2, i32_ge1 e2]; rfl, ?_⟩
      first
        | (refine ⟨?_, ?_, ?_, fun z h1 h2 => ?_⟩
           · simp only [rs_1, rn_1]; try omega
           · simp only [rs_1, rn_1]; try omega
           · simp only [rs_2, rn_2]; try omega
           · simp (disch := first | omega | (simp only [rs_1, rn_1]; omega)) only [rs_ne, rn_ne])
        | exact Kp.rf
set_option maxRecDepth 100000 in
set_option maxHeartbeats 4000000 in
theorem pc_border {E : ah_E} {nx : Nat} {h : ah_H} (F : FrC E nx h) (hn : h.1 = nx + 76) (i k : Int32) : ∃ h2, fX9_border E (some nx) i k h = some (-1, h2) ∧ Kp nx h h2 := by
  obtain ⟨c0, c1, c2, c3, c4, c5, c6, c7, c8, c9, c10, c11, c12, c13, c14, c15, cE, cN, hl, hl2⟩ := F
  have hE0 : ∀ k, (E.1 = nx + k) = False := fun k => eq_false (by omega)
  have hE1 : (E.1 = nx) = False := eq_false (by omega)
  have hE2 : ∀ k, (E.2.1 = nx + k) = False := fun k => eq_false (by omega)
  have hE3 : (E.2.1 = nx) = False := eq_false (by omega)
  have hE4 : ∀ k, (nx + k = E.1) = False := fun k => eq_false (by omega)
  have hE5 : (nx = E.1) = False := eq_false (by omega)
  have hE6 : ∀ k, (nx + k = E.2.1) = False := fun k => eq_false (by omega)
  have hE7 : (nx = E.2.1) = False := eq_false (by omega)
  by_cases e0 : i = 0
  · subst e0
    by_cases e1 : k < 1
    · refine ⟨_, by simp [↓rb_bind, ↓rb_ob2, rb_zb, rs_1, rs_at, rn_1, rn_at, rd_i_of, rd_i_o, rd_j_of, rd_j_o, rd_r_of, rd_r_o, rd_p_of, rd_p_o, rd_c_of, rd_c_o, rd_k_of, rd_k_n, rd_b_of, rd_b_o, rd_b_n, rd_a_of, rd_a_o, rv_i_i, rv_j_j, rv_r_r, rv_r_n, va_rf, hp_len, hp_ldi, hp_ldb, hp_ldl, hp_ldq, hp_sti, hp_stb, hp_stl, hp_stq, hp_na, hp_new, hp_isq, hp_cpq, hp_cpb, zf, zd, upd_at, updL_at, up_at, nar_0, nar_1, i8_0, i8_1, bJ15_checkIndex_7cf53_0, bJ3_checkIndex_8e157_0, bJ3_checkIndex_8e157_9, bJx4a65c_elementData_915e3_0, bJx4a65c_get_915e3_0, bJx4a65c_isEmpty_aae02_0, bJx4a65c_isEmpty_aae02_12, bJx4a65c_size_8abf5_0, bX5_isLeaf_0, bX8_pageAt_0, bX8_pageAt_86, bX8_pagesIn_0, bX8_pagesIn_47, bX9_border_0, bX9_border_32, bX9_border_80, fJ15_checkIndex_7cf53, fJ3_checkIndex_8e157, fJx4a65c_elementData_915e3, fJx4a65c_get_915e3, fJx4a65c_isEmpty_aae02, fJx4a65c_size_8abf5, fX5_isLeaf, fX9_border, gX8_pageAt, gX8_pagesIn, u_bX8_pageAt_11, u_bX8_pagesIn_4, u_fX8_pageAt, u_fX8_pagesIn, lc_fill, nf_0, nf_3, nf_4, nf_5, nf_6, nf_2, nf_7, q_feed, q_cut, q_swap, q_sweep, q_page, q_fall, q_disk, q_bend, q_writes, q_number, c0, c1, c2, c3, c4, c5, c6, c7, c8, c9, c10, c11, c12, c13, c14, c15, cE, cN, hn, hE0, hE1, hE2, hE3, hE4, hE5, hE6, hE7, Nat.add_assoc, e1, Int32.not_le.mpr e1]; rfl, ?_⟩
      first
        | (refine ⟨?_, ?_, ?_, fun z h1 h2 => ?_⟩
           · simp only [rs_1, rn_1]; try omega
           · simp only [rs_1, rn_1]; try omega
           · simp only [rs_2, rn_2]; try omega
           · simp (disch := first | omega | (simp only [rs_1, rn_1]; omega)) only [rs_ne, rn_ne])
        | exact Kp.rf
    · have e2 : 0 < k := i32_lt01 e1
      refine ⟨_, by simp [↓rb_bind, ↓rb_ob2, rb_zb, rs_1, rs_at, rn_1, rn_at, rd_i_of, rd_i_o, rd_j_of, rd_j_o, rd_r_of, rd_r_o, rd_p_of, rd_p_o, rd_c_of, rd_c_o, rd_k_of, rd_k_n, rd_b_of, rd_b_o, rd_b_n, rd_a_of, rd_a_o, rv_i_i, rv_j_j, rv_r_r, rv_r_n, va_rf, hp_len, hp_ldi, hp_ldb, hp_ldl, hp_ldq, hp_sti, hp_stb, hp_stl, hp_stq, hp_na, hp_new, hp_isq, hp_cpq, hp_cpb, zf, zd, upd_at, updL_at, up_at, nar_0, nar_1, i8_0, i8_1, bJ15_checkIndex_7cf53_0, bJ3_checkIndex_8e157_0, bJ3_checkIndex_8e157_9, bJx4a65c_elementData_915e3_0, bJx4a65c_get_915e3_0, bJx4a65c_isEmpty_aae02_0, bJx4a65c_isEmpty_aae02_12, bJx4a65c_size_8abf5_0, bX5_isLeaf_0, bX8_pageAt_0, bX8_pageAt_86, bX8_pagesIn_0, bX8_pagesIn_47, bX9_border_0, bX9_border_32, bX9_border_80, fJ15_checkIndex_7cf53, fJ3_checkIndex_8e157, fJx4a65c_elementData_915e3, fJx4a65c_get_915e3, fJx4a65c_isEmpty_aae02, fJx4a65c_size_8abf5, fX5_isLeaf, fX9_border, gX8_pageAt, gX8_pagesIn, u_bX8_pageAt_11, u_bX8_pagesIn_4, u_fX8_pageAt, u_fX8_pagesIn, lc_fill, nf_0, nf_3, nf_4, nf_5, nf_6, nf_2, nf_7, q_feed, q_cut, q_swap, q_sweep, q_page, q_fall, q_disk, q_bend, q_writes, q_number, c0, c1, c2, c3, c4, c5, c6, c7, c8, c9, c10, c11, c12, c13, c14, c15, cE, cN, hn, hE0, hE1, hE2, hE3, hE4, hE5, hE6, hE7, Nat.add_assoc, e1, e2, Int32.not_lt.mp e1, Int32.not_le.mpr e2, Int32.le_of_lt e2]; rfl, ?_⟩
      first
        | (refine ⟨?_, ?_, ?_, fun z h1 h2 => ?_⟩
           · simp only [rs_1, rn_1]; try omega
           · simp only [rs_1, rn_1]; try omega
           · simp only [rs_2, rn_2]; try omega
           · simp (disch := first | omega | (simp only [rs_1, rn_1]; omega)) only [rs_ne, rn_ne])
        | exact Kp.rf
  · by_cases e1 : i < 0
    · refine ⟨_, by simp [↓rb_bind, ↓rb_ob2, rb_zb, rs_1, rs_at, rn_1, rn_at, rd_i_of, rd_i_o, rd_j_of, rd_j_o, rd_r_of, rd_r_o, rd_p_of, rd_p_o, rd_c_of, rd_c_o, rd_k_of, rd_k_n, rd_b_of, rd_b_o, rd_b_n, rd_a_of, rd_a_o, rv_i_i, rv_j_j, rv_r_r, rv_r_n, va_rf, hp_len, hp_ldi, hp_ldb, hp_ldl, hp_ldq, hp_sti, hp_stb, hp_stl, hp_stq, hp_na, hp_new, hp_isq, hp_cpq, hp_cpb, zf, zd, upd_at, updL_at, up_at, nar_0, nar_1, i8_0, i8_1, bJ15_checkIndex_7cf53_0, bJ3_checkIndex_8e157_0, bJ3_checkIndex_8e157_9, bJx4a65c_elementData_915e3_0, bJx4a65c_get_915e3_0, bJx4a65c_isEmpty_aae02_0, bJx4a65c_isEmpty_aae02_12, bJx4a65c_size_8abf5_0, bX5_isLeaf_0, bX8_pageAt_0, bX8_pageAt_86, bX8_pagesIn_0, bX8_pagesIn_47, bX9_border_0, bX9_border_32, bX9_border_80, fJ15_checkIndex_7cf53, fJ3_checkIndex_8e157, fJx4a65c_elementData_915e3, fJx4a65c_get_915e3, fJx4a65c_isEmpty_aae02, fJx4a65c_size_8abf5, fX5_isLeaf, fX9_border, gX8_pageAt, gX8_pagesIn, u_bX8_pageAt_11, u_bX8_pagesIn_4, u_fX8_pageAt, u_fX8_pagesIn, lc_fill, nf_0, nf_3, nf_4, nf_5, nf_6, nf_2, nf_7, q_feed, q_cut, q_swap, q_sweep, q_page, q_fall, q_disk, q_bend, q_writes, q_number, c0, c1, c2, c3, c4, c5, c6, c7, c8, c9, c10, c11, c12, c13, c14, c15, cE, cN, hn, hE0, hE1, hE2, hE3, hE4, hE5, hE6, hE7, Nat.add_assoc, e0, e1, Int32.le_of_lt e1]; rfl, ?_⟩
      first
        | (refine ⟨?_, ?_, ?_, fun z h1 h2 => ?_⟩
           · simp only [rs_1, rn_1]; try omega
           · simp only [rs_1, rn_1]; try omega
           · simp only [rs_2, rn_2]; try omega
           · simp (disch := first | omega | (simp only [rs_1, rn_1]; omega)) only [rs_ne, rn_ne])
        | exact Kp.rf
    · have e2 : 0 < i := i32_pos e0 e1
      refine ⟨_, by simp [↓rb_bind, ↓rb_ob2, rb_zb, rs_1, rs_at, rn_1, rn_at, rd_i_of, rd_i_o, rd_j_of, rd_j_o, rd_r_of, rd_r_o, rd_p_of, rd_p_o, rd_c_of, rd_c_o, rd_k_of, rd_k_n, rd_b_of, rd_b_o, rd_b_n, rd_a_of, rd_a_o, rv_i_i, rv_j_j, rv_r_r, rv_r_n, va_rf, hp_len, hp_ldi, hp_ldb, hp_ldl, hp_ldq, hp_sti, hp_stb, hp_stl, hp_stq, hp_na, hp_new, hp_isq, hp_cpq, hp_cpb, zf, zd, upd_at, updL_at, up_at, nar_0, nar_1, i8_0, i8_1, bJ15_checkIndex_7cf53_0, bJ3_checkIndex_8e157_0, bJ3_checkIndex_8e157_9, bJx4a65c_elementData_915e3_0, bJx4a65c_get_915e3_0, bJx4a65c_isEmpty_aae02_0, bJx4a65c_isEmpty_aae02_12, bJx4a65c_size_8abf5_0, bX5_isLeaf_0, bX8_pageAt_0, bX8_pageAt_86, bX8_pagesIn_0, bX8_pagesIn_47, bX9_border_0, bX9_border_32, bX9_border_80, fJ15_checkIndex_7cf53, fJ3_checkIndex_8e157, fJx4a65c_elementData_915e3, fJx4a65c_get_915e3, fJx4a65c_isEmpty_aae02, fJx4a65c_size_8abf5, fX5_isLeaf, fX9_border, gX8_pageAt, gX8_pagesIn, u_bX8_pageAt_11, u_bX8_pagesIn_4, u_fX8_pageAt, u_fX8_pagesIn, lc_fill, nf_0, nf_3, nf_4, nf_5, nf_6, nf_2, nf_7, q_feed, q_cut, q_swap, q_sweep, q_page, q_fall, q_disk, q_bend, q_writes, q_number, c0, c1, c2, c3, c4, c5, c6, c7, c8, c9, c10, c11, c12, c13, c14, c15, cE, cN, hn, hE0, hE1, hE2, hE3, hE4, hE5, hE6, hE7, Nat.add_assoc, e0, e1, e2, Int32.not_le.mpr e2, i32_ge1 e2]; rfl, ?_⟩
      first
        | (refine ⟨?_, ?_, ?_, fun z h1 h2 => ?_⟩
           · simp only [rs_1, rn_1]; try omega
           · simp only [rs_1, rn_1]; try omega
           · simp only [rs_2, rn_2]; try omega
           · simp (disch := first | omega | (simp only [rs_1, rn_1]; omega)) only [rs_ne, rn_ne])
        | exact Kp.rf
set_option maxRecDepth 100000 in
set_option maxHeartbeats 4000000 in
theorem pc_letter {E : ah_E} {nx : Nat} {h : ah_H} (F : FrC E nx h) (hn : h.1 = nx + 76) (i k w : Int32) : ∃ h2, fX9_letter E (some nx) i k w h = some (-1, h2) ∧ Kp nx h h2 := by
  obtain ⟨c0, c1, c2, c3, c4, c5, c6, c7, c8, c9, c10, c11, c12, c13, c14, c15, cE, cN, hl, hl2⟩ := F
  have hE0 : ∀ k, (E.1 = nx + k) = False := fun k => eq_false (by omega)
  have hE1 : (E.1 = nx) = False := eq_false (by omega)
  have hE2 : ∀ k, (E.2.1 = nx + k) = False := fun k => eq_false (by omega)
  have hE3 : (E.2.1 = nx) = False := eq_false (by omega)
  have hE4 : ∀ k, (nx + k = E.1) = False := fun k => eq_false (by omega)
  have hE5 : (nx = E.1) = False := eq_false (by omega)
  have hE6 : ∀ k, (nx + k = E.2.1) = False := fun k => eq_false (by omega)
  have hE7 : (nx = E.2.1) = False := eq_false (by omega)
  by_cases e0 : i = 0
  · subst e0
    by_cases e1 : k < 0
    · refine ⟨_, by simp [↓rb_bind, ↓rb_ob2, rb_zb, rs_1, rs_at, rn_1, rn_at, rd_i_of, rd_i_o, rd_j_of, rd_j_o, rd_r_of, rd_r_o, rd_p_of, rd_p_o, rd_c_of, rd_c_o, rd_k_of, rd_k_n, rd_b_of, rd_b_o, rd_b_n, rd_a_of, rd_a_o, rv_i_i, rv_j_j, rv_r_r, rv_r_n, va_rf, hp_len, hp_ldi, hp_ldb, hp_ldl, hp_ldq, hp_sti, hp_stb, hp_stl, hp_stq, hp_na, hp_new, hp_isq, hp_cpq, hp_cpb, zf, zd, upd_at, updL_at, up_at, nar_0, nar_1, i8_0, i8_1, bJ15_checkIndex_7cf53_0, bJ3_checkIndex_8e157_0, bJ3_checkIndex_8e157_9, bJx4a65c_elementData_915e3_0, bJx4a65c_get_915e3_0, bJx4a65c_size_8abf5_0, bX8_pageAt_0, bX8_pageAt_86, bX8_pagesIn_0, bX8_pagesIn_47, bX9_letter_0, bX9_letter_45, bX9_letter_85, fJ15_checkIndex_7cf53, fJ3_checkIndex_8e157, fJx4a65c_elementData_915e3, fJx4a65c_get_915e3, fJx4a65c_size_8abf5, fX9_letter, gX8_pageAt, gX8_pagesIn, u_bX8_pageAt_11, u_bX8_pagesIn_4, u_fX8_pageAt, u_fX8_pagesIn, lc_fill, nf_0, nf_3, nf_4, nf_5, nf_6, nf_2, nf_7, q_feed, q_cut, q_swap, q_sweep, q_page, q_fall, q_disk, q_bend, q_writes, q_number, c0, c1, c2, c3, c4, c5, c6, c7, c8, c9, c10, c11, c12, c13, c14, c15, cE, cN, hn, hE0, hE1, hE2, hE3, hE4, hE5, hE6, hE7, Nat.add_assoc, e1]; rfl, ?_⟩
      first
        | (refine ⟨?_, ?_, ?_, fun z h1 h2 => ?_⟩
           · simp only [rs_1, rn_1]; try omega
           · simp only [rs_1, rn_1]; try omega
           · simp only [rs_2, rn_2]; try omega
           · simp (disch := first | omega | (simp only [rs_1, rn_1]; omega)) only [rs_ne, rn_ne])
        | exact Kp.rf
    · refine ⟨_, by simp [↓rb_bind, ↓rb_ob2, rb_zb, rs_1, rs_at, rn_1, rn_at, rd_i_of, rd_i_o, rd_j_of, rd_j_o, rd_r_of, rd_r_o, rd_p_of, rd_p_o, rd_c_of, rd_c_o, rd_k_of, rd_k_n, rd_b_of, rd_b_o, rd_b_n, rd_a_of, rd_a_o, rv_i_i, rv_j_j, rv_r_r, rv_r_n, va_rf, hp_len, hp_ldi, hp_ldb, hp_ldl, hp_ldq, hp_sti, hp_stb, hp_stl, hp_stq, hp_na, hp_new, hp_isq, hp_cpq, hp_cpb, zf, zd, upd_at, updL_at, up_at, nar_0, nar_1, i8_0, i8_1, bJ15_checkIndex_7cf53_0, bJ3_checkIndex_8e157_0, bJ3_checkIndex_8e157_9, bJx4a65c_elementData_915e3_0, bJx4a65c_get_915e3_0, bJx4a65c_size_8abf5_0, bX8_pageAt_0, bX8_pageAt_86, bX8_pagesIn_0, bX8_pagesIn_47, bX9_letter_0, bX9_letter_45, bX9_letter_85, fJ15_checkIndex_7cf53, fJ3_checkIndex_8e157, fJx4a65c_elementData_915e3, fJx4a65c_get_915e3, fJx4a65c_size_8abf5, fX9_letter, gX8_pageAt, gX8_pagesIn, u_bX8_pageAt_11, u_bX8_pagesIn_4, u_fX8_pageAt, u_fX8_pagesIn, lc_fill, nf_0, nf_3, nf_4, nf_5, nf_6, nf_2, nf_7, q_feed, q_cut, q_swap, q_sweep, q_page, q_fall, q_disk, q_bend, q_writes, q_number, c0, c1, c2, c3, c4, c5, c6, c7, c8, c9, c10, c11, c12, c13, c14, c15, cE, cN, hn, hE0, hE1, hE2, hE3, hE4, hE5, hE6, hE7, Nat.add_assoc, e1, Int32.not_lt.mp e1]; rfl, ?_⟩
      first
        | (refine ⟨?_, ?_, ?_, fun z h1 h2 => ?_⟩
           · simp only [rs_1, rn_1]; try omega
           · simp only [rs_1, rn_1]; try omega
           · simp only [rs_2, rn_2]; try omega
           · simp (disch := first | omega | (simp only [rs_1, rn_1]; omega)) only [rs_ne, rn_ne])
        | exact Kp.rf
  · by_cases e1 : i < 0
    · refine ⟨_, by simp [↓rb_bind, ↓rb_ob2, rb_zb, rs_1, rs_at, rn_1, rn_at, rd_i_of, rd_i_o, rd_j_of, rd_j_o, rd_r_of, rd_r_o, rd_p_of, rd_p_o, rd_c_of, rd_c_o, rd_k_of, rd_k_n, rd_b_of, rd_b_o, rd_b_n, rd_a_of, rd_a_o, rv_i_i, rv_j_j, rv_r_r, rv_r_n, va_rf, hp_len, hp_ldi, hp_ldb, hp_ldl, hp_ldq, hp_sti, hp_stb, hp_stl, hp_stq, hp_na, hp_new, hp_isq, hp_cpq, hp_cpb, zf, zd, upd_at, updL_at, up_at, nar_0, nar_1, i8_0, i8_1, bJ15_checkIndex_7cf53_0, bJ3_checkIndex_8e157_0, bJ3_checkIndex_8e157_9, bJx4a65c_elementData_915e3_0, bJx4a65c_get_915e3_0, bJx4a65c_size_8abf5_0, bX8_pageAt_0, bX8_pageAt_86, bX8_pagesIn_0, bX8_pagesIn_47, bX9_letter_0, bX9_letter_45, bX9_letter_85, fJ15_checkIndex_7cf53, fJ3_checkIndex_8e157, fJx4a65c_elementData_915e3, fJx4a65c_get_915e3, fJx4a65c_size_8abf5, fX9_letter, gX8_pageAt, gX8_pagesIn, u_bX8_pageAt_11, u_bX8_pagesIn_4, u_fX8_pageAt, u_fX8_pagesIn, lc_fill, nf_0, nf_3, nf_4, nf_5, nf_6, nf_2, nf_7, q_feed, q_cut, q_swap, q_sweep, q_page, q_fall, q_disk, q_bend, q_writes, q_number, c0, c1, c2, c3, c4, c5, c6, c7, c8, c9, c10, c11, c12, c13, c14, c15, cE, cN, hn, hE0, hE1, hE2, hE3, hE4, hE5, hE6, hE7, Nat.add_assoc, e0, e1, Int32.le_of_lt e1]; rfl, ?_⟩
      first
        | (refine ⟨?_, ?_, ?_, fun z h1 h2 => ?_⟩
           · simp only [rs_1, rn_1]; try omega
           · simp only [rs_1, rn_1]; try omega
           · simp only [rs_2, rn_2]; try omega
           · simp (disch := first | omega | (simp only [rs_1, rn_1]; omega)) only [rs_ne, rn_ne])
        | exact Kp.rf
    · have e2 : 0 < i := i32_pos e0 e1
      refine ⟨_, by simp [↓rb_bind, ↓rb_ob2, rb_zb, rs_1, rs_at, rn_1, rn_at, rd_i_of, rd_i_o, rd_j_of, rd_j_o, rd_r_of, rd_r_o, rd_p_of, rd_p_o, rd_c_of, rd_c_o, rd_k_of, rd_k_n, rd_b_of, rd_b_o, rd_b_n, rd_a_of, rd_a_o, rv_i_i, rv_j_j, rv_r_r, rv_r_n, va_rf, hp_len, hp_ldi, hp_ldb, hp_ldl, hp_ldq, hp_sti, hp_stb, hp_stl, hp_stq, hp_na, hp_new, hp_isq, hp_cpq, hp_cpb, zf, zd, upd_at, updL_at, up_at, nar_0, nar_1, i8_0, i8_1, bJ15_checkIndex_7cf53_0, bJ3_checkIndex_8e157_0, bJ3_checkIndex_8e157_9, bJx4a65c_elementData_915e3_0, bJx4a65c_get_915e3_0, bJx4a65c_size_8abf5_0, bX8_pageAt_0, bX8_pageAt_86, bX8_pagesIn_0, bX8_pagesIn_47, bX9_letter_0, bX9_letter_45, bX9_letter_85, fJ15_checkIndex_7cf53, fJ3_checkIndex_8e157, fJx4a65c_elementData_915e3, fJx4a65c_get_915e3, fJx4a65c_size_8abf5, fX9_letter, gX8_pageAt, gX8_pagesIn, u_bX8_pageAt_11, u_bX8_pagesIn_4, u_fX8_pageAt, u_fX8_pagesIn, lc_fill, nf_0, nf_3, nf_4, nf_5, nf_6, nf_2, nf_7, q_feed, q_cut, q_swap, q_sweep, q_page, q_fall, q_disk, q_bend, q_writes, q_number, c0, c1, c2, c3, c4, c5, c6, c7, c8, c9, c10, c11, c12, c13, c14, c15, cE, cN, hn, hE0, hE1, hE2, hE3, hE4, hE5, hE6, hE7, Nat.add_assoc, e0, e1, e2, Int32.not_le.mpr e2, i32_ge1 e2]; rfl, ?_⟩
      first
        | (refine ⟨?_, ?_, ?_, fun z h1 h2 => ?_⟩
           · simp only [rs_1, rn_1]; try omega
           · simp only [rs_1, rn_1]; try omega
           · simp only [rs_2, rn_2]; try omega
           · simp (disch := first | omega | (simp only [rs_1, rn_1]; omega)) only [rs_ne, rn_ne])
        | exact Kp.rf
set_option maxRecDepth 100000 in
set_option maxHeartbeats 4000000 in
theorem pc_met {E : ah_E} {nx : Nat} {h : ah_H} (F : FrC E nx h) (hn : h.1 = nx + 76) (k : Int64) : ∃ h2, fX9_met E (some nx) k h = some (0, h2) ∧ Kp nx h h2 := by
  obtain ⟨c0, c1, c2, c3, c4, c5, c6, c7, c8, c9, c10, c11, c12, c13, c14, c15, cE, cN, hl, hl2⟩ := F
  have hE0 : ∀ k, (E.1 = nx + k) = False := fun k => eq_false (by omega)
  have hE1 : (E.1 = nx) = False := eq_false (by omega)
  have hE2 : ∀ k, (E.2.1 = nx + k) = False := fun k => eq_false (by omega)
  have hE3 : (E.2.1 = nx) = False := eq_false (by omega)
  have hE4 : ∀ k, (nx + k = E.1) = False := fun k => eq_false (by omega)
  have hE5 : (nx = E.1) = False := eq_false (by omega)
  have hE6 : ∀ k, (nx + k = E.2.1) = False := fun k => eq_false (by omega)
  have hE7 : (nx = E.2.1) = False := eq_false (by omega)
  refine ⟨_, by simp [↓rb_bind, ↓rb_ob2, rb_zb, rs_1, rs_at, rn_1, rn_at, rd_i_of, rd_i_o, rd_j_of, rd_j_o, rd_r_of, rd_r_o, rd_p_of, rd_p_o, rd_c_of, rd_c_o, rd_k_of, rd_k_n, rd_b_of, rd_b_o, rd_b_n, rd_a_of, rd_a_o, rv_i_i, rv_j_j, rv_r_r, rv_r_n, va_rf, hp_len, hp_ldi, hp_ldb, hp_ldl, hp_ldq, hp_sti, hp_stb, hp_stl, hp_stq, hp_na, hp_new, hp_isq, hp_cpq, hp_cpb, zf, zd, upd_at, updL_at, up_at, nar_0, nar_1, i8_0, i8_1, bJ15_checkIndex_7cf53_0, bJ3_checkIndex_8e157_0, bJ3_checkIndex_8e157_9, bJx4a65c_elementData_915e3_0, bJx4a65c_get_915e3_0, bJx4a65c_isEmpty_aae02_0, bJx4a65c_isEmpty_aae02_12, bJx4a65c_size_8abf5_0, bX4_meets_0, bX4_meets_22, bX4_meets_23, bX5_isLeaf_0, bX5_kidFor_0, bX5_kidFor_46, bX8_lettersOnWay_0, bX8_lettersOnWay_65, bX8_lettersOnWay_96, bX9_met_0, bX9_met_20, fJ15_checkIndex_7cf53, fJ3_checkIndex_8e157, fJx4a65c_elementData_915e3, fJx4a65c_get_915e3, fJx4a65c_isEmpty_aae02, fJx4a65c_size_8abf5, fX4_meets, fX5_isLeaf, fX5_kidFor, fX8_lettersOnWay, fX9_met, u_bX5_kidFor_5, u_bX8_lettersOnWay_11, u_bX8_lettersOnWay_29, lc_fill, nf_0, nf_3, nf_4, nf_5, nf_6, nf_2, nf_7, q_feed, q_cut, q_swap, q_sweep, q_page, q_fall, q_disk, q_bend, q_writes, q_number, c0, c1, c2, c3, c4, c5, c6, c7, c8, c9, c10, c11, c12, c13, c14, c15, cE, cN, hn, hE0, hE1, hE2, hE3, hE4, hE5, hE6, hE7, Nat.add_assoc]; rfl, ?_⟩
  first
    | (refine ⟨?_, ?_, ?_, fun z h1 h2 => ?_⟩
       · simp only [rs_1, rn_1]; try omega
       · simp only [rs_1, rn_1]; try omega
       · simp only [rs_2, rn_2]; try omega
       · simp (disch := first | omega | (simp only [rs_1, rn_1]; omega)) only [rs_ne, rn_ne])
    | exact Kp.rf
