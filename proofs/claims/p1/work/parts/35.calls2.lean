set_option maxRecDepth 100000 in
set_option maxHeartbeats 4000000 in
theorem pc_look {E : ah_E} {nx : Nat} {h : ah_H} (F : FrC E nx h) (hn : h.1 = nx + 76) (p : Int32) (k : Int64) : ∃ h2, fX9_look E (some nx) p k h = some (-2, h2) ∧ Kp nx h h2 := by
  obtain ⟨c0, c1, c2, c3, c4, c5, c6, c7, c8, c9, c10, c11, c12, c13, c14, c15, cE, cN, hl, hl2⟩ := F
  have hE0 : ∀ k, (E.1 = nx + k) = False := fun k => eq_false (by omega)
  have hE1 : (E.1 = nx) = False := eq_false (by omega)
  have hE2 : ∀ k, (E.2.1 = nx + k) = False := fun k => eq_false (by omega)
  have hE3 : (E.2.1 = nx) = False := eq_false (by omega)
  have hE4 : ∀ k, (nx + k = E.1) = False := fun k => eq_false (by omega)
  have hE5 : (nx = E.1) = False := eq_false (by omega)
  have hE6 : ∀ k, (nx + k = E.2.1) = False := fun k => eq_false (by omega)
  have hE7 : (nx = E.2.1) = False := eq_false (by omega)
  refine ⟨_, by simp [↓rb_bind, ↓rb_ob2, rb_zb, rs_1, rs_at, rn_1, rn_at, rd_i_of, rd_i_o, rd_j_of, rd_j_o, rd_r_of, rd_r_o, rd_p_of, rd_p_o, rd_c_of, rd_c_o, rd_k_of, rd_k_n, rd_b_of, rd_b_o, rd_b_n, rd_a_of, rd_a_o, rv_i_i, rv_j_j, rv_r_r, rv_r_n, va_rf, hp_len, hp_ldi, hp_ldb, hp_ldl, hp_ldq, hp_sti, hp_stb, hp_stl, hp_stq, hp_na, hp_new, hp_isq, hp_cpq, hp_cpb, zf, zd, upd_at, updL_at, up_at, nar_0, nar_1, i8_0, i8_1, bJ15_checkIndex_7cf53_0, bJ3_checkIndex_8e157_0, bJ3_checkIndex_8e157_9, bJ7_copyOf_9075b_0, bJ9_min_7cf53_0, bJ9_min_7cf53_10, bJx4a65c_elementData_915e3_0, bJx4a65c_get_915e3_0, bJx4a65c_isEmpty_aae02_0, bJx4a65c_isEmpty_aae02_12, bJx4a65c_size_8abf5_0, bX1_firstNotBelow_0, bX1_firstNotBelow_67, bX1_firstNotBelow_73, bX1_hasAt_0, bX1_hasAt_38, bX1_hasAt_39, bX1_rowOf_0, bX1_rowOf_33, bX4_changes_0, bX4_changes_16, bX4_changes_30, bX4_changes_39, bX4_changes_55, bX4_changes_85, bX4_changes_92, bX4_meets_0, bX4_meets_22, bX4_meets_23, bX4_rowAfter_0, bX4_rowAfter_16, bX4_rowAfter_30, bX5_isLeaf_0, bX5_kidFor_0, bX5_kidFor_46, bX7_become_0, bX8_rowIn_0, bX8_rowIn_103, bX8_rowIn_13, bX9_load_0, bX9_look_0, bX9_pictureIndex_0, fJ15_checkIndex_7cf53, fJ3_checkIndex_8e157, fJ7_copyOf_9075b, fJ9_min_7cf53, fJx4a65c_elementData_915e3, fJx4a65c_get_915e3, fJx4a65c_isEmpty_aae02, fJx4a65c_size_8abf5, fX1_firstNotBelow, fX1_hasAt, fX1_rowOf, fX4_changes, fX4_meets, fX4_rowAfter, fX5_isLeaf, fX5_kidFor, fX7_become, fX9_load, fX9_look, fX9_pictureIndex, gX8_rowIn, u_bX1_firstNotBelow_14, u_bX4_changes_58, u_bX4_rowAfter_59, u_bX5_kidFor_5, u_bX8_rowIn_49, u_bX9_pictureIndex_2, u_fX8_rowIn, lc_fill, nf_0, nf_3, nf_4, nf_5, nf_6, nf_2, nf_7, q_feed, q_cut, q_swap, q_sweep, q_page, q_fall, q_disk, q_bend, q_writes, q_number, c0, c1, c2, c3, c4, c5, c6, c7, c8, c9, c10, c11, c12, c13, c14, c15, cE, cN, hn, hE0, hE1, hE2, hE3, hE4, hE5, hE6, hE7, Nat.add_assoc]; rfl, ?_⟩
  first
    | (refine ⟨?_, ?_, ?_, fun z h1 h2 => ?_⟩
       · simp only [rs_1, rn_1]; try omega
       · simp only [rs_1, rn_1]; try omega
       · simp only [rs_2, rn_2]; try omega
       · simp (disch := first | omega | (simp only [rs_1, rn_1]; omega)) only [rs_ne, rn_ne])
    | exact Kp.rf
set_option maxRecDepth 100000 in
set_option maxHeartbeats 4000000 in
theorem pc_release {E : ah_E} {nx : Nat} {h : ah_H} (F : FrC E nx h) (hn : h.1 = nx + 76) (p : Int32) : ∃ h2, fX9_release E (some nx) p h = some (-1, h2) ∧ Kp nx h h2 := by
  obtain ⟨c0, c1, c2, c3, c4, c5, c6, c7, c8, c9, c10, c11, c12, c13, c14, c15, cE, cN, hl, hl2⟩ := F
  have hE0 : ∀ k, (E.1 = nx + k) = False := fun k => eq_false (by omega)
  have hE1 : (E.1 = nx) = False := eq_false (by omega)
  have hE2 : ∀ k, (E.2.1 = nx + k) = False := fun k => eq_false (by omega)
  have hE3 : (E.2.1 = nx) = False := eq_false (by omega)
  have hE4 : ∀ k, (nx + k = E.1) = False := fun k => eq_false (by omega)
  have hE5 : (nx = E.1) = False := eq_false (by omega)
  have hE6 : ∀ k, (nx + k = E.2.1) = False := fun k => eq_false (by omega)
  have hE7 : (nx = E.2.1) = False := eq_false (by omega)
  refine ⟨_, by simp [↓rb_bind, ↓rb_ob2, rb_zb, rs_1, rs_at, rn_1, rn_at, rd_i_of, rd_i_o, rd_j_of, rd_j_o, rd_r_of, rd_r_o, rd_p_of, rd_p_o, rd_c_of, rd_c_o, rd_k_of, rd_k_n, rd_b_of, rd_b_o, rd_b_n, rd_a_of, rd_a_o, rv_i_i, rv_j_j, rv_r_r, rv_r_n, va_rf, hp_len, hp_ldi, hp_ldb, hp_ldl, hp_ldq, hp_sti, hp_stb, hp_stl, hp_stq, hp_na, hp_new, hp_isq, hp_cpq, hp_cpb, zf, zd, upd_at, updL_at, up_at, nar_0, nar_1, i8_0, i8_1, bJ15_checkIndex_7cf53_0, bJ3_checkIndex_8e157_0, bJ3_checkIndex_8e157_9, bJx4a65c_elementData_915e3_0, bJx4a65c_fastRemove_b59b0_0, bJx4a65c_fastRemove_b59b0_34, bJx4a65c_get_915e3_0, bJx4a65c_remove_915e3_0, bJx4a65c_size_8abf5_0, bX9_pictureIndex_0, bX9_release_0, fJ15_checkIndex_7cf53, fJ3_checkIndex_8e157, fJx4a65c_elementData_915e3, fJx4a65c_fastRemove_b59b0, fJx4a65c_get_915e3, fJx4a65c_remove_915e3, fJx4a65c_size_8abf5, fX9_pictureIndex, fX9_release, u_bX9_pictureIndex_2, lc_fill, nf_0, nf_3, nf_4, nf_5, nf_6, nf_2, nf_7, q_feed, q_cut, q_swap, q_sweep, q_page, q_fall, q_disk, q_bend, q_writes, q_number, c0, c1, c2, c3, c4, c5, c6, c7, c8, c9, c10, c11, c12, c13, c14, c15, cE, cN, hn, hE0, hE1, hE2, hE3, hE4, hE5, hE6, hE7, Nat.add_assoc]; rfl, ?_⟩
  first
    | (refine ⟨?_, ?_, ?_, fun z h1 h2 => ?_⟩
       · simp only [rs_1, rn_1]; try omega
       · simp only [rs_1, rn_1]; try omega
       · simp only [rs_2, rn_2]; try omega
       · simp (disch := first | omega | (simp only [rs_1, rn_1]; omega)) only [rs_ne, rn_ne])
    | exact Kp.rf
set_option maxRecDepth 100000 in
set_option maxHeartbeats 4000000 in
theorem pc_pictured {E : ah_E} {nx : Nat} {h : ah_H} (F : FrC E nx h) (hn : h.1 = nx + 76) (k : Int32) : ∃ h2, fX9_pictured E (some nx) k h = some (-1, h2) ∧ Kp nx h h2 := by
  obtain ⟨c0, c1, c2, c3, c4, c5, c6, c7, c8, c9, c10, c11, c12, c13, c14, c15, cE, cN, hl, hl2⟩ := F
  have hE0 : ∀ k, (E.1 = nx + k) = False := fun k => eq_false (by omega)
  have hE1 : (E.1 = nx) = False := eq_false (by omega)
  have hE2 : ∀ k, (E.2.1 = nx + k) = False := fun k => eq_false (by omega)
  have hE3 : (E.2.1 = nx) = False := eq_false (by omega)
  have hE4 : ∀ k, (nx + k = E.1) = False := fun k => eq_false (by omega)
  have hE5 : (nx = E.1) = False := eq_false (by omega)
  have hE6 : ∀ k, (nx + k = E.2.1) = False := fun k => eq_false (by omega)
  have hE7 : (nx = E.2.1) = False := eq_false (by omega)
  by_cases e0 : k < 0
  · refine ⟨_, by simp [↓rb_bind, ↓rb_ob2, rb_zb, rs_1, rs_at, rn_1, rn_at, rd_i_of, rd_i_o, rd_j_of, rd_j_o, rd_r_of, rd_r_o, rd_p_of, rd_p_o, rd_c_of, rd_c_o, rd_k_of, rd_k_n, rd_b_of, rd_b_o, rd_b_n, rd_a_of, rd_a_o, rv_i_i, rv_j_j, rv_r_r, rv_r_n, va_rf, hp_len, hp_ldi, hp_ldb, hp_ldl, hp_ldq, hp_sti, hp_stb, hp_stl, hp_stq, hp_na, hp_new, hp_isq, hp_cpq, hp_cpb, zf, zd, upd_at, updL_at, up_at, nar_0, nar_1, i8_0, i8_1, bJ15_checkIndex_7cf53_0, bJ3_checkIndex_8e157_0, bJ3_checkIndex_8e157_9, bJx4a65c_elementData_915e3_0, bJx4a65c_get_915e3_0, bJx4a65c_size_8abf5_0, bX9_pictured_0, bX9_pictured_25, fJ15_checkIndex_7cf53, fJ3_checkIndex_8e157, fJx4a65c_elementData_915e3, fJx4a65c_get_915e3, fJx4a65c_size_8abf5, fX9_pictured, lc_fill, nf_0, nf_3, nf_4, nf_5, nf_6, nf_2, nf_7, q_feed, q_cut, q_swap, q_sweep, q_page, q_fall, q_disk, q_bend, q_writes, q_number, c0, c1, c2, c3, c4, c5, c6, c7, c8, c9, c10, c11, c12, c13, c14, c15, cE, cN, hn, hE0, hE1, hE2, hE3, hE4, hE5, hE6, hE7, Nat.add_assoc, e0]; rfl, ?_⟩
    first
      | (refine ⟨?_, ?_, ?_, fun z h1 h2 => ?_⟩
         · simp only [rs_1, rn_1]; try omega
         · simp only [rs_1, rn_1]; try omega
         · simp only [rs_2, rn_2]; try omega
         · simp (disch := first | omega | (simp only [rs_1, rn_1]; omega)) only [rs_ne, rn_ne])
      | exact Kp.rf
  · refine ⟨_, by simp [↓rb_bind, ↓rb_ob2, rb_zb, rs_1, rs_at, rn_1, rn_at, rd_i_of, rd_i_o, rd_j_of, rd_j_o, rd_r_of, rd_r_o, rd_p_of, rd_p_o, rd_c_of, rd_c_o, rd_k_of, rd_k_n, rd_b_of, rd_b_o, rd_b_n, rd_a_of, rd_a_o, rv_i_i, rv_j_j, rv_r_r, rv_r_n, va_rf, hp_len, hp_ldi, hp_ldb, hp_ldl, hp_ldq, hp_sti, hp_stb, hp_stl, hp_stq, hp_na, hp_new, hp_isq, hp_cpq, hp_cpb, zf, zd, upd_at, updL_at, up_at, nar_0, nar_1, i8_0, i8_1, bJ15_checkIndex_7cf53_0, bJ3_checkIndex_8e157_0, bJ3_checkIndex_8e157_9, bJx4a65c_elementData_915e3_0, bJx4a65c_get_915e3_0, bJx4a65c_size_8abf5_0, bX9_pictured_0, bX9_pictured_25, fJ15_checkIndex_7cf53, fJ3_checkIndex_8e157, fJx4a65c_elementData_915e3, fJx4a65c_get_915e3, fJx4a65c_size_8abf5, fX9_pictured, lc_fill, nf_0, nf_3, nf_4, nf_5, nf_6, nf_2, nf_7, q_feed, q_cut, q_swap, q_sweep, q_page, q_fall, q_disk, q_bend, q_writes, q_number, c0, c1, c2, c3, c4, c5, c6, c7, c8, c9, c10, c11, c12, c13, c14, c15, cE, cN, hn, hE0, hE1, hE2, hE3, hE4, hE5, hE6, hE7, Nat.add_assoc, e0]; rfl, ?_⟩
    first
      | (refine ⟨?_, ?_, ?_, fun z h1 h2 => ?_⟩
         · simp only [rs_1, rn_1]; try omega
         · simp only [rs_1, rn_1]; try omega
         · simp only [rs_2, rn_2]; try omega
         · simp (disch := first | omega | (simp only [rs_1, rn_1]; omega)) only [rs_ne, rn_ne])
      | exact Kp.rf
set_option maxRecDepth 100000 in
set_option maxHeartbeats 4000000 in
theorem pc_free {E : ah_E} {nx : Nat} {h : ah_H} (F : FrC E nx h) (hn : h.1 = nx + 76)  : ∃ h2, fX9_free E (some nx)  h = some (1000, h2) ∧ Kp nx h h2 := by
  obtain ⟨c0, c1, c2, c3, c4, c5, c6, c7, c8, c9, c10, c11, c12, c13, c14, c15, cE, cN, hl, hl2⟩ := F
  have hE0 : ∀ k, (E.1 = nx + k) = False := fun k => eq_false (by omega)
  have hE1 : (E.1 = nx) = False := eq_false (by omega)
  have hE2 : ∀ k, (E.2.1 = nx + k) = False := fun k => eq_false (by omega)
  have hE3 : (E.2.1 = nx) = False := eq_false (by omega)
  have hE4 : ∀ k, (nx + k = E.1) = False := fun k => eq_false (by omega)
  have hE5 : (nx = E.1) = False := eq_false (by omega)
  have hE6 : ∀ k, (nx + k = E.2.1) = False := fun k => eq_false (by omega)
  have hE7 : (nx = E.2.1) = False := eq_false (by omega)
  refine ⟨_, by simp [↓rb_bind, ↓rb_ob2, rb_zb, rs_1, rs_at, rn_1, rn_at, rd_i_of, rd_i_o, rd_j_of, rd_j_o, rd_r_of, rd_r_o, rd_p_of, rd_p_o, rd_c_of, rd_c_o, rd_k_of, rd_k_n, rd_b_of, rd_b_o, rd_b_n, rd_a_of, rd_a_o, rv_i_i, rv_j_j, rv_r_r, rv_r_n, va_rf, hp_len, hp_ldi, hp_ldb, hp_ldl, hp_ldq, hp_sti, hp_stb, hp_stl, hp_stq, hp_na, hp_new, hp_isq, hp_cpq, hp_cpb, zf, zd, upd_at, updL_at, up_at, nar_0, nar_1, i8_0, i8_1, bJ15_checkIndex_7cf53_0, bJ3_checkIndex_8e157_0, bJ3_checkIndex_8e157_9, bJ7_fill_031fb_0, bJx4a65c_elementData_915e3_0, bJx4a65c_get_915e3_0, bJx4a65c_size_8abf5_0, bX0_markPages_0, bX0_markPages_50, bX0_markPages_93, bX0_markPictures_0, bX0_markTaken_0, bX0_markTaken_72, bX9_freePlaces_0, bX9_free_0, bX9_free_16, fJ15_checkIndex_7cf53, fJ3_checkIndex_8e157, fJ7_fill_031fb, fJx4a65c_elementData_915e3, fJx4a65c_get_915e3, fJx4a65c_size_8abf5, fX0_markPictures, fX0_markTaken, fX9_free, fX9_freePlaces, gX0_markPages, u_bX0_markPages_52, u_bX0_markPictures_2, u_bX0_markTaken_31, u_fX0_markPages, lc_fill, nf_0, nf_3, nf_4, nf_5, nf_6, nf_2, nf_7, q_feed, q_cut, q_swap, q_sweep, q_page, q_fall, q_disk, q_bend, q_writes, q_number, c0, c1, c2, c3, c4, c5, c6, c7, c8, c9, c10, c11, c12, c13, c14, c15, cE, cN, hn, hE0, hE1, hE2, hE3, hE4, hE5, hE6, hE7, Nat.add_assoc]; rfl, ?_⟩
  first
    | (refine ⟨?_, ?_, ?_, fun z h1 h2 => ?_⟩
       · simp only [rs_1, rn_1]; try omega
       · simp only [rs_1, rn_1]; try omega
       · simp only [rs_2, rn_2]; try omega
       · simp (disch := first | omega | (simp only [rs_1, rn_1]; omega)) only [rs_ne, rn_ne])
    | exact Kp.rf
set_option maxRecDepth 100000 in
set_option maxHeartbeats 4000000 in
theorem pc_fall {E : ah_E} {nx : Nat} {h : ah_H} (F : FrC E nx h) (hn : h.1 = nx + 76) (n : Int32) : ∃ h2, fX9_fall E (some nx) n h = some (q_fall n, h2) ∧ Kp nx h h2 := by
  obtain ⟨c0, c1, c2, c3, c4, c5, c6, c7, c8, c9, c10, c11, c12, c13, c14, c15, cE, cN, hl, hl2⟩ := F
  have hE0 : ∀ k, (E.1 = nx + k) = False := fun k => eq_false (by omega)
  have hE1 : (E.1 = nx) = False := eq_false (by omega)
  have hE2 : ∀ k, (E.2.1 = nx + k) = False := fun k => eq_false (by omega)
  have hE3 : (E.2.1 = nx) = False := eq_false (by omega)
  have hE4 : ∀ k, (nx + k = E.1) = False := fun k => eq_false (by omega)
  have hE5 : (nx = E.1) = False := eq_false (by omega)
  have hE6 : ∀ k, (nx + k = E.2.1) = False := fun k => eq_false (by omega)
  have hE7 : (nx = E.2.1) = False := eq_false (by omega)
  by_cases e0 : n < 0
  · refine ⟨_, by simp [↓rb_bind, ↓rb_ob2, rb_zb, rs_1, rs_at, rn_1, rn_at, rd_i_of, rd_i_o, rd_j_of, rd_j_o, rd_r_of, rd_r_o, rd_p_of, rd_p_o, rd_c_of, rd_c_o, rd_k_of, rd_k_n, rd_b_of, rd_b_o, rd_b_n, rd_a_of, rd_a_o, rv_i_i, rv_j_j, rv_r_r, rv_r_n, va_rf, hp_len, hp_ldi, hp_ldb, hp_ldl, hp_ldq, hp_sti, hp_stb, hp_stl, hp_stq, hp_na, hp_new, hp_isq, hp_cpq, hp_cpb, zf, zd, upd_at, updL_at, up_at, nar_0, nar_1, i8_0, i8_1, bX9_fall_0, bX9_fall_11, fX9_fall, lc_fill, nf_0, nf_3, nf_4, nf_5, nf_6, nf_2, nf_7, q_feed, q_cut, q_swap, q_sweep, q_page, q_fall, q_disk, q_bend, q_writes, q_number, c0, c1, c2, c3, c4, c5, c6, c7, c8, c9, c10, c11, c12, c13, c14, c15, cE, cN, hn, hE0, hE1, hE2, hE3, hE4, hE5, hE6, hE7, Nat.add_assoc, e0]; rfl, ?_⟩
    first
      | (refine ⟨?_, ?_, ?_, fun z h1 h2 => ?_⟩
         · simp only [rs_1, rn_1]; try omega
         · simp only [rs_1, rn_1]; try omega
         · simp only [rs_2, rn_2]; try omega
         · simp (disch := first | omega | (simp only [rs_1, rn_1]; omega)) only [rs_ne, rn_ne])
      | exact Kp.rf
  · by_cases e1 : n ≤ 10000
    · refine ⟨_, by simp [↓rb_bind, ↓rb_ob2, rb_zb, rs_1, rs_at, rn_1, rn_at, rd_i_of, rd_i_o, rd_j_of, rd_j_o, rd_r_of, rd_r_o, rd_p_of, rd_p_o, rd_c_of, rd_c_o, rd_k_of, rd_k_n, rd_b_of, rd_b_o, rd_b_n, rd_a_of, rd_a_o, rv_i_i, rv_j_j, rv_r_r, rv_r_n, va_rf, hp_len, hp_ldi, hp_ldb, hp_ldl, hp_ldq, hp_sti, hp_stb, hp_stl, hp_stq, hp_na, hp_new, hp_isq, hp_cpq, hp_cpb, zf, zd, upd_at, updL_at, up_at, nar_0, nar_1, i8_0, i8_1, bX9_fall_0, bX9_fall_11, fX9_fall, lc_fill, nf_0, nf_3, nf_4, nf_5, nf_6, nf_2, nf_7, q_feed, q_cut, q_swap, q_sweep, q_page, q_fall, q_disk, q_bend, q_writes, q_number, c0, c1, c2, c3, c4, c5, c6, c7, c8, c9, c10, c11, c12, c13, c14, c15, cE, cN, hn, hE0, hE1, hE2, hE3, hE4, hE5, hE6, hE7, Nat.add_assoc, e0, e1, Int32.not_lt.mpr e1]; rfl, ?_⟩
      first
        | (refine ⟨?_, ?_, ?_, fun z h1 h2 => ?_⟩
           · simp only [rs_1, rn_1]; try omega
           · simp only [rs_1, rn_1]; try omega
           · simp only [rs_2, rn_2]; try omega
           · simp (disch := first | omega | (simp only [rs_1, rn_1]; omega)) only [rs_ne, rn_ne])
        | exact Kp.rf
    · refine ⟨_, by simp [↓rb_bind, ↓rb_ob2, rb_zb, rs_1, rs_at, rn_1, rn_at, rd_i_of, rd_i_o, rd_j_of, rd_j_o, rd_r_of, rd_r_o, rd_p_of, rd_p_o, rd_c_of, rd_c_o, rd_k_of, rd_k_n, rd_b_of, rd_b_o, rd_b_n, rd_a_of, rd_a_o, rv_i_i, rv_j_j, rv_r_r, rv_r_n, va_rf, hp_len, hp_ldi, hp_ldb, hp_ldl, hp_ldq, hp_sti, hp_stb, hp_stl, hp_stq, hp_na, hp_new, hp_isq, hp_cpq, hp_cpb, zf, zd, upd_at, updL_at, up_at, nar_0, nar_1, i8_0, i8_1, bX9_fall_0, bX9_fall_11, fX9_fall, lc_fill, nf_0, nf_3, nf_4, nf_5, nf_6, nf_2, nf_7, q_feed, q_cut, q_swap, q_sweep, q_page, q_fall, q_disk, q_bend, q_writes, q_number, c0, c1, c2, c3, c4, c5, c6, c7, c8, c9, c10, c11, c12, c13, c14, c15, cE, cN, hn, hE0, hE1, hE2, hE3, hE4, hE5, hE6, hE7, Nat.add_assoc, e0, e1, Int32.not_le.mp e1]; rfl, ?_⟩
      first
        | (refine ⟨?_, ?_, ?_, fun z h1 h2 => ?_⟩
           · simp only [rs_1, rn_1]; try omega
           · simp only [rs_1, rn_1]; try omega
           · simp only [rs_2, rn_2]; try omega
           · simp (disch := first | omega | (simp only [rs_1, rn_1]; omega)) only [rs_ne, rn_ne])
        | exact Kp.rf
set_option maxRecDepth 100000 in
set_option maxHeartbeats 4000000 in
theorem pc_crash {E : ah_E} {nx : Nat} {h : ah_H} (F : FrC E nx h) (hn : h.1 = nx + 76)  : ∃ h2, fX9_crash E (some nx)  h = some (0, h2) ∧ Kp nx h h2 := by
  obtain ⟨c0, c1, c2, c3, c4, c5, c6, c7, c8, c9, c10, c11, c12, c13, c14, c15, cE, cN, hl, hl2⟩ := F
  have hE0 : ∀ k, (E.1 = nx + k) = False := fun k => eq_false (by omega)
  have hE1 : (E.1 = nx) = False := eq_false (by omega)
  have hE2 : ∀ k, (E.2.1 = nx + k) = False := fun k => eq_false (by omega)
  have hE3 : (E.2.1 = nx) = False := eq_false (by omega)
  have hE4 : ∀ k, (nx + k = E.1) = False := fun k => eq_false (by omega)
  have hE5 : (nx = E.1) = False := eq_false (by omega)
  have hE6 : ∀ k, (nx + k = E.2.1) = False := fun k => eq_false (by omega)
  have hE7 : (nx = E.2.1) = False := eq_false (by omega)
  refine ⟨_, by simp [↓rb_bind, ↓rb_ob2, rb_zb, rs_1, rs_at, rn_1, rn_at, rd_i_of, rd_i_o, rd_j_of, rd_j_o, rd_r_of, rd_r_o, rd_p_of, rd_p_o, rd_c_of, rd_c_o, rd_k_of, rd_k_n, rd_b_of, rd_b_o, rd_b_n, rd_a_of, rd_a_o, rv_i_i, rv_j_j, rv_r_r, rv_r_n, va_rf, hp_len, hp_ldi, hp_ldb, hp_ldl, hp_ldq, hp_sti, hp_stb, hp_stl, hp_stq, hp_na, hp_new, hp_isq, hp_cpq, hp_cpb, zf, zd, upd_at, updL_at, up_at, nar_0, nar_1, i8_0, i8_1, bJx4a65c_clear_da8c8_0, bJx4a65c_init_da8c8_0, bJxa1e45_init_da8c8_0, bJxc12de_init_da8c8_0, bX1_init_0, bX5_init_0, bX9_crash_0, bX9_goDown_0, bX9_startAnew_0, fJx4a65c_clear_da8c8, fJx4a65c_init_da8c8, fJxa1e45_init_da8c8, fJxc12de_init_da8c8, fX1_init, fX5_init, fX9_crash, fX9_goDown, fX9_startAnew, u_bJx4a65c_clear_da8c8_27, lc_fill, nf_0, nf_3, nf_4, nf_5, nf_6, nf_2, nf_7, q_feed, q_cut, q_swap, q_sweep, q_page, q_fall, q_disk, q_bend, q_writes, q_number, c0, c1, c2, c3, c4, c5, c6, c7, c8, c9, c10, c11, c12, c13, c14, c15, cE, cN, hn, hE0, hE1, hE2, hE3, hE4, hE5, hE6, hE7, Nat.add_assoc]; rfl, ?_⟩
  first
    | (refine ⟨?_, ?_, ?_, fun z h1 h2 => ?_⟩
       · simp only [rs_1, rn_1]; try omega
       · simp only [rs_1, rn_1]; try omega
       · simp only [rs_2, rn_2]; try omega
       · simp (disch := first | omega | (simp only [rs_1, rn_1]; omega)) only [rs_ne, rn_ne])
    | exact Kp.rf
set_option maxRecDepth 100000 in
set_option maxHeartbeats 4000000 in
theorem pc_rise {E : ah_E} {nx : Nat} {h : ah_H} (F : FrC E nx h) (hn : h.1 = nx + 76)  : ∃ h2, fX9_rise E (some nx)  h = some (-2, h2) ∧ Kp nx h h2 := by
  obtain ⟨c0, c1, c2, c3, c4, c5, c6, c7, c8, c9, c10, c11, c12, c13, c14, c15, cE, cN, hl, hl2⟩ := F
  have hE0 : ∀ k, (E.1 = nx + k) = False := fun k => eq_false (by omega)
  have hE1 : (E.1 = nx) = False := eq_false (by omega)
  have hE2 : ∀ k, (E.2.1 = nx + k) = False := fun k => eq_false (by omega)
  have hE3 : (E.2.1 = nx) = False := eq_false (by omega)
  have hE4 : ∀ k, (nx + k = E.1) = False := fun k => eq_false (by omega)
  have hE5 : (nx = E.1) = False := eq_false (by omega)
  have hE6 : ∀ k, (nx + k = E.2.1) = False := fun k => eq_false (by omega)
  have hE7 : (nx = E.2.1) = False := eq_false (by omega)
  refine ⟨_, by simp [↓rb_bind, ↓rb_ob2, rb_zb, rs_1, rs_at, rn_1, rn_at, rd_i_of, rd_i_o, rd_j_of, rd_j_o, rd_r_of, rd_r_o, rd_p_of, rd_p_o, rd_c_of, rd_c_o, rd_k_of, rd_k_n, rd_b_of, rd_b_o, rd_b_n, rd_a_of, rd_a_o, rv_i_i, rv_j_j, rv_r_r, rv_r_n, va_rf, hp_len, hp_ldi, hp_ldb, hp_ldl, hp_ldq, hp_sti, hp_stb, hp_stl, hp_stq, hp_na, hp_new, hp_isq, hp_cpq, hp_cpb, zf, zd, upd_at, updL_at, up_at, nar_0, nar_1, i8_0, i8_1, bJ15_checkIndex_7cf53_0, bJ3_checkIndex_8e157_0, bJ3_checkIndex_8e157_9, bJ7_copyOf_1904c_0, bJ7_copyOf_6403c_0, bJ7_copyOf_9075b_0, bJ8_hugeLength_7cf53_0, bJ8_newLength_cabcc_0, bJ8_newLength_cabcc_21, bJ9_max_7cf53_0, bJ9_max_7cf53_10, bJ9_min_7cf53_0, bJ9_min_7cf53_10, bJx4a65c_add_72be8_0, bJx4a65c_add_72be8_11, bJx4a65c_add_7a177_0, bJx4a65c_add_7a177_38, bJx4a65c_add_9ea2d_0, bJx4a65c_clear_da8c8_0, bJx4a65c_elementData_915e3_0, bJx4a65c_fastRemove_b59b0_0, bJx4a65c_fastRemove_b59b0_34, bJx4a65c_get_915e3_0, bJx4a65c_grow_92f84_0, bJx4a65c_grow_92f84_20, bJx4a65c_grow_d5877_0, bJx4a65c_init_da8c8_0, bJx4a65c_rangeCheckForAdd_d00df_0, bJx4a65c_rangeCheckForAdd_d00df_12, bJx4a65c_remove_915e3_0, bJx4a65c_set_bcc79_0, bJx4a65c_size_8abf5_0, bJxa1e45_init_da8c8_0, bJxc12de_init_da8c8_0, bX0_greatestPicture_0, bX0_greatestPicture_36, bX0_latestHead_0, bX0_latestHead_22, bX0_latestHead_31, bX0_latestHead_48, bX1_act_0, bX1_act_127, bX1_act_25, bX1_act_67, bX1_firstNotBelow_0, bX1_firstNotBelow_67, bX1_firstNotBelow_73, bX1_hasAt_0, bX1_hasAt_38, bX1_hasAt_39, bX1_init_0, bX1_removeFrom_0, bX1_removeFrom_64, bX2_init_0, bX4_changes_0, bX4_changes_16, bX4_changes_30, bX4_changes_39, bX4_changes_55, bX4_changes_85, bX4_changes_92, bX4_rowAfter_0, bX4_rowAfter_16, bX4_rowAfter_30, bX5_init_0, bX8_gather_0, bX8_gather_87, bX9_adopt_0, bX9_copyPictures_0, bX9_rise_0, bX9_rise_42, bX9_startAnew_0, fJ15_checkIndex_7cf53, fJ3_checkIndex_8e157, fJ7_copyOf_1904c, fJ7_copyOf_6403c, fJ7_copyOf_9075b, fJ8_hugeLength_7cf53, fJ8_newLength_cabcc, fJ9_max_7cf53, fJ9_min_7cf53, fJx4a65c_add_72be8, fJx4a65c_add_7a177, fJx4a65c_add_9ea2d, fJx4a65c_clear_da8c8, fJx4a65c_elementData_915e3, fJx4a65c_fastRemove_b59b0, fJx4a65c_get_915e3, fJx4a65c_grow_92f84, fJx4a65c_grow_d5877, fJx4a65c_init_da8c8, fJx4a65c_rangeCheckForAdd_d00df, fJx4a65c_remove_915e3, fJx4a65c_set_bcc79, fJx4a65c_size_8abf5, fJxa1e45_init_da8c8, fJxc12de_init_da8c8, fX0_greatestPicture, fX0_latestHead, fX1_act, fX1_firstNotBelow, fX1_hasAt, fX1_init, fX1_removeFrom, fX2_init, fX4_changes, fX4_rowAfter, fX5_init, fX9_adopt, fX9_copyPictures, fX9_rise, fX9_startAnew, gX8_gather, u_bJx4a65c_clear_da8c8_27, u_bX0_greatestPicture_4, u_bX1_firstNotBelow_14, u_bX1_removeFrom_12, u_bX4_changes_58, u_bX4_rowAfter_59, u_bX8_gather_2, u_bX8_gather_46, u_bX8_gather_89, u_bX9_copyPictures_2, u_fX8_gather, lc_fill, nf_0, nf_3, nf_4, nf_5, nf_6, nf_2, nf_7, q_feed, q_cut, q_swap, q_sweep, q_page, q_fall, q_disk, q_bend, q_writes, q_number, c0, c1, c2, c3, c4, c5, c6, c7, c8, c9, c10, c11, c12, c13, c14, c15, cE, cN, hn, hE0, hE1, hE2, hE3, hE4, hE5, hE6, hE7, Nat.add_assoc]; rfl, ?_⟩
  first
    | (refine ⟨?_, ?_, ?_, fun z h1 h2 => ?_⟩
       · simp only [rs_1, rn_1]; try omega
       · simp only [rs_1, rn_1]; try omega
       · simp only [rs_2, rn_2]; try omega
       · simp (disch := first | omega | (simp only [rs_1, rn_1]; omega)) only [rs_ne, rn_ne])
    | exact Kp.rf
set_option maxRecDepth 100000 in
set_option maxHeartbeats 4000000 in
theorem pc_disk {E : ah_E} {nx : Nat} {h : ah_H} (F : FrC E nx h) (hn : h.1 = nx + 76) (d w : Int32) : ∃ h2, fX9_disk E (some nx) d w h = some (q_disk d w, h2) ∧ Kp nx h h2 := by
  obtain ⟨c0, c1, c2, c3, c4, c5, c6, c7, c8, c9, c10, c11, c12, c13, c14, c15, cE, cN, hl, hl2⟩ := F
  have hE0 : ∀ k, (E.1 = nx + k) = False := fun k => eq_false (by omega)
  have hE1 : (E.1 = nx) = False := eq_false (by omega)
  have hE2 : ∀ k, (E.2.1 = nx + k) = False := fun k => eq_false (by omega)
  have hE3 : (E.2.1 = nx) = False := eq_false (by omega)
  have hE4 : ∀ k, (nx + k = E.1) = False := fun k => eq_false (by omega)
  have hE5 : (nx = E.1) = False := eq_false (by omega)
  have hE6 : ∀ k, (nx + k = E.2.1) = False := fun k => eq_false (by omega)
  have hE7 : (nx = E.2.1) = False := eq_false (by omega)
  by_cases e0 : d < 0
  · refine ⟨_, by simp [↓rb_bind, ↓rb_ob2, rb_zb, rs_1, rs_at, rn_1, rn_at, rd_i_of, rd_i_o, rd_j_of, rd_j_o, rd_r_of, rd_r_o, rd_p_of, rd_p_o, rd_c_of, rd_c_o, rd_k_of, rd_k_n, rd_b_of, rd_b_o, rd_b_n, rd_a_of, rd_a_o, rv_i_i, rv_j_j, rv_r_r, rv_r_n, va_rf, hp_len, hp_ldi, hp_ldb, hp_ldl, hp_ldq, hp_sti, hp_stb, hp_stl, hp_stq, hp_na, hp_new, hp_isq, hp_cpq, hp_cpb, zf, zd, upd_at, updL_at, up_at, nar_0, nar_1, i8_0, i8_1, bJ15_checkIndex_7cf53_0, bJ3_checkIndex_8e157_0, bJ3_checkIndex_8e157_9, bJx4a65c_elementData_915e3_0, bJx4a65c_get_915e3_0, bJx4a65c_size_8abf5_0, bX8_pagesIn_0, bX8_pagesIn_47, bX9_disk_0, bX9_disk_18, fJ15_checkIndex_7cf53, fJ3_checkIndex_8e157, fJx4a65c_elementData_915e3, fJx4a65c_get_915e3, fJx4a65c_size_8abf5, fX9_disk, gX8_pagesIn, u_bX8_pagesIn_4, u_fX8_pagesIn, lc_fill, nf_0, nf_3, nf_4, nf_5, nf_6, nf_2, nf_7, q_feed, q_cut, q_swap, q_sweep, q_page, q_fall, q_disk, q_bend, q_writes, q_number, c0, c1, c2, c3, c4, c5, c6, c7, c8, c9, c10, c11, c12, c13, c14, c15, cE, cN, hn, hE0, hE1, hE2, hE3, hE4, hE5, hE6, hE7, Nat.add_assoc, e0]; rfl, ?_⟩
    first
      | (refine ⟨?_, ?_, ?_, fun z h1 h2 => ?_⟩
         · simp only [rs_1, rn_1]; try omega
         · simp only [rs_1, rn_1]; try omega
         · simp only [rs_2, rn_2]; try omega
         · simp (disch := first | omega | (simp only [rs_1, rn_1]; omega)) only [rs_ne, rn_ne])
      | exact Kp.rf
  · by_cases e1 : 1 < d
    · refine ⟨_, by simp [↓rb_bind, ↓rb_ob2, rb_zb, rs_1, rs_at, rn_1, rn_at, rd_i_of, rd_i_o, rd_j_of, rd_j_o, rd_r_of, rd_r_o, rd_p_of, rd_p_o, rd_c_of, rd_c_o, rd_k_of, rd_k_n, rd_b_of, rd_b_o, rd_b_n, rd_a_of, rd_a_o, rv_i_i, rv_j_j, rv_r_r, rv_r_n, va_rf, hp_len, hp_ldi, hp_ldb, hp_ldl, hp_ldq, hp_sti, hp_stb, hp_stl, hp_stq, hp_na, hp_new, hp_isq, hp_cpq, hp_cpb, zf, zd, upd_at, updL_at, up_at, nar_0, nar_1, i8_0, i8_1, bJ15_checkIndex_7cf53_0, bJ3_checkIndex_8e157_0, bJ3_checkIndex_8e157_9, bJx4a65c_elementData_915e3_0, bJx4a65c_get_915e3_0, bJx4a65c_size_8abf5_0, bX8_pagesIn_0, bX8_pagesIn_47, bX9_disk_0, bX9_disk_18, fJ15_checkIndex_7cf53, fJ3_checkIndex_8e157, fJx4a65c_elementData_915e3, fJx4a65c_get_915e3, fJx4a65c_size_8abf5, fX9_disk, gX8_pagesIn, u_bX8_pagesIn_4, u_fX8_pagesIn, lc_fill, nf_0, nf_3, nf_4, nf_5, nf_6, nf_2, nf_7, q_feed, q_cut, q_swap, q_sweep, q_page, q_fall, q_disk, q_bend, q_writes, q_number, c0, c1, c2, c3, c4, c5, c6, c7, c8, c9, c10, c11, c12, c13, c14, c15, cE, cN, hn, hE0, hE1, hE2, hE3, hE4, hE5, hE6, hE7, Nat.add_assoc, e0, e1]; rfl, ?_⟩
      first
        | (refine ⟨?_, ?_, ?_, fun z h1 h2 => ?_⟩
           · simp only [rs_1, rn_1]; try omega
           · simp only [rs_1, rn_1]; try omega
           · simp only [rs_2, rn_2]; try omega
           · simp (disch := first | omega | (simp only [rs_1, rn_1]; omega)) only [rs_ne, rn_ne])
        | exact Kp.rf
    · by_cases e2 : w < 0
      · refine ⟨_, by simp [↓rb_bind, ↓rb_ob2, rb_zb, rs_1, rs_at, rn_1, rn_at, rd_i_of, rd_i_o, rd_j_of, rd_j_o, rd_r_of, rd_r_o, rd_p_of, rd_p_o, rd_c_of, rd_c_o, rd_k_of, rd_k_n, rd_b_of, rd_b_o, rd_b_n, rd_a_of, rd_a_o, rv_i_i, rv_j_j, rv_r_r, rv_r_n, va_rf, hp_len, hp_ldi, hp_ldb, hp_ldl, hp_ldq, hp_sti, hp_stb, hp_stl, hp_stq, hp_na, hp_new, hp_isq, hp_cpq, hp_cpb, zf, zd, upd_at, updL_at, up_at, nar_0, nar_1, i8_0, i8_1, bJ15_checkIndex_7cf53_0, bJ3_checkIndex_8e157_0, bJ3_checkIndex_8e157_9, bJx4a65c_elementData_915e3_0, bJx4a65c_get_915e3_0, bJx4a65c_size_8abf5_0, bX8_pagesIn_0, bX8_pagesIn_47, bX9_disk_0, bX9_disk_18, fJ15_checkIndex_7cf53, fJ3_checkIndex_8e157, fJx4a65c_elementData_915e3, fJx4a65c_get_915e3, fJx4a65c_size_8abf5, fX9_disk, gX8_pagesIn, u_bX8_pagesIn_4, u_fX8_pagesIn, lc_fill, nf_0, nf_3, nf_4, nf_5, nf_6, nf_2, nf_7, q_feed, q_cut, q_swap, q_sweep, q_page, q_fall, q_disk, q_bend, q_writes, q_number, c0, c1, c2, c3, c4, c5, c6, c7, c8, c9, c10, c11, c12, c13, c14, c15, cE, cN, hn, hE0, hE1, hE2, hE3, hE4, hE5, hE6, hE7, Nat.add_assoc, e0, e1, e2]; rfl, ?_⟩
        first
          | (refine ⟨?_, ?_, ?_, fun z h1 h2 => ?_⟩
             · simp only [rs_1, rn_1]; try omega
             · simp only [rs_1, rn_1]; try omega
             · simp only [rs_2, rn_2]; try omega
             · simp (disch := first | omega | (simp only [rs_1, rn_1]; omega)) only [rs_ne, rn_ne])
          | exact Kp.rf
      · by_cases e3 : w ≤ 3
        · obtain ⟨j, hj, rfl⟩ := i32_of (n := 1) (by decide) e0 e1
          have : j = 0 ∨ j = 1 := by omega
          rcases this with rfl | rfl
          · refine ⟨_, by simp [↓rb_bind, ↓rb_ob2, rb_zb, rs_1, rs_at, rn_1, rn_at, rd_i_of, rd_i_o, rd_j_of, rd_j_o, rd_r_of, rd_r_o, rd_p_of, rd_p_o, rd_c_of, rd_c_o, rd_k_of, rd_k_n, rd_b_of, rd_b_o, rd_b_n, rd_a_of, rd_a_o, rv_i_i, rv_j_j, rv_r_r, rv_r_n, va_rf, hp_len, hp_ldi, hp_ldb, hp_ldl, hp_ldq, hp_sti, hp_stb, hp_stl, hp_stq, hp_na, hp_new, hp_isq, hp_cpq, hp_cpb, zf, zd, upd_at, updL_at, up_at, nar_0, nar_1, i8_0, i8_1, bJ15_checkIndex_7cf53_0, bJ3_checkIndex_8e157_0, bJ3_checkIndex_8e157_9, bJx4a65c_elementData_915e3_0, bJx4a65c_get_915e3_0, bJx4a65c_size_8abf5_0, bX8_pagesIn_0, bX8_pagesIn_47, bX9_disk_0, bX9_disk_18, fJ15_checkIndex_7cf53, fJ3_checkIndex_8e157, fJx4a65c_elementData_915e3, fJx4a65c_get_915e3, fJx4a65c_size_8abf5, fX9_disk, gX8_pagesIn, u_bX8_pagesIn_4, u_fX8_pagesIn, lc_fill, nf_0, nf_3, nf_4, nf_5, nf_6, nf_2, nf_7, q_feed, q_cut, q_swap, q_sweep, q_page, q_fall, q_disk, q_bend, q_writes, q_number, c0, c1, c2, c3, c4, c5, c6, c7, c8, c9, c10, c11, c12, c13, c14, c15, cE, cN, hn, hE0, hE1, hE2, hE3, hE4, hE5, hE6, hE7, Nat.add_assoc, e2, e3, Int32.not_lt.mpr e3]; rfl, ?_⟩
            first
              | (refine ⟨?_, ?_, ?_, fun z h1 h2 => ?_⟩
                 · simp only [rs_1, rn_1]; try omega
                 · simp only [rs_1, rn_1]; try omega
                 · simp only [rs_2, rn_2]; try omega
                 · simp (disch := first | omega | (simp only [rs_1, rn_1]; omega)) only [rs_ne, rn_ne])
              | exact Kp.rf
          · refine ⟨_, by simp [↓rb_bind, ↓rb_ob2, rb_zb, rs_1, rs_at, rn_1, rn_at, rd_i_of, rd_i_o, rd_j_of, rd_j_o, rd_r_of, rd_r_o, rd_p_of, rd_p_o, rd_c_of, rd_c_o, rd_k_of, rd_k_n, rd_b_of, rd_b_o, rd_b_n, rd_a_of, rd_a_o, rv_i_i, rv_j_j, rv_r_r, rv_r_n, va_rf, hp_len, hp_ldi, hp_ldb, hp_ldl, hp_ldq, hp_sti, hp_stb, hp_stl, hp_stq, hp_na, hp_new, hp_isq, hp_cpq, hp_cpb, zf, zd, upd_at, updL_at, up_at, nar_0, nar_1, i8_0, i8_1, bJ15_checkIndex_7cf53_0, bJ3_checkIndex_8e157_0, bJ3_checkIndex_8e157_9, bJx4a65c_elementData_915e3_0, bJx4a65c_get_915e3_0, bJx4a65c_size_8abf5_0, bX8_pagesIn_0, bX8_pagesIn_47, bX9_disk_0, bX9_disk_18, fJ15_checkIndex_7cf53, fJ3_checkIndex_8e157, fJx4a65c_elementData_915e3, fJx4a65c_get_915e3, fJx4a65c_size_8abf5, fX9_disk, gX8_pagesIn, u_bX8_pagesIn_4, u_fX8_pagesIn, lc_fill, nf_0, nf_3, nf_4, nf_5, nf_6, nf_2, nf_7, q_feed, q_cut, q_swap, q_sweep, q_page, q_fall, q_disk, q_bend, q_writes, q_number, c0, c1, c2, c3, c4, c5, c6, c7, c8, c9, c10, c11, c12, c13, c14, c15, cE, cN, hn, hE0, hE1, hE2, hE3, hE4, hE5, hE6, hE7, Nat.add_assoc, e2, e3, Int32.not_lt.mpr e3]; rfl, ?_⟩
            first
              | (refine ⟨?_, ?_, ?_, fun z h1 h2 => ?_⟩
                 · simp only [rs_1, rn_1]; try omega
                 · simp only [rs_1, rn_1]; try omega
                 · simp only [rs_2, rn_2]; try omega
                 · simp (disch := first | omega | (simp only [rs_1, rn_1]; omega)) only [rs_ne, rn_ne])
              | exact Kp.rf
        · refine ⟨_, by simp [↓rb_bind, ↓rb_ob2, rb_zb, rs_1, rs_at, rn_1, rn_at, rd_i_of, rd_i_o, rd_j_of, rd_j_o, rd_r_of, rd_r_o, rd_p_of, rd_p_o, rd_c_of, rd_c_o, rd_k_of, rd_k_n, rd_b_of, rd_b_o, rd_b_n, rd_a_of, rd_a_o, rv_i_i, rv_j_j, rv_r_r, rv_r_n, va_rf, hp_len, hp_ldi, hp_ldb, hp_ldl, hp_ldq, hp_sti, hp_stb, hp_stl, hp_stq, hp_na, hp_new, hp_isq, hp_cpq, hp_cpb, zf, zd, upd_at, updL_at, up_at, nar_0, nar_1, i8_0, i8_1, bJ15_checkIndex_7cf53_0, bJ3_checkIndex_8e157_0, bJ3_checkIndex_8e157_9, bJx4a65c_elementData_915e3_0, bJx4a65c_get_915e3_0, bJx4a65c_size_8abf5_0, bX8_pagesIn_0, bX8_pagesIn_47, bX9_disk_0, bX9_disk_18, fJ15_checkIndex_7cf53, fJ3_checkIndex_8e157, fJx4a65c_elementData_915e3, fJx4a65c_get_915e3, fJx4a65c_size_8abf5, fX9_disk, gX8_pagesIn, u_bX8_pagesIn_4, u_fX8_pagesIn, lc_fill, nf_0, nf_3, nf_4, nf_5, nf_6, nf_2, nf_7, q_feed, q_cut, q_swap, q_sweep, q_page, q_fall, q_disk, q_bend, q_writes, q_number, c0, c1, c2, c3, c4, c5, c6, c7, c8, c9, c10, c11, c12, c13, c14, c15, cE, cN, hn, hE0, hE1, hE2, hE3, hE4, hE5, hE6, hE7, Nat.add_assoc, e0, e1, e2, e3, Int32.not_le.mp e3]; rfl, ?_⟩
          first
            | (refine ⟨?_, ?_, ?_, fun z h1 h2 => ?_⟩
               · simp only [rs_1, rn_1]; try omega
               · simp only [rs_1, rn_1]; try omega
               · simp only [rs_2, rn_2]; try omega
               · simp (disch := first | omega | (simp only [rs_1, rn_1]; omega)) only [rs_ne, rn_ne])
            | exact Kp.rf
set_option maxRecDepth 100000 in
set_option maxHeartbeats 4000000 in
theorem pc_bend {E : ah_E} {nx : Nat} {h : ah_H} (F : FrC E nx h) (hn : h.1 = nx + 76) (d : Int32) : ∃ h2, fX9_bend E (some nx) d h = some (q_bend d, h2) ∧ Kp nx h h2 := by
  obtain ⟨c0, c1, c2, c3, c4, c5, c6, c7, c8, c9, c10, c11, c12, c13, c14, c15, cE, cN, hl, hl2⟩ := F
  have hE0 : ∀ k, (E.1 = nx + k) = False := fun k => eq_false (by omega)
  have hE1 : (E.1 = nx) = False := eq_false (by omega)
  have hE2 : ∀ k, (E.2.1 = nx + k) = False := fun k => eq_false (by omega)
  have hE3 : (E.2.1 = nx) = False := eq_false (by omega)
  have hE4 : ∀ k, (nx + k = E.1) = False := fun k => eq_false (by omega)
  have hE5 : (nx = E.1) = False := eq_false (by omega)
  have hE6 : ∀ k, (nx + k = E.2.1) = False := fun k => eq_false (by omega)
  have hE7 : (nx = E.2.1) = False := eq_false (by omega)
  by_cases e0 : d < 0
  · refine ⟨_, by simp [↓rb_bind, ↓rb_ob2, rb_zb, rs_1, rs_at, rn_1, rn_at, rd_i_of, rd_i_o, rd_j_of, rd_j_o, rd_r_of, rd_r_o, rd_p_of, rd_p_o, rd_c_of, rd_c_o, rd_k_of, rd_k_n, rd_b_of, rd_b_o, rd_b_n, rd_a_of, rd_a_o, rv_i_i, rv_j_j, rv_r_r, rv_r_n, va_rf, hp_len, hp_ldi, hp_ldb, hp_ldl, hp_ldq, hp_sti, hp_stb, hp_stl, hp_stq, hp_na, hp_new, hp_isq, hp_cpq, hp_cpb, zf, zd, upd_at, updL_at, up_at, nar_0, nar_1, i8_0, i8_1, bX9_bend_0, bX9_bend_28, bX9_bend_9, fX9_bend, lc_fill, nf_0, nf_3, nf_4, nf_5, nf_6, nf_2, nf_7, q_feed, q_cut, q_swap, q_sweep, q_page, q_fall, q_disk, q_bend, q_writes, q_number, c0, c1, c2, c3, c4, c5, c6, c7, c8, c9, c10, c11, c12, c13, c14, c15, cE, cN, hn, hE0, hE1, hE2, hE3, hE4, hE5, hE6, hE7, Nat.add_assoc, e0]; rfl, ?_⟩
    first
      | (refine ⟨?_, ?_, ?_, fun z h1 h2 => ?_⟩
         · simp only [rs_1, rn_1]; try omega
         · simp only [rs_1, rn_1]; try omega
         · simp only [rs_2, rn_2]; try omega
         · simp (disch := first | omega | (simp only [rs_1, rn_1]; omega)) only [rs_ne, rn_ne])
      | exact Kp.rf
  · by_cases e1 : d ≤ 1
    · obtain ⟨j, hj, rfl⟩ := i32_of (n := 1) (by decide) e0 (Int32.not_lt.mpr e1)
      have : j = 0 ∨ j = 1 := by omega
      rcases this with rfl | rfl
      · refine ⟨_, by simp [↓rb_bind, ↓rb_ob2, rb_zb, rs_1, rs_at, rn_1, rn_at, rd_i_of, rd_i_o, rd_j_of, rd_j_o, rd_r_of, rd_r_o, rd_p_of, rd_p_o, rd_c_of, rd_c_o, rd_k_of, rd_k_n, rd_b_of, rd_b_o, rd_b_n, rd_a_of, rd_a_o, rv_i_i, rv_j_j, rv_r_r, rv_r_n, va_rf, hp_len, hp_ldi, hp_ldb, hp_ldl, hp_ldq, hp_sti, hp_stb, hp_stl, hp_stq, hp_na, hp_new, hp_isq, hp_cpq, hp_cpb, zf, zd, upd_at, updL_at, up_at, nar_0, nar_1, i8_0, i8_1, bX9_bend_0, bX9_bend_28, bX9_bend_9, fX9_bend, lc_fill, nf_0, nf_3, nf_4, nf_5, nf_6, nf_2, nf_7, q_feed, q_cut, q_swap, q_sweep, q_page, q_fall, q_disk, q_bend, q_writes, q_number, c0, c1, c2, c3, c4, c5, c6, c7, c8, c9, c10, c11, c12, c13, c14, c15, cE, cN, hn, hE0, hE1, hE2, hE3, hE4, hE5, hE6, hE7, Nat.add_assoc]; rfl, ?_⟩
        first
          | (refine ⟨?_, ?_, ?_, fun z h1 h2 => ?_⟩
             · simp only [rs_1, rn_1]; try omega
             · simp only [rs_1, rn_1]; try omega
             · simp only [rs_2, rn_2]; try omega
             · simp (disch := first | omega | (simp only [rs_1, rn_1]; omega)) only [rs_ne, rn_ne])
          | exact Kp.rf
      · refine ⟨_, by simp [↓rb_bind, ↓rb_ob2, rb_zb, rs_1, rs_at, rn_1, rn_at, rd_i_of, rd_i_o, rd_j_of, rd_j_o, rd_r_of, rd_r_o, rd_p_of, rd_p_o, rd_c_of, rd_c_o, rd_k_of, rd_k_n, rd_b_of, rd_b_o, rd_b_n, rd_a_of, rd_a_o, rv_i_i, rv_j_j, rv_r_r, rv_r_n, va_rf, hp_len, hp_ldi, hp_ldb, hp_ldl, hp_ldq, hp_sti, hp_stb, hp_stl, hp_stq, hp_na, hp_new, hp_isq, hp_cpq, hp_cpb, zf, zd, upd_at, updL_at, up_at, nar_0, nar_1, i8_0, i8_1, bX9_bend_0, bX9_bend_28, bX9_bend_9, fX9_bend, lc_fill, nf_0, nf_3, nf_4, nf_5, nf_6, nf_2, nf_7, q_feed, q_cut, q_swap, q_sweep, q_page, q_fall, q_disk, q_bend, q_writes, q_number, c0, c1, c2, c3, c4, c5, c6, c7, c8, c9, c10, c11, c12, c13, c14, c15, cE, cN, hn, hE0, hE1, hE2, hE3, hE4, hE5, hE6, hE7, Nat.add_assoc]; rfl, ?_⟩
        first
          | (refine ⟨?_, ?_, ?_, fun z h1 h2 => ?_⟩
             · simp only [rs_1, rn_1]; try omega
             · simp only [rs_1, rn_1]; try omega
             · simp only [rs_2, rn_2]; try omega
             · simp (disch := first | omega | (simp only [rs_1, rn_1]; omega)) only [rs_ne, rn_ne])
          | exact Kp.rf
    · refine ⟨_, by simp [↓rb_bind, ↓rb_ob2, rb_zb, rs_1, rs_at, rn_1, rn_at, rd_i_of, rd_i_o, rd_j_of, rd_j_o, rd_r_of, rd_r_o, rd_p_of, rd_p_o, rd_c_of, rd_c_o, rd_k_of, rd_k_n, rd_b_of, rd_b_o, rd_b_n, rd_a_of, rd_a_o, rv_i_i, rv_j_j, rv_r_r, rv_r_n, va_rf, hp_len, hp_ldi, hp_ldb, hp_ldl, hp_ldq, hp_sti, hp_stb, hp_stl, hp_stq, hp_na, hp_new, hp_isq, hp_cpq, hp_cpb, zf, zd, upd_at, updL_at, up_at, nar_0, nar_1, i8_0, i8_1, bX9_bend_0, bX9_bend_28, bX9_bend_9, fX9_bend, lc_fill, nf_0, nf_3, nf_4, nf_5, nf_6, nf_2, nf_7, q_feed, q_cut, q_swap, q_sweep, q_page, q_fall, q_disk, q_bend, q_writes, q_number, c0, c1, c2, c3, c4, c5, c6, c7, c8, c9, c10, c11, c12, c13, c14, c15, cE, cN, hn, hE0, hE1, hE2, hE3, hE4, hE5, hE6, hE7, Nat.add_assoc, e0, e1, Int32.not_le.mp e1]; rfl, ?_⟩
      first
        | (refine ⟨?_, ?_, ?_, fun z h1 h2 => ?_⟩
           · simp only [rs_1, rn_1]; try omega
           · simp only [rs_1, rn_1]; try omega
           · simp only [rs_2, rn_2]; try omega
           · simp (disch := first | omega | (simp only [rs_1, rn_1]; omega)) only [rs_ne, rn_ne])
        | exact Kp.rf
set_option maxRecDepth 100000 in
set_option maxHeartbeats 4000000 in
theorem pc_writes {E : ah_E} {nx : Nat} {h : ah_H} (F : FrC E nx h) (hn : h.1 = nx + 76) (w : Int32) : ∃ h2, fX9_writes E (some nx) w h = some (q_writes w, h2) ∧ Kp nx h h2 := by
  obtain ⟨c0, c1, c2, c3, c4, c5, c6, c7, c8, c9, c10, c11, c12, c13, c14, c15, cE, cN, hl, hl2⟩ := F
  have hE0 : ∀ k, (E.1 = nx + k) = False := fun k => eq_false (by omega)
  have hE1 : (E.1 = nx) = False := eq_false (by omega)
  have hE2 : ∀ k, (E.2.1 = nx + k) = False := fun k => eq_false (by omega)
  have hE3 : (E.2.1 = nx) = False := eq_false (by omega)
  have hE4 : ∀ k, (nx + k = E.1) = False := fun k => eq_false (by omega)
  have hE5 : (nx = E.1) = False := eq_false (by omega)
  have hE6 : ∀ k, (nx + k = E.2.1) = False := fun k => eq_false (by omega)
  have hE7 : (nx = E.2.1) = False := eq_false (by omega)
  by_cases e0 : w < 0
  · refine ⟨_, by simp [↓rb_bind, ↓rb_ob2, rb_zb, rs_1, rs_at, rn_1, rn_at, rd_i_of, rd_i_o, rd_j_of, rd_j_o, rd_r_of, rd_r_o, rd_p_of, rd_p_o, rd_c_of, rd_c_o, rd_k_of, rd_k_n, rd_b_of, rd_b_o, rd_b_n, rd_a_of, rd_a_o, rv_i_i, rv_j_j, rv_r_r, rv_r_n, va_rf, hp_len, hp_ldi, hp_ldb, hp_ldl, hp_ldq, hp_sti, hp_stb, hp_stl, hp_stq, hp_na, hp_new, hp_isq, hp_cpq, hp_cpb, zf, zd, upd_at, updL_at, up_at, nar_0, nar_1, i8_0, i8_1, bX9_writes_0, bX9_writes_16, fX9_writes, lc_fill, nf_0, nf_3, nf_4, nf_5, nf_6, nf_2, nf_7, q_feed, q_cut, q_swap, q_sweep, q_page, q_fall, q_disk, q_bend, q_writes, q_number, c0, c1, c2, c3, c4, c5, c6, c7, c8, c9, c10, c11, c12, c13, c14, c15, cE, cN, hn, hE0, hE1, hE2, hE3, hE4, hE5, hE6, hE7, Nat.add_assoc, e0]; rfl, ?_⟩
    first
      | (refine ⟨?_, ?_, ?_, fun z h1 h2 => ?_⟩
         · simp only [rs_1, rn_1]; try omega
         · simp only [rs_1, rn_1]; try omega
         · simp only [rs_2, rn_2]; try omega
         · simp (disch := first | omega | (simp only [rs_1, rn_1]; omega)) only [rs_ne, rn_ne])
      | exact Kp.rf
  · by_cases e1 : 3 < w
    · have e2 : ¬ w < 4 := i32_ge4 e1
      refine ⟨_, by simp [↓rb_bind, ↓rb_ob2, rb_zb, rs_1, rs_at, rn_1, rn_at, rd_i_of, rd_i_o, rd_j_of, rd_j_o, rd_r_of, rd_r_o, rd_p_of, rd_p_o, rd_c_of, rd_c_o, rd_k_of, rd_k_n, rd_b_of, rd_b_o, rd_b_n, rd_a_of, rd_a_o, rv_i_i, rv_j_j, rv_r_r, rv_r_n, va_rf, hp_len, hp_ldi, hp_ldb, hp_ldl, hp_ldq, hp_sti, hp_stb, hp_stl, hp_stq, hp_na, hp_new, hp_isq, hp_cpq, hp_cpb, zf, zd, upd_at, updL_at, up_at, nar_0, nar_1, i8_0, i8_1, bX9_writes_0, bX9_writes_16, fX9_writes, lc_fill, nf_0, nf_3, nf_4, nf_5, nf_6, nf_2, nf_7, q_feed, q_cut, q_swap, q_sweep, q_page, q_fall, q_disk, q_bend, q_writes, q_number, c0, c1, c2, c3, c4, c5, c6, c7, c8, c9, c10, c11, c12, c13, c14, c15, cE, cN, hn, hE0, hE1, hE2, hE3, hE4, hE5, hE6, hE7, Nat.add_assoc, e0, e1, e2, Int32.not_le.mpr e1]; rfl, ?_⟩
      first
        | (refine ⟨?_, ?_, ?_, fun z h1 h2 => ?_⟩
           · simp only [rs_1, rn_1]; try omega
           · simp only [rs_1, rn_1]; try omega
           · simp only [rs_2, rn_2]; try omega
           · simp (disch := first | omega | (simp only [rs_1, rn_1]; omega)) only [rs_ne, rn_ne])
        | exact Kp.rf
    · obtain ⟨j, hj, rfl⟩ := i32_of (n := 3) (by decide) e0 e1
      have : j = 0 ∨ j = 1 ∨ j = 2 ∨ j = 3 := by omega
      rcases this with rfl | rfl | rfl | rfl
      · refine ⟨_, by simp [↓rb_bind, ↓rb_ob2, rb_zb, rs_1, rs_at, rn_1, rn_at, rd_i_of, rd_i_o, rd_j_of, rd_j_o, rd_r_of, rd_r_o, rd_p_of, rd_p_o, rd_c_of, rd_c_o, rd_k_of, rd_k_n, rd_b_of, rd_b_o, rd_b_n, rd_a_of, rd_a_o, rv_i_i, rv_j_j, rv_r_r, rv_r_n, va_rf, hp_len, hp_ldi, hp_ldb, hp_ldl, hp_ldq, hp_sti, hp_stb, hp_stl, hp_stq, hp_na, hp_new, hp_isq, hp_cpq, hp_cpb, zf, zd, upd_at, updL_at, up_at, nar_0, nar_1, i8_0, i8_1, bX9_writes_0, bX9_writes_16, fX9_writes, lc_fill, nf_0, nf_3, nf_4, nf_5, nf_6, nf_2, nf_7, q_feed, q_cut, q_swap, q_sweep, q_page, q_fall, q_disk, q_bend, q_writes, q_number, c0, c1, c2, c3, c4, c5, c6, c7, c8, c9, c10, c11, c12, c13, c14, c15, cE, cN, hn, hE0, hE1, hE2, hE3, hE4, hE5, hE6, hE7, Nat.add_assoc]; rfl, ?_⟩
        first
          | (refine ⟨?_, ?_, ?_, fun z h1 h2 => ?_⟩
             · simp only [rs_1, rn_1]; try omega
             · simp only [rs_1, rn_1]; try omega
             · simp only [rs_2, rn_2]; try omega
             · simp (disch := first | omega | (simp only [rs_1, rn_1]; omega)) only [rs_ne, rn_ne])
          | exact Kp.rf
      · refine ⟨_, by simp [↓rb_bind, ↓rb_ob2, rb_zb, rs_1, rs_at, rn_1, rn_at, rd_i_of, rd_i_o, rd_j_of, rd_j_o, rd_r_of, rd_r_o, rd_p_of, rd_p_o, rd_c_of, rd_c_o, rd_k_of, rd_k_n, rd_b_of, rd_b_o, rd_b_n, rd_a_of, rd_a_o, rv_i_i, rv_j_j, rv_r_r, rv_r_n, va_rf, hp_len, hp_ldi, hp_ldb, hp_ldl, hp_ldq, hp_sti, hp_stb, hp_stl, hp_stq, hp_na, hp_new, hp_isq, hp_cpq, hp_cpb, zf, zd, upd_at, updL_at, up_at, nar_0, nar_1, i8_0, i8_1, bX9_writes_0, bX9_writes_16, fX9_writes, lc_fill, nf_0, nf_3, nf_4, nf_5, nf_6, nf_2, nf_7, q_feed, q_cut, q_swap, q_sweep, q_page, q_fall, q_disk, q_bend, q_writes, q_number, c0, c1, c2, c3, c4, c5, c6, c7, c8, c9, c10, c11, c12, c13, c14, c15, cE, cN, hn, hE0, hE1, hE2, hE3, hE4, hE5, hE6, hE7, Nat.add_assoc]; rfl, ?_⟩
        first
          | (refine ⟨?_, ?_, ?_, fun z h1 h2 => ?_⟩
             · simp only [rs_1, rn_1]; try omega
             · simp only [rs_1, rn_1]; try omega
             · simp only [rs_2, rn_2]; try omega
             · simp (disch := first | omega | (simp only [rs_1, rn_1]; omega)) only [rs_ne, rn_ne])
          | exact Kp.rf
      · refine ⟨_, by simp [↓rb_bind, ↓rb_ob2, rb_zb, rs_1, rs_at, rn_1, rn_at, rd_i_of, rd_i_o, rd_j_of, rd_j_o, rd_r_of, rd_r_o, rd_p_of, rd_p_o, rd_c_of, rd_c_o, rd_k_of, rd_k_n, rd_b_of, rd_b_o, rd_b_n, rd_a_of, rd_a_o, rv_i_i, rv_j_j, rv_r_r, rv_r_n, va_rf, hp_len, hp_ldi, hp_ldb, hp_ldl, hp_ldq, hp_sti, hp_stb, hp_stl, hp_stq, hp_na, hp_new, hp_isq, hp_cpq, hp_cpb, zf, zd, upd_at, updL_at, up_at, nar_0, nar_1, i8_0, i8_1, bX9_writes_0, bX9_writes_16, fX9_writes, lc_fill, nf_0, nf_3, nf_4, nf_5, nf_6, nf_2, nf_7, q_feed, q_cut, q_swap, q_sweep, q_page, q_fall, q_disk, q_bend, q_writes, q_number, c0, c1, c2, c3, c4, c5, c6, c7, c8, c9, c10, c11, c12, c13, c14, c15, cE, cN, hn, hE0, hE1, hE2, hE3, hE4, hE5, hE6, hE7, Nat.add_assoc]; rfl, ?_⟩
        first
          | (refine ⟨?_, ?_, ?_, fun z h1 h2 => ?_⟩
             · simp only [rs_1, rn_1]; try omega
             · simp only [rs_1, rn_1]; try omega
             · simp only [rs_2, rn_2]; try omega
             · simp (disch := first | omega | (simp only [rs_1, rn_1]; omega)) only [rs_ne, rn_ne])
          | exact Kp.rf
      · refine ⟨_, by simp [↓rb_bind, ↓rb_ob2, rb_zb, rs_1, rs_at, rn_1, rn_at, rd_i_of, rd_i_o, rd_j_of, rd_j_o, rd_r_of, rd_r_o, rd_p_of, rd_p_o, rd_c_of, rd_c_o, rd_k_of, rd_k_n, rd_b_of, rd_b_o, rd_b_n, rd_a_of, rd_a_o, rv_i_i, rv_j_j, rv_r_r, rv_r_n, va_rf, hp_len, hp_ldi, hp_ldb, hp_ldl, hp_ldq, hp_sti, hp_stb, hp_stl, hp_stq, hp_na, hp_new, hp_isq, hp_cpq, hp_cpb, zf, zd, upd_at, updL_at, up_at, nar_0, nar_1, i8_0, i8_1, bX9_writes_0, bX9_writes_16, fX9_writes, lc_fill, nf_0, nf_3, nf_4, nf_5, nf_6, nf_2, nf_7, q_feed, q_cut, q_swap, q_sweep, q_page, q_fall, q_disk, q_bend, q_writes, q_number, c0, c1, c2, c3, c4, c5, c6, c7, c8, c9, c10, c11, c12, c13, c14, c15, cE, cN, hn, hE0, hE1, hE2, hE3, hE4, hE5, hE6, hE7, Nat.add_assoc]; rfl, ?_⟩
        first
          | (refine ⟨?_, ?_, ?_, fun z h1 h2 => ?_⟩
             · simp only [rs_1, rn_1]; try omega
             · simp only [rs_1, rn_1]; try omega
             · simp only [rs_2, rn_2]; try omega
             · simp (disch := first | omega | (simp only [rs_1, rn_1]; omega)) only [rs_ne, rn_ne])
          | exact Kp.rf
set_option maxRecDepth 100000 in
set_option maxHeartbeats 4000000 in
theorem pc_number {E : ah_E} {nx : Nat} {h : ah_H} (F : FrC E nx h) (hn : h.1 = nx + 76) (w : Int32) : ∃ h2, fX9_number E (some nx) w h = some (q_number w, h2) ∧ Kp nx h h2 := by
  obtain ⟨c0, c1, c2, c3, c4, c5, c6, c7, c8, c9, c10, c11, c12, c13, c14, c15, cE, cN, hl, hl2⟩ := F
  have hE0 : ∀ k, (E.1 = nx + k) = False := fun k => eq_false (by omega)
  have hE1 : (E.1 = nx) = False := eq_false (by omega)
  have hE2 : ∀ k, (E.2.1 = nx + k) = False := fun k => eq_false (by omega)
  have hE3 : (E.2.1 = nx) = False := eq_false (by omega)
  have hE4 : ∀ k, (nx + k = E.1) = False := fun k => eq_false (by omega)
  have hE5 : (nx = E.1) = False := eq_false (by omega)
  have hE6 : ∀ k, (nx + k = E.2.1) = False := fun k => eq_false (by omega)
  have hE7 : (nx = E.2.1) = False := eq_false (by omega)
  by_cases e0 : w = 0
  · subst e0
    refine ⟨_, by simp [↓rb_bind, ↓rb_ob2, rb_zb, rs_1, rs_at, rn_1, rn_at, rd_i_of, rd_i_o, rd_j_of, rd_j_o, rd_r_of, rd_r_o, rd_p_of, rd_p_o, rd_c_of, rd_c_o, rd_k_of, rd_k_n, rd_b_of, rd_b_o, rd_b_n, rd_a_of, rd_a_o, rv_i_i, rv_j_j, rv_r_r, rv_r_n, va_rf, hp_len, hp_ldi, hp_ldb, hp_ldl, hp_ldq, hp_sti, hp_stb, hp_stl, hp_stq, hp_na, hp_new, hp_isq, hp_cpq, hp_cpb, zf, zd, upd_at, updL_at, up_at, nar_0, nar_1, i8_0, i8_1, bX9_number_0, bX9_number_32, fX9_number, lc_fill, nf_0, nf_3, nf_4, nf_5, nf_6, nf_2, nf_7, q_feed, q_cut, q_swap, q_sweep, q_page, q_fall, q_disk, q_bend, q_writes, q_number, c0, c1, c2, c3, c4, c5, c6, c7, c8, c9, c10, c11, c12, c13, c14, c15, cE, cN, hn, hE0, hE1, hE2, hE3, hE4, hE5, hE6, hE7, Nat.add_assoc]; rfl, ?_⟩
    first
      | (refine ⟨?_, ?_, ?_, fun z h1 h2 => ?_⟩
         · simp only [rs_1, rn_1]; try omega
         · simp only [rs_1, rn_1]; try omega
         · simp only [rs_2, rn_2]; try omega
         · simp (disch := first | omega | (simp only [rs_1, rn_1]; omega)) only [rs_ne, rn_ne])
      | exact Kp.rf
  · by_cases e1 : w = 1
    · subst e1
      refine ⟨_, by simp [↓rb_bind, ↓rb_ob2, rb_zb, rs_1, rs_at, rn_1, rn_at, rd_i_of, rd_i_o, rd_j_of, rd_j_o, rd_r_of, rd_r_o, rd_p_of, rd_p_o, rd_c_of, rd_c_o, rd_k_of, rd_k_n, rd_b_of, rd_b_o, rd_b_n, rd_a_of, rd_a_o, rv_i_i, rv_j_j, rv_r_r, rv_r_n, va_rf, hp_len, hp_ldi, hp_ldb, hp_ldl, hp_ldq, hp_sti, hp_stb, hp_stl, hp_stq, hp_na, hp_new, hp_isq, hp_cpq, hp_cpb, zf, zd, upd_at, updL_at, up_at, nar_0, nar_1, i8_0, i8_1, bX9_number_0, bX9_number_32, fX9_number, lc_fill, nf_0, nf_3, nf_4, nf_5, nf_6, nf_2, nf_7, q_feed, q_cut, q_swap, q_sweep, q_page, q_fall, q_disk, q_bend, q_writes, q_number, c0, c1, c2, c3, c4, c5, c6, c7, c8, c9, c10, c11, c12, c13, c14, c15, cE, cN, hn, hE0, hE1, hE2, hE3, hE4, hE5, hE6, hE7, Nat.add_assoc]; rfl, ?_⟩
      first
        | (refine ⟨?_, ?_, ?_, fun z h1 h2 => ?_⟩
           · simp only [rs_1, rn_1]; try omega
           · simp only [rs_1, rn_1]; try omega
           · simp only [rs_2, rn_2]; try omega
           · simp (disch := first | omega | (simp only [rs_1, rn_1]; omega)) only [rs_ne, rn_ne])
        | exact Kp.rf
    · refine ⟨_, by simp [↓rb_bind, ↓rb_ob2, rb_zb, rs_1, rs_at, rn_1, rn_at, rd_i_of, rd_i_o, rd_j_of, rd_j_o, rd_r_of, rd_r_o, rd_p_of, rd_p_o, rd_c_of, rd_c_o, rd_k_of, rd_k_n, rd_b_of, rd_b_o, rd_b_n, rd_a_of, rd_a_o, rv_i_i, rv_j_j, rv_r_r, rv_r_n, va_rf, hp_len, hp_ldi, hp_ldb, hp_ldl, hp_ldq, hp_sti, hp_stb, hp_stl, hp_stq, hp_na, hp_new, hp_isq, hp_cpq, hp_cpb, zf, zd, upd_at, updL_at, up_at, nar_0, nar_1, i8_0, i8_1, bX9_number_0, bX9_number_32, fX9_number, lc_fill, nf_0, nf_3, nf_4, nf_5, nf_6, nf_2, nf_7, q_feed, q_cut, q_swap, q_sweep, q_page, q_fall, q_disk, q_bend, q_writes, q_number, c0, c1, c2, c3, c4, c5, c6, c7, c8, c9, c10, c11, c12, c13, c14, c15, cE, cN, hn, hE0, hE1, hE2, hE3, hE4, hE5, hE6, hE7, Nat.add_assoc, e0, e1]; rfl, ?_⟩
      first
        | (refine ⟨?_, ?_, ?_, fun z h1 h2 => ?_⟩
           · simp only [rs_1, rn_1]; try omega
           · simp only [rs_1, rn_1]; try omega
           · simp only [rs_2, rn_2]; try omega
           · simp (disch := first | omega | (simp only [rs_1, rn_1]; omega)) only [rs_ne, rn_ne])
        | exact Kp.rf
set_option maxRecDepth 100000 in
set_option maxHeartbeats 4000000 in
theorem pc_put {E : ah_E} {nx : Nat} {h : ah_H} (F : FrC E nx h) (hn : h.1 = nx + 76) (k : Int64) : ∃ h2, fX9_put E (some nx) k h = some (0, h2) ∧ Kp nx h h2 := by
  obtain ⟨c0, c1, c2, c3, c4, c5, c6, c7, c8, c9, c10, c11, c12, c13, c14, c15, cE, cN, hl, hl2⟩ := F
  have hE0 : ∀ k, (E.1 = nx + k) = False := fun k => eq_false (by omega)
  have hE1 : (E.1 = nx) = False := eq_false (by omega)
  have hE2 : ∀ k, (E.2.1 = nx + k) = False := fun k => eq_false (by omega)
  have hE3 : (E.2.1 = nx) = False := eq_false (by omega)
  have hE4 : ∀ k, (nx + k = E.1) = False := fun k => eq_false (by omega)
  have hE5 : (nx = E.1) = False := eq_false (by omega)
  have hE6 : ∀ k, (nx + k = E.2.1) = False := fun k => eq_false (by omega)
  have hE7 : (nx = E.2.1) = False := eq_false (by omega)
  refine ⟨_, by simp [↓rb_bind, ↓rb_ob2, rb_zb, rs_1, rs_at, rn_1, rn_at, rd_i_of, rd_i_o, rd_j_of, rd_j_o, rd_r_of, rd_r_o, rd_p_of, rd_p_o, rd_c_of, rd_c_o, rd_k_of, rd_k_n, rd_b_of, rd_b_o, rd_b_n, rd_a_of, rd_a_o, rv_i_i, rv_j_j, rv_r_r, rv_r_n, va_rf, hp_len, hp_ldi, hp_ldb, hp_ldl, hp_ldq, hp_sti, hp_stb, hp_stl, hp_stq, hp_na, hp_new, hp_isq, hp_cpq, hp_cpb, zf, zd, upd_at, updL_at, up_at, nar_0, nar_1, i8_0, i8_1, bJ15_checkIndex_7cf53_0, bJ3_checkIndex_8e157_0, bJ3_checkIndex_8e157_9, bJ7_checkLength_df160_0, bJ7_copyOfRangeByte_39247_0, bJ7_copyOfRange_39247_0, bJ7_copyOfRange_39247_10, bJ7_copyOf_1904c_0, bJ7_copyOf_6403c_0, bJ7_copyOf_9075b_0, bJ8_hugeLength_7cf53_0, bJ8_newLength_cabcc_0, bJ8_newLength_cabcc_21, bJ9_max_7cf53_0, bJ9_max_7cf53_10, bJ9_max_f86c9_0, bJ9_max_f86c9_11, bJ9_min_7cf53_0, bJ9_min_7cf53_10, bJ9_min_f86c9_0, bJ9_min_f86c9_11, bJx4a65c_add_72be8_0, bJx4a65c_add_72be8_11, bJx4a65c_add_7a177_0, bJx4a65c_add_7a177_38, bJx4a65c_add_9ea2d_0, bJx4a65c_clear_da8c8_0, bJx4a65c_elementData_915e3_0, bJx4a65c_fastRemove_b59b0_0, bJx4a65c_fastRemove_b59b0_34, bJx4a65c_get_915e3_0, bJx4a65c_grow_92f84_0, bJx4a65c_grow_92f84_20, bJx4a65c_grow_d5877_0, bJx4a65c_init_da8c8_0, bJx4a65c_isEmpty_aae02_0, bJx4a65c_isEmpty_aae02_12, bJx4a65c_rangeCheckForAdd_d00df_0, bJx4a65c_rangeCheckForAdd_d00df_12, bJx4a65c_remove_915e3_0, bJx4a65c_set_bcc79_0, bJx4a65c_size_8abf5_0, bJxa1e45_init_da8c8_0, bJxc12de_init_da8c8_0, bX1_act_0, bX1_act_127, bX1_act_25, bX1_act_67, bX1_firstNotBelow_0, bX1_firstNotBelow_67, bX1_firstNotBelow_73, bX1_hasAt_0, bX1_hasAt_38, bX1_hasAt_39, bX1_init_0, bX1_isChangedBy_0, bX1_isChangedBy_60, bX1_removeFrom_0, bX1_removeFrom_64, bX1_rowOf_0, bX1_rowOf_33, bX2_init_0, bX4_changes_0, bX4_changes_16, bX4_changes_30, bX4_changes_39, bX4_changes_55, bX4_changes_85, bX4_changes_92, bX4_init_0, bX4_meets_0, bX4_meets_22, bX4_meets_23, bX4_rowAfter_0, bX4_rowAfter_16, bX4_rowAfter_30, bX5_copyInto_0, bX5_copyInto_103, bX5_copyInto_56, bX5_fullestKid_0, bX5_fullestKid_53, bX5_init_0, bX5_isChangedBy_0, bX5_isChangedBy_35, bX5_isLeaf_0, bX5_isTooBig_0, bX5_isTooBig_17, bX5_isTooBig_25, bX5_lastKeyOf_0, bX5_lastKeyOf_37, bX5_lettersFrom_0, bX5_lettersFrom_52, bX5_moveLetters_0, bX5_moveLetters_69, bX5_moveLetters_77, bX5_opened_0, bX5_partKid_0, bX5_partKid_32, bX5_partKid_58, bX5_partOf_0, bX5_partOf_58, bX5_partOf_59, bX5_takeInParts_0, bX5_takeInParts_85, bX5_takeIn_0, bX5_takeIn_63, bX5_width_0, bX7_part_0, bX7_part_17, bX8_give_0, bX8_give_63, bX8_partRoot_0, bX8_partRoot_64, bX8_sinkPage_0, bX8_sinkPage_22, bX9_put_0, bX9_put_18, bX9_put_44, bX9_writeRefusal_0, bX9_writeRefusal_33, bX9_write_0, bX9_write_25, bX9_write_63, fJ15_checkIndex_7cf53, fJ3_checkIndex_8e157, fJ7_checkLength_df160, fJ7_copyOfRangeByte_39247, fJ7_copyOfRange_39247, fJ7_copyOf_1904c, fJ7_copyOf_6403c, fJ7_copyOf_9075b, fJ8_hugeLength_7cf53, fJ8_newLength_cabcc, fJ9_max_7cf53, fJ9_max_f86c9, fJ9_min_7cf53, fJ9_min_f86c9, fJx4a65c_add_72be8, fJx4a65c_add_7a177, fJx4a65c_add_9ea2d, fJx4a65c_clear_da8c8, fJx4a65c_elementData_915e3, fJx4a65c_fastRemove_b59b0, fJx4a65c_get_915e3, fJx4a65c_grow_92f84, fJx4a65c_grow_d5877, fJx4a65c_init_da8c8, fJx4a65c_isEmpty_aae02, fJx4a65c_rangeCheckForAdd_d00df, fJx4a65c_remove_915e3, fJx4a65c_set_bcc79, fJx4a65c_size_8abf5, fJxa1e45_init_da8c8, fJxc12de_init_da8c8, fX1_act, fX1_firstNotBelow, fX1_hasAt, fX1_init, fX1_isChangedBy, fX1_removeFrom, fX1_rowOf, fX2_init, fX4_changes, fX4_init, fX4_meets, fX4_rowAfter, fX5_copyInto, fX5_fullestKid, fX5_init, fX5_isChangedBy, fX5_isLeaf, fX5_isTooBig, fX5_lastKeyOf, fX5_lettersFrom, fX5_moveLetters, fX5_opened, fX5_partKid, fX5_partOf, fX5_takeIn, fX5_takeInParts, fX5_width, fX7_part, fX8_partRoot, fX8_sinkPage, fX9_put, fX9_write, fX9_writeRefusal, gX8_give, u_bJx4a65c_clear_da8c8_27, u_bX1_firstNotBelow_14, u_bX1_removeFrom_12, u_bX4_changes_58, u_bX4_rowAfter_59, u_bX5_copyInto_3, u_bX5_copyInto_59, u_bX5_fullestKid_6, u_bX5_isChangedBy_2, u_bX5_lettersFrom_6, u_bX5_moveLetters_12, u_bX5_moveLetters_93, u_bX5_opened_41, u_bX5_partKid_90, u_bX5_takeInParts_2, u_bX5_takeIn_2, u_bX8_give_32, u_bX8_partRoot_2, u_fX8_give, lc_fill, nf_0, nf_3, nf_4, nf_5, nf_6, nf_2, nf_7, q_feed, q_cut, q_swap, q_sweep, q_page, q_fall, q_disk, q_bend, q_writes, q_number, c0, c1, c2, c3, c4, c5, c6, c7, c8, c9, c10, c11, c12, c13, c14, c15, cE, cN, hn, hE0, hE1, hE2, hE3, hE4, hE5, hE6, hE7, Nat.add_assoc]; rfl, ?_⟩
  first
    | (refine ⟨?_, ?_, ?_, fun z h1 h2 => ?_⟩
       · simp only [rs_1, rn_1]; try omega
       · simp only [rs_1, rn_1]; try omega
       · simp only [rs_2, rn_2]; try omega
       · simp (disch := first | omega | (simp only [rs_1, rn_1]; omega)) only [rs_ne, rn_ne])
    | exact Kp.rf
set_option maxRecDepth 100000 in
set_option maxHeartbeats 4000000 in
theorem pc_append {E : ah_E} {nx : Nat} {h : ah_H} (F : FrC E nx h) (hn : h.1 = nx + 76) (k : Int64) : ∃ h2, fX9_append E (some nx) k h = some (0, h2) ∧ Kp nx h h2 := by
  obtain ⟨c0, c1, c2, c3, c4, c5, c6, c7, c8, c9, c10, c11, c12, c13, c14, c15, cE, cN, hl, hl2⟩ := F
  have hE0 : ∀ k, (E.1 = nx + k) = False := fun k => eq_false (by omega)
  have hE1 : (E.1 = nx) = False := eq_false (by omega)
  have hE2 : ∀ k, (E.2.1 = nx + k) = False := fun k => eq_false (by omega)
  have hE3 : (E.2.1 = nx) = False := eq_false (by omega)
  have hE4 : ∀ k, (nx + k = E.1) = False := fun k => eq_false (by omega)
  have hE5 : (nx = E.1) = False := eq_false (by omega)
  have hE6 : ∀ k, (nx + k = E.2.1) = False := fun k => eq_false (by omega)
  have hE7 : (nx = E.2.1) = False := eq_false (by omega)
  refine ⟨_, by simp [↓rb_bind, ↓rb_ob2, rb_zb, rs_1, rs_at, rn_1, rn_at, rd_i_of, rd_i_o, rd_j_of, rd_j_o, rd_r_of, rd_r_o, rd_p_of, rd_p_o, rd_c_of, rd_c_o, rd_k_of, rd_k_n, rd_b_of, rd_b_o, rd_b_n, rd_a_of, rd_a_o, rv_i_i, rv_j_j, rv_r_r, rv_r_n, va_rf, hp_len, hp_ldi, hp_ldb, hp_ldl, hp_ldq, hp_sti, hp_stb, hp_stl, hp_stq, hp_na, hp_new, hp_isq, hp_cpq, hp_cpb, zf, zd, upd_at, updL_at, up_at, nar_0, nar_1, i8_0, i8_1, bJ15_checkIndex_7cf53_0, bJ3_checkIndex_8e157_0, bJ3_checkIndex_8e157_9, bJ7_checkLength_df160_0, bJ7_copyOfRangeByte_39247_0, bJ7_copyOfRange_39247_0, bJ7_copyOfRange_39247_10, bJ7_copyOf_1904c_0, bJ7_copyOf_6403c_0, bJ7_copyOf_9075b_0, bJ8_hugeLength_7cf53_0, bJ8_newLength_cabcc_0, bJ8_newLength_cabcc_21, bJ9_max_7cf53_0, bJ9_max_7cf53_10, bJ9_max_f86c9_0, bJ9_max_f86c9_11, bJ9_min_7cf53_0, bJ9_min_7cf53_10, bJ9_min_f86c9_0, bJ9_min_f86c9_11, bJx4a65c_add_72be8_0, bJx4a65c_add_72be8_11, bJx4a65c_add_7a177_0, bJx4a65c_add_7a177_38, bJx4a65c_add_9ea2d_0, bJx4a65c_clear_da8c8_0, bJx4a65c_elementData_915e3_0, bJx4a65c_fastRemove_b59b0_0, bJx4a65c_fastRemove_b59b0_34, bJx4a65c_get_915e3_0, bJx4a65c_grow_92f84_0, bJx4a65c_grow_92f84_20, bJx4a65c_grow_d5877_0, bJx4a65c_init_da8c8_0, bJx4a65c_isEmpty_aae02_0, bJx4a65c_isEmpty_aae02_12, bJx4a65c_rangeCheckForAdd_d00df_0, bJx4a65c_rangeCheckForAdd_d00df_12, bJx4a65c_remove_915e3_0, bJx4a65c_set_bcc79_0, bJx4a65c_size_8abf5_0, bJxa1e45_init_da8c8_0, bJxc12de_init_da8c8_0, bX1_act_0, bX1_act_127, bX1_act_25, bX1_act_67, bX1_firstNotBelow_0, bX1_firstNotBelow_67, bX1_firstNotBelow_73, bX1_hasAt_0, bX1_hasAt_38, bX1_hasAt_39, bX1_init_0, bX1_isChangedBy_0, bX1_isChangedBy_60, bX1_removeFrom_0, bX1_removeFrom_64, bX1_rowOf_0, bX1_rowOf_33, bX2_init_0, bX4_changes_0, bX4_changes_16, bX4_changes_30, bX4_changes_39, bX4_changes_55, bX4_changes_85, bX4_changes_92, bX4_init_0, bX4_meets_0, bX4_meets_22, bX4_meets_23, bX4_rowAfter_0, bX4_rowAfter_16, bX4_rowAfter_30, bX5_copyInto_0, bX5_copyInto_103, bX5_copyInto_56, bX5_fullestKid_0, bX5_fullestKid_53, bX5_init_0, bX5_isChangedBy_0, bX5_isChangedBy_35, bX5_isLeaf_0, bX5_isTooBig_0, bX5_isTooBig_17, bX5_isTooBig_25, bX5_lastKeyOf_0, bX5_lastKeyOf_37, bX5_lettersFrom_0, bX5_lettersFrom_52, bX5_moveLetters_0, bX5_moveLetters_69, bX5_moveLetters_77, bX5_opened_0, bX5_partKid_0, bX5_partKid_32, bX5_partKid_58, bX5_partOf_0, bX5_partOf_58, bX5_partOf_59, bX5_takeInParts_0, bX5_takeInParts_85, bX5_takeIn_0, bX5_takeIn_63, bX5_width_0, bX7_part_0, bX7_part_17, bX8_give_0, bX8_give_63, bX8_partRoot_0, bX8_partRoot_64, bX8_sinkPage_0, bX8_sinkPage_22, bX9_append_0, bX9_append_18, bX9_append_59, bX9_writeRefusal_0, bX9_writeRefusal_33, bX9_write_0, bX9_write_25, bX9_write_63, fJ15_checkIndex_7cf53, fJ3_checkIndex_8e157, fJ7_checkLength_df160, fJ7_copyOfRangeByte_39247, fJ7_copyOfRange_39247, fJ7_copyOf_1904c, fJ7_copyOf_6403c, fJ7_copyOf_9075b, fJ8_hugeLength_7cf53, fJ8_newLength_cabcc, fJ9_max_7cf53, fJ9_max_f86c9, fJ9_min_7cf53, fJ9_min_f86c9, fJx4a65c_add_72be8, fJx4a65c_add_7a177, fJx4a65c_add_9ea2d, fJx4a65c_clear_da8c8, fJx4a65c_elementData_915e3, fJx4a65c_fastRemove_b59b0, fJx4a65c_get_915e3, fJx4a65c_grow_92f84, fJx4a65c_grow_d5877, fJx4a65c_init_da8c8, fJx4a65c_isEmpty_aae02, fJx4a65c_rangeCheckForAdd_d00df, fJx4a65c_remove_915e3, fJx4a65c_set_bcc79, fJx4a65c_size_8abf5, fJxa1e45_init_da8c8, fJxc12de_init_da8c8, fX1_act, fX1_firstNotBelow, fX1_hasAt, fX1_init, fX1_isChangedBy, fX1_removeFrom, fX1_rowOf, fX2_init, fX4_changes, fX4_init, fX4_meets, fX4_rowAfter, fX5_copyInto, fX5_fullestKid, fX5_init, fX5_isChangedBy, fX5_isLeaf, fX5_isTooBig, fX5_lastKeyOf, fX5_lettersFrom, fX5_moveLetters, fX5_opened, fX5_partKid, fX5_partOf, fX5_takeIn, fX5_takeInParts, fX5_width, fX7_part, fX8_partRoot, fX8_sinkPage, fX9_append, fX9_write, fX9_writeRefusal, gX8_give, u_bJx4a65c_clear_da8c8_27, u_bX1_firstNotBelow_14, u_bX1_removeFrom_12, u_bX4_changes_58, u_bX4_rowAfter_59, u_bX5_copyInto_3, u_bX5_copyInto_59, u_bX5_fullestKid_6, u_bX5_isChangedBy_2, u_bX5_lettersFrom_6, u_bX5_moveLetters_12, u_bX5_moveLetters_93, u_bX5_opened_41, u_bX5_partKid_90, u_bX5_takeInParts_2, u_bX5_takeIn_2, u_bX8_give_32, u_bX8_partRoot_2, u_fX8_give, lc_fill, nf_0, nf_3, nf_4, nf_5, nf_6, nf_2, nf_7, q_feed, q_cut, q_swap, q_sweep, q_page, q_fall, q_disk, q_bend, q_writes, q_number, c0, c1, c2, c3, c4, c5, c6, c7, c8, c9, c10, c11, c12, c13, c14, c15, cE, cN, hn, hE0, hE1, hE2, hE3, hE4, hE5, hE6, hE7, Nat.add_assoc]; rfl, ?_⟩
  first
    | (refine ⟨?_, ?_, ?_, fun z h1 h2 => ?_⟩
       · simp only [rs_1, rn_1]; try omega
       · simp only [rs_1, rn_1]; try omega
       · simp only [rs_2, rn_2]; try omega
       · simp (disch := first | omega | (simp only [rs_1, rn_1]; omega)) only [rs_ne, rn_ne])
    | exact Kp.rf
set_option maxRecDepth 100000 in
set_option maxHeartbeats 4000000 in
theorem pc_swap {E : ah_E} {nx : Nat} {h : ah_H} (F : FrC E nx h) (hn : h.1 = nx + 76) (k : Int64) (n : Int32) : ∃ h2, fX9_swap E (some nx) k n h = some (q_swap n, h2) ∧ Kp nx h h2 := by
  obtain ⟨c0, c1, c2, c3, c4, c5, c6, c7, c8, c9, c10, c11, c12, c13, c14, c15, cE, cN, hl, hl2⟩ := F
  have hE0 : ∀ k, (E.1 = nx + k) = False := fun k => eq_false (by omega)
  have hE1 : (E.1 = nx) = False := eq_false (by omega)
  have hE2 : ∀ k, (E.2.1 = nx + k) = False := fun k => eq_false (by omega)
  have hE3 : (E.2.1 = nx) = False := eq_false (by omega)
  have hE4 : ∀ k, (nx + k = E.1) = False := fun k => eq_false (by omega)
  have hE5 : (nx = E.1) = False := eq_false (by omega)
  have hE6 : ∀ k, (nx + k = E.2.1) = False := fun k => eq_false (by omega)
  have hE7 : (nx = E.2.1) = False := eq_false (by omega)
  by_cases e0 : n = 0
  · subst e0
    refine ⟨_, by simp [↓rb_bind, ↓rb_ob2, rb_zb, rs_1, rs_at, rn_1, rn_at, rd_i_of, rd_i_o, rd_j_of, rd_j_o, rd_r_of, rd_r_o, rd_p_of, rd_p_o, rd_c_of, rd_c_o, rd_k_of, rd_k_n, rd_b_of, rd_b_o, rd_b_n, rd_a_of, rd_a_o, rv_i_i, rv_j_j, rv_r_r, rv_r_n, va_rf, hp_len, hp_ldi, hp_ldb, hp_ldl, hp_ldq, hp_sti, hp_stb, hp_stl, hp_stq, hp_na, hp_new, hp_isq, hp_cpq, hp_cpb, zf, zd, upd_at, updL_at, up_at, nar_0, nar_1, i8_0, i8_1, bJ15_checkIndex_7cf53_0, bJ3_checkIndex_8e157_0, bJ3_checkIndex_8e157_9, bJ7_checkLength_df160_0, bJ7_copyOfRangeByte_39247_0, bJ7_copyOfRange_39247_0, bJ7_copyOfRange_39247_10, bJ7_copyOf_1904c_0, bJ7_copyOf_6403c_0, bJ7_copyOf_9075b_0, bJ8_hugeLength_7cf53_0, bJ8_newLength_cabcc_0, bJ8_newLength_cabcc_21, bJ9_max_7cf53_0, bJ9_max_7cf53_10, bJ9_max_f86c9_0, bJ9_max_f86c9_11, bJ9_min_7cf53_0, bJ9_min_7cf53_10, bJ9_min_f86c9_0, bJ9_min_f86c9_11, bJx4a65c_add_72be8_0, bJx4a65c_add_72be8_11, bJx4a65c_add_7a177_0, bJx4a65c_add_7a177_38, bJx4a65c_add_9ea2d_0, bJx4a65c_clear_da8c8_0, bJx4a65c_elementData_915e3_0, bJx4a65c_fastRemove_b59b0_0, bJx4a65c_fastRemove_b59b0_34, bJx4a65c_get_915e3_0, bJx4a65c_grow_92f84_0, bJx4a65c_grow_92f84_20, bJx4a65c_grow_d5877_0, bJx4a65c_init_da8c8_0, bJx4a65c_isEmpty_aae02_0, bJx4a65c_isEmpty_aae02_12, bJx4a65c_rangeCheckForAdd_d00df_0, bJx4a65c_rangeCheckForAdd_d00df_12, bJx4a65c_remove_915e3_0, bJx4a65c_set_bcc79_0, bJx4a65c_size_8abf5_0, bJxa1e45_init_da8c8_0, bJxc12de_init_da8c8_0, bX1_act_0, bX1_act_127, bX1_act_25, bX1_act_67, bX1_firstNotBelow_0, bX1_firstNotBelow_67, bX1_firstNotBelow_73, bX1_hasAt_0, bX1_hasAt_38, bX1_hasAt_39, bX1_init_0, bX1_isChangedBy_0, bX1_isChangedBy_60, bX1_removeFrom_0, bX1_removeFrom_64, bX2_init_0, bX4_changes_0, bX4_changes_16, bX4_changes_30, bX4_changes_39, bX4_changes_55, bX4_changes_85, bX4_changes_92, bX4_init_0, bX4_meets_0, bX4_meets_22, bX4_meets_23, bX4_rowAfter_0, bX4_rowAfter_16, bX4_rowAfter_30, bX5_copyInto_0, bX5_copyInto_103, bX5_copyInto_56, bX5_fullestKid_0, bX5_fullestKid_53, bX5_init_0, bX5_isChangedBy_0, bX5_isChangedBy_35, bX5_isLeaf_0, bX5_isTooBig_0, bX5_isTooBig_17, bX5_isTooBig_25, bX5_lastKeyOf_0, bX5_lastKeyOf_37, bX5_lettersFrom_0, bX5_lettersFrom_52, bX5_moveLetters_0, bX5_moveLetters_69, bX5_moveLetters_77, bX5_opened_0, bX5_partKid_0, bX5_partKid_32, bX5_partKid_58, bX5_partOf_0, bX5_partOf_58, bX5_partOf_59, bX5_takeInParts_0, bX5_takeInParts_85, bX5_takeIn_0, bX5_takeIn_63, bX5_width_0, bX7_part_0, bX7_part_17, bX8_give_0, bX8_give_63, bX8_partRoot_0, bX8_partRoot_64, bX8_sinkPage_0, bX8_sinkPage_22, bX9_swap_0, bX9_swap_35, bX9_swap_40, bX9_writeRefusal_0, bX9_writeRefusal_33, bX9_write_0, bX9_write_25, bX9_write_63, fJ15_checkIndex_7cf53, fJ3_checkIndex_8e157, fJ7_checkLength_df160, fJ7_copyOfRangeByte_39247, fJ7_copyOfRange_39247, fJ7_copyOf_1904c, fJ7_copyOf_6403c, fJ7_copyOf_9075b, fJ8_hugeLength_7cf53, fJ8_newLength_cabcc, fJ9_max_7cf53, fJ9_max_f86c9, fJ9_min_7cf53, fJ9_min_f86c9, fJx4a65c_add_72be8, fJx4a65c_add_7a177, fJx4a65c_add_9ea2d, fJx4a65c_clear_da8c8, fJx4a65c_elementData_915e3, fJx4a65c_fastRemove_b59b0, fJx4a65c_get_915e3, fJx4a65c_grow_92f84, fJx4a65c_grow_d5877, fJx4a65c_init_da8c8, fJx4a65c_isEmpty_aae02, fJx4a65c_rangeCheckForAdd_d00df, fJx4a65c_remove_915e3, fJx4a65c_set_bcc79, fJx4a65c_size_8abf5, fJxa1e45_init_da8c8, fJxc12de_init_da8c8, fX1_act, fX1_firstNotBelow, fX1_hasAt, fX1_init, fX1_isChangedBy, fX1_removeFrom, fX2_init, fX4_changes, fX4_init, fX4_meets, fX4_rowAfter, fX5_copyInto, fX5_fullestKid, fX5_init, fX5_isChangedBy, fX5_isLeaf, fX5_isTooBig, fX5_lastKeyOf, fX5_lettersFrom, fX5_moveLetters, fX5_opened, fX5_partKid, fX5_partOf, fX5_takeIn, fX5_takeInParts, fX5_width, fX7_part, fX8_partRoot, fX8_sinkPage, fX9_swap, fX9_write, fX9_writeRefusal, gX8_give, u_bJx4a65c_clear_da8c8_27, u_bX1_firstNotBelow_14, u_bX1_removeFrom_12, u_bX4_changes_58, u_bX4_rowAfter_59, u_bX5_copyInto_3, u_bX5_copyInto_59, u_bX5_fullestKid_6, u_bX5_isChangedBy_2, u_bX5_lettersFrom_6, u_bX5_moveLetters_12, u_bX5_moveLetters_93, u_bX5_opened_41, u_bX5_partKid_90, u_bX5_takeInParts_2, u_bX5_takeIn_2, u_bX8_give_32, u_bX8_partRoot_2, u_fX8_give, lc_fill, nf_0, nf_3, nf_4, nf_5, nf_6, nf_2, nf_7, q_feed, q_cut, q_swap, q_sweep, q_page, q_fall, q_disk, q_bend, q_writes, q_number, c0, c1, c2, c3, c4, c5, c6, c7, c8, c9, c10, c11, c12, c13, c14, c15, cE, cN, hn, hE0, hE1, hE2, hE3, hE4, hE5, hE6, hE7, Nat.add_assoc]; rfl, ?_⟩
    first
      | (refine ⟨?_, ?_, ?_, fun z h1 h2 => ?_⟩
         · simp only [rs_1, rn_1]; try omega
         · simp only [rs_1, rn_1]; try omega
         · simp only [rs_2, rn_2]; try omega
         · simp (disch := first | omega | (simp only [rs_1, rn_1]; omega)) only [rs_ne, rn_ne])
      | exact Kp.rf
  · by_cases e1 : n < 0
    · refine ⟨_, by simp [↓rb_bind, ↓rb_ob2, rb_zb, rs_1, rs_at, rn_1, rn_at, rd_i_of, rd_i_o, rd_j_of, rd_j_o, rd_r_of, rd_r_o, rd_p_of, rd_p_o, rd_c_of, rd_c_o, rd_k_of, rd_k_n, rd_b_of, rd_b_o, rd_b_n, rd_a_of, rd_a_o, rv_i_i, rv_j_j, rv_r_r, rv_r_n, va_rf, hp_len, hp_ldi, hp_ldb, hp_ldl, hp_ldq, hp_sti, hp_stb, hp_stl, hp_stq, hp_na, hp_new, hp_isq, hp_cpq, hp_cpb, zf, zd, upd_at, updL_at, up_at, nar_0, nar_1, i8_0, i8_1, bJ15_checkIndex_7cf53_0, bJ3_checkIndex_8e157_0, bJ3_checkIndex_8e157_9, bJ7_checkLength_df160_0, bJ7_copyOfRangeByte_39247_0, bJ7_copyOfRange_39247_0, bJ7_copyOfRange_39247_10, bJ7_copyOf_1904c_0, bJ7_copyOf_6403c_0, bJ7_copyOf_9075b_0, bJ8_hugeLength_7cf53_0, bJ8_newLength_cabcc_0, bJ8_newLength_cabcc_21, bJ9_max_7cf53_0, bJ9_max_7cf53_10, bJ9_max_f86c9_0, bJ9_max_f86c9_11, bJ9_min_7cf53_0, bJ9_min_7cf53_10, bJ9_min_f86c9_0, bJ9_min_f86c9_11, bJx4a65c_add_72be8_0, bJx4a65c_add_72be8_11, bJx4a65c_add_7a177_0, bJx4a65c_add_7a177_38, bJx4a65c_add_9ea2d_0, bJx4a65c_clear_da8c8_0, bJx4a65c_elementData_915e3_0, bJx4a65c_fastRemove_b59b0_0, bJx4a65c_fastRemove_b59b0_34, bJx4a65c_get_915e3_0, bJx4a65c_grow_92f84_0, bJx4a65c_grow_92f84_20, bJx4a65c_grow_d5877_0, bJx4a65c_init_da8c8_0, bJx4a65c_isEmpty_aae02_0, bJx4a65c_isEmpty_aae02_12, bJx4a65c_rangeCheckForAdd_d00df_0, bJx4a65c_rangeCheckForAdd_d00df_12, bJx4a65c_remove_915e3_0, bJx4a65c_set_bcc79_0, bJx4a65c_size_8abf5_0, bJxa1e45_init_da8c8_0, bJxc12de_init_da8c8_0, bX1_act_0, bX1_act_127, bX1_act_25, bX1_act_67, bX1_firstNotBelow_0, bX1_firstNotBelow_67, bX1_firstNotBelow_73, bX1_hasAt_0, bX1_hasAt_38, bX1_hasAt_39, bX1_init_0, bX1_isChangedBy_0, bX1_isChangedBy_60, bX1_removeFrom_0, bX1_removeFrom_64, bX2_init_0, bX4_changes_0, bX4_changes_16, bX4_changes_30, bX4_changes_39, bX4_changes_55, bX4_changes_85, bX4_changes_92, bX4_init_0, bX4_meets_0, bX4_meets_22, bX4_meets_23, bX4_rowAfter_0, bX4_rowAfter_16, bX4_rowAfter_30, bX5_copyInto_0, bX5_copyInto_103, bX5_copyInto_56, bX5_fullestKid_0, bX5_fullestKid_53, bX5_init_0, bX5_isChangedBy_0, bX5_isChangedBy_35, bX5_isLeaf_0, bX5_isTooBig_0, bX5_isTooBig_17, bX5_isTooBig_25, bX5_lastKeyOf_0, bX5_lastKeyOf_37, bX5_lettersFrom_0, bX5_lettersFrom_52, bX5_moveLetters_0, bX5_moveLetters_69, bX5_moveLetters_77, bX5_opened_0, bX5_partKid_0, bX5_partKid_32, bX5_partKid_58, bX5_partOf_0, bX5_partOf_58, bX5_partOf_59, bX5_takeInParts_0, bX5_takeInParts_85, bX5_takeIn_0, bX5_takeIn_63, bX5_width_0, bX7_part_0, bX7_part_17, bX8_give_0, bX8_give_63, bX8_partRoot_0, bX8_partRoot_64, bX8_sinkPage_0, bX8_sinkPage_22, bX9_swap_0, bX9_swap_35, bX9_swap_40, bX9_writeRefusal_0, bX9_writeRefusal_33, bX9_write_0, bX9_write_25, bX9_write_63, fJ15_checkIndex_7cf53, fJ3_checkIndex_8e157, fJ7_checkLength_df160, fJ7_copyOfRangeByte_39247, fJ7_copyOfRange_39247, fJ7_copyOf_1904c, fJ7_copyOf_6403c, fJ7_copyOf_9075b, fJ8_hugeLength_7cf53, fJ8_newLength_cabcc, fJ9_max_7cf53, fJ9_max_f86c9, fJ9_min_7cf53, fJ9_min_f86c9, fJx4a65c_add_72be8, fJx4a65c_add_7a177, fJx4a65c_add_9ea2d, fJx4a65c_clear_da8c8, fJx4a65c_elementData_915e3, fJx4a65c_fastRemove_b59b0, fJx4a65c_get_915e3, fJx4a65c_grow_92f84, fJx4a65c_grow_d5877, fJx4a65c_init_da8c8, fJx4a65c_isEmpty_aae02, fJx4a65c_rangeCheckForAdd_d00df, fJx4a65c_remove_915e3, fJx4a65c_set_bcc79, fJx4a65c_size_8abf5, fJxa1e45_init_da8c8, fJxc12de_init_da8c8, fX1_act, fX1_firstNotBelow, fX1_hasAt, fX1_init, fX1_isChangedBy, fX1_removeFrom, fX2_init, fX4_changes, fX4_init, fX4_meets, fX4_rowAfter, fX5_copyInto, fX5_fullestKid, fX5_init, fX5_isChangedBy, fX5_isLeaf, fX5_isTooBig, fX5_lastKeyOf, fX5_lettersFrom, fX5_moveLetters, fX5_opened, fX5_partKid, fX5_partOf, fX5_takeIn, fX5_takeInParts, fX5_width, fX7_part, fX8_partRoot, fX8_sinkPage, fX9_swap, fX9_write, fX9_writeRefusal, gX8_give, u_bJx4a65c_clear_da8c8_27, u_bX1_firstNotBelow_14, u_bX1_removeFrom_12, u_bX4_changes_58, u_bX4_rowAfter_59, u_bX5_copyInto_3, u_bX5_copyInto_59, u_bX5_fullestKid_6, u_bX5_isChangedBy_2, u_bX5_lettersFrom_6, u_bX5_moveLetters_12, u_bX5_moveLetters_93, u_bX5_opened_41, u_bX5_partKid_90, u_bX5_takeInParts_2, u_bX5_takeIn_2, u_bX8_give_32, u_bX8_partRoot_2, u_fX8_give, lc_fill, nf_0, nf_3, nf_4, nf_5, nf_6, nf_2, nf_7, q_feed, q_cut, q_swap, q_sweep, q_page, q_fall, q_disk, q_bend, q_writes, q_number, c0, c1, c2, c3, c4, c5, c6, c7, c8, c9, c10, c11, c12, c13, c14, c15, cE, cN, hn, hE0, hE1, hE2, hE3, hE4, hE5, hE6, hE7, Nat.add_assoc, e0, e1]; rfl, ?_⟩
      first
        | (refine ⟨?_, ?_, ?_, fun z h1 h2 => ?_⟩
           · simp only [rs_1, rn_1]; try omega
           · simp only [rs_1, rn_1]; try omega
           · simp only [rs_2, rn_2]; try omega
           · simp (disch := first | omega | (simp only [rs_1, rn_1]; omega)) only [rs_ne, rn_ne])
        | exact Kp.rf
    · have e2 : 0 < n := i32_pos e0 e1
      refine ⟨_, by simp [↓rb_bind, ↓rb_ob2, rb_zb, rs_1, rs_at, rn_1, rn_at, rd_i_of, rd_i_o, rd_j_of, rd_j_o, rd_r_of, rd_r_o, rd_p_of, rd_p_o, rd_c_of, rd_c_o, rd_k_of, rd_k_n, rd_b_of, rd_b_o, rd_b_n, rd_a_of, rd_a_o, rv_i_i, rv_j_j, rv_r_r, rv_r_n, va_rf, hp_len, hp_ldi, hp_ldb, hp_ldl, hp_ldq, hp_sti, hp_stb, hp_stl, hp_stq, hp_na, hp_new, hp_isq, hp_cpq, hp_cpb, zf, zd, upd_at, updL_at, up_at, nar_0, nar_1, i8_0, i8_1, bJ15_checkIndex_7cf53_0, bJ3_checkIndex_8e157_0, bJ3_checkIndex_8e157_9, bJ7_checkLength_df160_0, bJ7_copyOfRangeByte_39247_0, bJ7_copyOfRange_39247_0, bJ7_copyOfRange_39247_10, bJ7_copyOf_1904c_0, bJ7_copyOf_6403c_0, bJ7_copyOf_9075b_0, bJ8_hugeLength_7cf53_0, bJ8_newLength_cabcc_0, bJ8_newLength_cabcc_21, bJ9_max_7cf53_0, bJ9_max_7cf53_10, bJ9_max_f86c9_0, bJ9_max_f86c9_11, bJ9_min_7cf53_0, bJ9_min_7cf53_10, bJ9_min_f86c9_0, bJ9_min_f86c9_11, bJx4a65c_add_72be8_0, bJx4a65c_add_72be8_11, bJx4a65c_add_7a177_0, bJx4a65c_add_7a177_38, bJx4a65c_add_9ea2d_0, bJx4a65c_clear_da8c8_0, bJx4a65c_elementData_915e3_0, bJx4a65c_fastRemove_b59b0_0, bJx4a65c_fastRemove_b59b0_34, bJx4a65c_get_915e3_0, bJx4a65c_grow_92f84_0, bJx4a65c_grow_92f84_20, bJx4a65c_grow_d5877_0, bJx4a65c_init_da8c8_0, bJx4a65c_isEmpty_aae02_0, bJx4a65c_isEmpty_aae02_12, bJx4a65c_rangeCheckForAdd_d00df_0, bJx4a65c_rangeCheckForAdd_d00df_12, bJx4a65c_remove_915e3_0, bJx4a65c_set_bcc79_0, bJx4a65c_size_8abf5_0, bJxa1e45_init_da8c8_0, bJxc12de_init_da8c8_0, bX1_act_0, bX1_act_127, bX1_act_25, bX1_act_67, bX1_firstNotBelow_0, bX1_firstNotBelow_67, bX1_firstNotBelow_73, bX1_hasAt_0, bX1_hasAt_38, bX1_hasAt_39, bX1_init_0, bX1_isChangedBy_0, bX1_isChangedBy_60, bX1_removeFrom_0, bX1_removeFrom_64, bX2_init_0, bX4_changes_0, bX4_changes_16, bX4_changes_30, bX4_changes_39, bX4_changes_55, bX4_changes_85, bX4_changes_92, bX4_init_0, bX4_meets_0, bX4_meets_22, bX4_meets_23, bX4_rowAfter_0, bX4_rowAfter_16, bX4_rowAfter_30, bX5_copyInto_0, bX5_copyInto_103, bX5_copyInto_56, bX5_fullestKid_0, bX5_fullestKid_53, bX5_init_0, bX5_isChangedBy_0, bX5_isChangedBy_35, bX5_isLeaf_0, bX5_isTooBig_0, bX5_isTooBig_17, bX5_isTooBig_25, bX5_lastKeyOf_0, bX5_lastKeyOf_37, bX5_lettersFrom_0, bX5_lettersFrom_52, bX5_moveLetters_0, bX5_moveLetters_69, bX5_moveLetters_77, bX5_opened_0, bX5_partKid_0, bX5_partKid_32, bX5_partKid_58, bX5_partOf_0, bX5_partOf_58, bX5_partOf_59, bX5_takeInParts_0, bX5_takeInParts_85, bX5_takeIn_0, bX5_takeIn_63, bX5_width_0, bX7_part_0, bX7_part_17, bX8_give_0, bX8_give_63, bX8_partRoot_0, bX8_partRoot_64, bX8_sinkPage_0, bX8_sinkPage_22, bX9_swap_0, bX9_swap_35, bX9_swap_40, bX9_writeRefusal_0, bX9_writeRefusal_33, bX9_write_0, bX9_write_25, bX9_write_63, fJ15_checkIndex_7cf53, fJ3_checkIndex_8e157, fJ7_checkLength_df160, fJ7_copyOfRangeByte_39247, fJ7_copyOfRange_39247, fJ7_copyOf_1904c, fJ7_copyOf_6403c, fJ7_copyOf_9075b, fJ8_hugeLength_7cf53, fJ8_newLength_cabcc, fJ9_max_7cf53, fJ9_max_f86c9, fJ9_min_7cf53, fJ9_min_f86c9, fJx4a65c_add_72be8, fJx4a65c_add_7a177, fJx4a65c_add_9ea2d, fJx4a65c_clear_da8c8, fJx4a65c_elementData_915e3, fJx4a65c_fastRemove_b59b0, fJx4a65c_get_915e3, fJx4a65c_grow_92f84, fJx4a65c_grow_d5877, fJx4a65c_init_da8c8, fJx4a65c_isEmpty_aae02, fJx4a65c_rangeCheckForAdd_d00df, fJx4a65c_remove_915e3, fJx4a65c_set_bcc79, fJx4a65c_size_8abf5, fJxa1e45_init_da8c8, fJxc12de_init_da8c8, fX1_act, fX1_firstNotBelow, fX1_hasAt, fX1_init, fX1_isChangedBy, fX1_removeFrom, fX2_init, fX4_changes, fX4_init, fX4_meets, fX4_rowAfter, fX5_copyInto, fX5_fullestKid, fX5_init, fX5_isChangedBy, fX5_isLeaf, fX5_isTooBig, fX5_lastKeyOf, fX5_lettersFrom, fX5_moveLetters, fX5_opened, fX5_partKid, fX5_partOf, fX5_takeIn, fX5_takeInParts, fX5_width, fX7_part, fX8_partRoot, fX8_sinkPage, fX9_swap, fX9_write, fX9_writeRefusal, gX8_give, u_bJx4a65c_clear_da8c8_27, u_bX1_firstNotBelow_14, u_bX1_removeFrom_12, u_bX4_changes_58, u_bX4_rowAfter_59, u_bX5_copyInto_3, u_bX5_copyInto_59, u_bX5_fullestKid_6, u_bX5_isChangedBy_2, u_bX5_lettersFrom_6, u_bX5_moveLetters_12, u_bX5_moveLetters_93, u_bX5_opened_41, u_bX5_partKid_90, u_bX5_takeInParts_2, u_bX5_takeIn_2, u_bX8_give_32, u_bX8_partRoot_2, u_fX8_give, lc_fill, nf_0, nf_3, nf_4, nf_5, nf_6, nf_2, nf_7, q_feed, q_cut, q_swap, q_sweep, q_page, q_fall, q_disk, q_bend, q_writes, q_number, c0, c1, c2, c3, c4, c5, c6, c7, c8, c9, c10, c11, c12, c13, c14, c15, cE, cN, hn, hE0, hE1, hE2, hE3, hE4, hE5, hE6, hE7, Nat.add_assoc, e0, e1, e2, Int32.not_le.mpr e2]; rfl, ?_⟩
      first
        | (refine ⟨?_, ?_, ?_, fun z h1 h2 => ?_⟩
           · simp only [rs_1, rn_1]; try omega
           · simp only [rs_1, rn_1]; try omega
           · simp only [rs_2, rn_2]; try omega
           · simp (disch := first | omega | (simp only [rs_1, rn_1]; omega)) only [rs_ne, rn_ne])
        | exact Kp.rf
set_option maxRecDepth 100000 in
set_option maxHeartbeats 4000000 in
theorem pc_drop {E : ah_E} {nx : Nat} {h : ah_H} (F : FrC E nx h) (hn : h.1 = nx + 76) (k : Int64) : ∃ h2, fX9_drop E (some nx) k h = some (0, h2) ∧ Kp nx h h2 := by
  obtain ⟨c0, c1, c2, c3, c4, c5, c6, c7, c8, c9, c10, c11, c12, c13, c14, c15, cE, cN, hl, hl2⟩ := F
  have hE0 : ∀ k, (E.1 = nx + k) = False := fun k => eq_false (by omega)
  have hE1 : (E.1 = nx) = False := eq_false (by omega)
  have hE2 : ∀ k, (E.2.1 = nx + k) = False := fun k => eq_false (by omega)
  have hE3 : (E.2.1 = nx) = False := eq_false (by omega)
  have hE4 : ∀ k, (nx + k = E.1) = False := fun k => eq_false (by omega)
  have hE5 : (nx = E.1) = False := eq_false (by omega)
  have hE6 : ∀ k, (nx + k = E.2.1) = False := fun k => eq_false (by omega)
  have hE7 : (nx = E.2.1) = False := eq_false (by omega)
  refine ⟨_, by simp [↓rb_bind, ↓rb_ob2, rb_zb, rs_1, rs_at, rn_1, rn_at, rd_i_of, rd_i_o, rd_j_of, rd_j_o, rd_r_of, rd_r_o, rd_p_of, rd_p_o, rd_c_of, rd_c_o, rd_k_of, rd_k_n, rd_b_of, rd_b_o, rd_b_n, rd_a_of, rd_a_o, rv_i_i, rv_j_j, rv_r_r, rv_r_n, va_rf, hp_len, hp_ldi, hp_ldb, hp_ldl, hp_ldq, hp_sti, hp_stb, hp_stl, hp_stq, hp_na, hp_new, hp_isq, hp_cpq, hp_cpb, zf, zd, upd_at, updL_at, up_at, nar_0, nar_1, i8_0, i8_1, bJ15_checkIndex_7cf53_0, bJ3_checkIndex_8e157_0, bJ3_checkIndex_8e157_9, bJ7_checkLength_df160_0, bJ7_copyOfRangeByte_39247_0, bJ7_copyOfRange_39247_0, bJ7_copyOfRange_39247_10, bJ7_copyOf_1904c_0, bJ7_copyOf_6403c_0, bJ7_copyOf_9075b_0, bJ8_hugeLength_7cf53_0, bJ8_newLength_cabcc_0, bJ8_newLength_cabcc_21, bJ9_max_7cf53_0, bJ9_max_7cf53_10, bJ9_max_f86c9_0, bJ9_max_f86c9_11, bJ9_min_7cf53_0, bJ9_min_7cf53_10, bJ9_min_f86c9_0, bJ9_min_f86c9_11, bJx4a65c_add_72be8_0, bJx4a65c_add_72be8_11, bJx4a65c_add_7a177_0, bJx4a65c_add_7a177_38, bJx4a65c_add_9ea2d_0, bJx4a65c_clear_da8c8_0, bJx4a65c_elementData_915e3_0, bJx4a65c_fastRemove_b59b0_0, bJx4a65c_fastRemove_b59b0_34, bJx4a65c_get_915e3_0, bJx4a65c_grow_92f84_0, bJx4a65c_grow_92f84_20, bJx4a65c_grow_d5877_0, bJx4a65c_init_da8c8_0, bJx4a65c_isEmpty_aae02_0, bJx4a65c_isEmpty_aae02_12, bJx4a65c_rangeCheckForAdd_d00df_0, bJx4a65c_rangeCheckForAdd_d00df_12, bJx4a65c_remove_915e3_0, bJx4a65c_set_bcc79_0, bJx4a65c_size_8abf5_0, bJxa1e45_init_da8c8_0, bJxc12de_init_da8c8_0, bX1_act_0, bX1_act_127, bX1_act_25, bX1_act_67, bX1_firstNotBelow_0, bX1_firstNotBelow_67, bX1_firstNotBelow_73, bX1_hasAt_0, bX1_hasAt_38, bX1_hasAt_39, bX1_init_0, bX1_isChangedBy_0, bX1_isChangedBy_60, bX1_removeFrom_0, bX1_removeFrom_64, bX2_init_0, bX4_changes_0, bX4_changes_16, bX4_changes_30, bX4_changes_39, bX4_changes_55, bX4_changes_85, bX4_changes_92, bX4_init_0, bX4_meets_0, bX4_meets_22, bX4_meets_23, bX4_rowAfter_0, bX4_rowAfter_16, bX4_rowAfter_30, bX5_copyInto_0, bX5_copyInto_103, bX5_copyInto_56, bX5_fullestKid_0, bX5_fullestKid_53, bX5_init_0, bX5_isChangedBy_0, bX5_isChangedBy_35, bX5_isLeaf_0, bX5_isTooBig_0, bX5_isTooBig_17, bX5_isTooBig_25, bX5_lastKeyOf_0, bX5_lastKeyOf_37, bX5_lettersFrom_0, bX5_lettersFrom_52, bX5_moveLetters_0, bX5_moveLetters_69, bX5_moveLetters_77, bX5_opened_0, bX5_partKid_0, bX5_partKid_32, bX5_partKid_58, bX5_partOf_0, bX5_partOf_58, bX5_partOf_59, bX5_takeInParts_0, bX5_takeInParts_85, bX5_takeIn_0, bX5_takeIn_63, bX5_width_0, bX7_part_0, bX7_part_17, bX8_give_0, bX8_give_63, bX8_partRoot_0, bX8_partRoot_64, bX8_sinkPage_0, bX8_sinkPage_22, bX9_drop_0, bX9_writeRefusal_0, bX9_writeRefusal_33, bX9_write_0, bX9_write_25, bX9_write_63, fJ15_checkIndex_7cf53, fJ3_checkIndex_8e157, fJ7_checkLength_df160, fJ7_copyOfRangeByte_39247, fJ7_copyOfRange_39247, fJ7_copyOf_1904c, fJ7_copyOf_6403c, fJ7_copyOf_9075b, fJ8_hugeLength_7cf53, fJ8_newLength_cabcc, fJ9_max_7cf53, fJ9_max_f86c9, fJ9_min_7cf53, fJ9_min_f86c9, fJx4a65c_add_72be8, fJx4a65c_add_7a177, fJx4a65c_add_9ea2d, fJx4a65c_clear_da8c8, fJx4a65c_elementData_915e3, fJx4a65c_fastRemove_b59b0, fJx4a65c_get_915e3, fJx4a65c_grow_92f84, fJx4a65c_grow_d5877, fJx4a65c_init_da8c8, fJx4a65c_isEmpty_aae02, fJx4a65c_rangeCheckForAdd_d00df, fJx4a65c_remove_915e3, fJx4a65c_set_bcc79, fJx4a65c_size_8abf5, fJxa1e45_init_da8c8, fJxc12de_init_da8c8, fX1_act, fX1_firstNotBelow, fX1_hasAt, fX1_init, fX1_isChangedBy, fX1_removeFrom, fX2_init, fX4_changes, fX4_init, fX4_meets, fX4_rowAfter, fX5_copyInto, fX5_fullestKid, fX5_init, fX5_isChangedBy, fX5_isLeaf, fX5_isTooBig, fX5_lastKeyOf, fX5_lettersFrom, fX5_moveLetters, fX5_opened, fX5_partKid, fX5_partOf, fX5_takeIn, fX5_takeInParts, fX5_width, fX7_part, fX8_partRoot, fX8_sinkPage, fX9_drop, fX9_write, fX9_writeRefusal, gX8_give, u_bJx4a65c_clear_da8c8_27, u_bX1_firstNotBelow_14, u_bX1_removeFrom_12, u_bX4_changes_58, u_bX4_rowAfter_59, u_bX5_copyInto_3, u_bX5_copyInto_59, u_bX5_fullestKid_6, u_bX5_isChangedBy_2, u_bX5_lettersFrom_6, u_bX5_moveLetters_12, u_bX5_moveLetters_93, u_bX5_opened_41, u_bX5_partKid_90, u_bX5_takeInParts_2, u_bX5_takeIn_2, u_bX8_give_32, u_bX8_partRoot_2, u_fX8_give, lc_fill, nf_0, nf_3, nf_4, nf_5, nf_6, nf_2, nf_7, q_feed, q_cut, q_swap, q_sweep, q_page, q_fall, q_disk, q_bend, q_writes, q_number, c0, c1, c2, c3, c4, c5, c6, c7, c8, c9, c10, c11, c12, c13, c14, c15, cE, cN, hn, hE0, hE1, hE2, hE3, hE4, hE5, hE6, hE7, Nat.add_assoc]; rfl, ?_⟩
  first
    | (refine ⟨?_, ?_, ?_, fun z h1 h2 => ?_⟩
       · simp only [rs_1, rn_1]; try omega
       · simp only [rs_1, rn_1]; try omega
       · simp only [rs_2, rn_2]; try omega
       · simp (disch := first | omega | (simp only [rs_1, rn_1]; omega)) only [rs_ne, rn_ne])
    | exact Kp.rf
set_option maxRecDepth 100000 in
set_option maxHeartbeats 4000000 in
theorem pc_sweep {E : ah_E} {nx : Nat} {h : ah_H} (F : FrC E nx h) (hn : h.1 = nx + 76) (a b : Int64) : ∃ h2, fX9_sweep E (some nx) a b h = some (q_sweep a b, h2) ∧ Kp nx h h2 := by
  obtain ⟨c0, c1, c2, c3, c4, c5, c6, c7, c8, c9, c10, c11, c12, c13, c14, c15, cE, cN, hl, hl2⟩ := F
  have hE0 : ∀ k, (E.1 = nx + k) = False := fun k => eq_false (by omega)
  have hE1 : (E.1 = nx) = False := eq_false (by omega)
  have hE2 : ∀ k, (E.2.1 = nx + k) = False := fun k => eq_false (by omega)
  have hE3 : (E.2.1 = nx) = False := eq_false (by omega)
  have hE4 : ∀ k, (nx + k = E.1) = False := fun k => eq_false (by omega)
  have hE5 : (nx = E.1) = False := eq_false (by omega)
  have hE6 : ∀ k, (nx + k = E.2.1) = False := fun k => eq_false (by omega)
  have hE7 : (nx = E.2.1) = False := eq_false (by omega)
  by_cases e0 : a ≤ b
  · have e1 : ¬ b < a := Int64.not_lt.mpr e0
    refine ⟨_, by simp [↓rb_bind, ↓rb_ob2, rb_zb, rs_1, rs_at, rn_1, rn_at, rd_i_of, rd_i_o, rd_j_of, rd_j_o, rd_r_of, rd_r_o, rd_p_of, rd_p_o, rd_c_of, rd_c_o, rd_k_of, rd_k_n, rd_b_of, rd_b_o, rd_b_n, rd_a_of, rd_a_o, rv_i_i, rv_j_j, rv_r_r, rv_r_n, va_rf, hp_len, hp_ldi, hp_ldb, hp_ldl, hp_ldq, hp_sti, hp_stb, hp_stl, hp_stq, hp_na, hp_new, hp_isq, hp_cpq, hp_cpb, zf, zd, upd_at, updL_at, up_at, nar_0, nar_1, i8_0, i8_1, bJ15_checkIndex_7cf53_0, bJ3_checkIndex_8e157_0, bJ3_checkIndex_8e157_9, bJ7_checkLength_df160_0, bJ7_copyOfRangeByte_39247_0, bJ7_copyOfRange_39247_0, bJ7_copyOfRange_39247_10, bJ7_copyOf_1904c_0, bJ7_copyOf_6403c_0, bJ7_copyOf_9075b_0, bJ8_hugeLength_7cf53_0, bJ8_newLength_cabcc_0, bJ8_newLength_cabcc_21, bJ9_max_7cf53_0, bJ9_max_7cf53_10, bJ9_max_f86c9_0, bJ9_max_f86c9_11, bJ9_min_7cf53_0, bJ9_min_7cf53_10, bJ9_min_f86c9_0, bJ9_min_f86c9_11, bJx4a65c_add_72be8_0, bJx4a65c_add_72be8_11, bJx4a65c_add_7a177_0, bJx4a65c_add_7a177_38, bJx4a65c_add_9ea2d_0, bJx4a65c_clear_da8c8_0, bJx4a65c_elementData_915e3_0, bJx4a65c_fastRemove_b59b0_0, bJx4a65c_fastRemove_b59b0_34, bJx4a65c_get_915e3_0, bJx4a65c_grow_92f84_0, bJx4a65c_grow_92f84_20, bJx4a65c_grow_d5877_0, bJx4a65c_init_da8c8_0, bJx4a65c_isEmpty_aae02_0, bJx4a65c_isEmpty_aae02_12, bJx4a65c_rangeCheckForAdd_d00df_0, bJx4a65c_rangeCheckForAdd_d00df_12, bJx4a65c_remove_915e3_0, bJx4a65c_set_bcc79_0, bJx4a65c_size_8abf5_0, bJxa1e45_init_da8c8_0, bJxc12de_init_da8c8_0, bX1_act_0, bX1_act_127, bX1_act_25, bX1_act_67, bX1_firstNotBelow_0, bX1_firstNotBelow_67, bX1_firstNotBelow_73, bX1_hasAt_0, bX1_hasAt_38, bX1_hasAt_39, bX1_init_0, bX1_isChangedBy_0, bX1_isChangedBy_60, bX1_removeFrom_0, bX1_removeFrom_64, bX2_init_0, bX4_changes_0, bX4_changes_16, bX4_changes_30, bX4_changes_39, bX4_changes_55, bX4_changes_85, bX4_changes_92, bX4_init_0, bX4_meets_0, bX4_meets_22, bX4_meets_23, bX4_rowAfter_0, bX4_rowAfter_16, bX4_rowAfter_30, bX5_copyInto_0, bX5_copyInto_103, bX5_copyInto_56, bX5_fullestKid_0, bX5_fullestKid_53, bX5_init_0, bX5_isChangedBy_0, bX5_isChangedBy_35, bX5_isLeaf_0, bX5_isTooBig_0, bX5_isTooBig_17, bX5_isTooBig_25, bX5_lastKeyOf_0, bX5_lastKeyOf_37, bX5_lettersFrom_0, bX5_lettersFrom_52, bX5_moveLetters_0, bX5_moveLetters_69, bX5_moveLetters_77, bX5_opened_0, bX5_partKid_0, bX5_partKid_32, bX5_partKid_58, bX5_partOf_0, bX5_partOf_58, bX5_partOf_59, bX5_takeInParts_0, bX5_takeInParts_85, bX5_takeIn_0, bX5_takeIn_63, bX5_width_0, bX7_part_0, bX7_part_17, bX8_give_0, bX8_give_63, bX8_partRoot_0, bX8_partRoot_64, bX8_sinkPage_0, bX8_sinkPage_22, bX9_sweep_0, bX9_sweep_12, bX9_writeRefusal_0, bX9_writeRefusal_33, bX9_write_0, bX9_write_25, bX9_write_63, fJ15_checkIndex_7cf53, fJ3_checkIndex_8e157, fJ7_checkLength_df160, fJ7_copyOfRangeByte_39247, fJ7_copyOfRange_39247, fJ7_copyOf_1904c, fJ7_copyOf_6403c, fJ7_copyOf_9075b, fJ8_hugeLength_7cf53, fJ8_newLength_cabcc, fJ9_max_7cf53, fJ9_max_f86c9, fJ9_min_7cf53, fJ9_min_f86c9, fJx4a65c_add_72be8, fJx4a65c_add_7a177, fJx4a65c_add_9ea2d, fJx4a65c_clear_da8c8, fJx4a65c_elementData_915e3, fJx4a65c_fastRemove_b59b0, fJx4a65c_get_915e3, fJx4a65c_grow_92f84, fJx4a65c_grow_d5877, fJx4a65c_init_da8c8, fJx4a65c_isEmpty_aae02, fJx4a65c_rangeCheckForAdd_d00df, fJx4a65c_remove_915e3, fJx4a65c_set_bcc79, fJx4a65c_size_8abf5, fJxa1e45_init_da8c8, fJxc12de_init_da8c8, fX1_act, fX1_firstNotBelow, fX1_hasAt, fX1_init, fX1_isChangedBy, fX1_removeFrom, fX2_init, fX4_changes, fX4_init, fX4_meets, fX4_rowAfter, fX5_copyInto, fX5_fullestKid, fX5_init, fX5_isChangedBy, fX5_isLeaf, fX5_isTooBig, fX5_lastKeyOf, fX5_lettersFrom, fX5_moveLetters, fX5_opened, fX5_partKid, fX5_partOf, fX5_takeIn, fX5_takeInParts, fX5_width, fX7_part, fX8_partRoot, fX8_sinkPage, fX9_sweep, fX9_write, fX9_writeRefusal, gX8_give, u_bJx4a65c_clear_da8c8_27, u_bX1_firstNotBelow_14, u_bX1_removeFrom_12, u_bX4_changes_58, u_bX4_rowAfter_59, u_bX5_copyInto_3, u_bX5_copyInto_59, u_bX5_fullestKid_6, u_bX5_isChangedBy_2, u_bX5_lettersFrom_6, u_bX5_moveLetters_12, u_bX5_moveLetters_93, u_bX5_opened_41, u_bX5_partKid_90, u_bX5_takeInParts_2, u_bX5_takeIn_2, u_bX8_give_32, u_bX8_partRoot_2, u_fX8_give, lc_fill, nf_0, nf_3, nf_4, nf_5, nf_6, nf_2, nf_7, q_feed, q_cut, q_swap, q_sweep, q_page, q_fall, q_disk, q_bend, q_writes, q_number, c0, c1, c2, c3, c4, c5, c6, c7, c8, c9, c10, c11, c12, c13, c14, c15, cE, cN, hn, hE0, hE1, hE2, hE3, hE4, hE5, hE6, hE7, Nat.add_assoc, e0, e1]; rfl, ?_⟩
    first
      | (refine ⟨?_, ?_, ?_, fun z h1 h2 => ?_⟩
         · simp only [rs_1, rn_1]; try omega
         · simp only [rs_1, rn_1]; try omega
         · simp only [rs_2, rn_2]; try omega
         · simp (disch := first | omega | (simp only [rs_1, rn_1]; omega)) only [rs_ne, rn_ne])
      | exact Kp.rf
  · have e1 : b < a := Int64.not_le.mp e0
    refine ⟨_, by simp [↓rb_bind, ↓rb_ob2, rb_zb, rs_1, rs_at, rn_1, rn_at, rd_i_of, rd_i_o, rd_j_of, rd_j_o, rd_r_of, rd_r_o, rd_p_of, rd_p_o, rd_c_of, rd_c_o, rd_k_of, rd_k_n, rd_b_of, rd_b_o, rd_b_n, rd_a_of, rd_a_o, rv_i_i, rv_j_j, rv_r_r, rv_r_n, va_rf, hp_len, hp_ldi, hp_ldb, hp_ldl, hp_ldq, hp_sti, hp_stb, hp_stl, hp_stq, hp_na, hp_new, hp_isq, hp_cpq, hp_cpb, zf, zd, upd_at, updL_at, up_at, nar_0, nar_1, i8_0, i8_1, bJ15_checkIndex_7cf53_0, bJ3_checkIndex_8e157_0, bJ3_checkIndex_8e157_9, bJ7_checkLength_df160_0, bJ7_copyOfRangeByte_39247_0, bJ7_copyOfRange_39247_0, bJ7_copyOfRange_39247_10, bJ7_copyOf_1904c_0, bJ7_copyOf_6403c_0, bJ7_copyOf_9075b_0, bJ8_hugeLength_7cf53_0, bJ8_newLength_cabcc_0, bJ8_newLength_cabcc_21, bJ9_max_7cf53_0, bJ9_max_7cf53_10, bJ9_max_f86c9_0, bJ9_max_f86c9_11, bJ9_min_7cf53_0, bJ9_min_7cf53_10, bJ9_min_f86c9_0, bJ9_min_f86c9_11, bJx4a65c_add_72be8_0, bJx4a65c_add_72be8_11, bJx4a65c_add_7a177_0, bJx4a65c_add_7a177_38, bJx4a65c_add_9ea2d_0, bJx4a65c_clear_da8c8_0, bJx4a65c_elementData_915e3_0, bJx4a65c_fastRemove_b59b0_0, bJx4a65c_fastRemove_b59b0_34, bJx4a65c_get_915e3_0, bJx4a65c_grow_92f84_0, bJx4a65c_grow_92f84_20, bJx4a65c_grow_d5877_0, bJx4a65c_init_da8c8_0, bJx4a65c_isEmpty_aae02_0, bJx4a65c_isEmpty_aae02_12, bJx4a65c_rangeCheckForAdd_d00df_0, bJx4a65c_rangeCheckForAdd_d00df_12, bJx4a65c_remove_915e3_0, bJx4a65c_set_bcc79_0, bJx4a65c_size_8abf5_0, bJxa1e45_init_da8c8_0, bJxc12de_init_da8c8_0, bX1_act_0, bX1_act_127, bX1_act_25, bX1_act_67, bX1_firstNotBelow_0, bX1_firstNotBelow_67, bX1_firstNotBelow_73, bX1_hasAt_0, bX1_hasAt_38, bX1_hasAt_39, bX1_init_0, bX1_isChangedBy_0, bX1_isChangedBy_60, bX1_removeFrom_0, bX1_removeFrom_64, bX2_init_0, bX4_changes_0, bX4_changes_16, bX4_changes_30, bX4_changes_39, bX4_changes_55, bX4_changes_85, bX4_changes_92, bX4_init_0, bX4_meets_0, bX4_meets_22, bX4_meets_23, bX4_rowAfter_0, bX4_rowAfter_16, bX4_rowAfter_30, bX5_copyInto_0, bX5_copyInto_103, bX5_copyInto_56, bX5_fullestKid_0, bX5_fullestKid_53, bX5_init_0, bX5_isChangedBy_0, bX5_isChangedBy_35, bX5_isLeaf_0, bX5_isTooBig_0, bX5_isTooBig_17, bX5_isTooBig_25, bX5_lastKeyOf_0, bX5_lastKeyOf_37, bX5_lettersFrom_0, bX5_lettersFrom_52, bX5_moveLetters_0, bX5_moveLetters_69, bX5_moveLetters_77, bX5_opened_0, bX5_partKid_0, bX5_partKid_32, bX5_partKid_58, bX5_partOf_0, bX5_partOf_58, bX5_partOf_59, bX5_takeInParts_0, bX5_takeInParts_85, bX5_takeIn_0, bX5_takeIn_63, bX5_width_0, bX7_part_0, bX7_part_17, bX8_give_0, bX8_give_63, bX8_partRoot_0, bX8_partRoot_64, bX8_sinkPage_0, bX8_sinkPage_22, bX9_sweep_0, bX9_sweep_12, bX9_writeRefusal_0, bX9_writeRefusal_33, bX9_write_0, bX9_write_25, bX9_write_63, fJ15_checkIndex_7cf53, fJ3_checkIndex_8e157, fJ7_checkLength_df160, fJ7_copyOfRangeByte_39247, fJ7_copyOfRange_39247, fJ7_copyOf_1904c, fJ7_copyOf_6403c, fJ7_copyOf_9075b, fJ8_hugeLength_7cf53, fJ8_newLength_cabcc, fJ9_max_7cf53, fJ9_max_f86c9, fJ9_min_7cf53, fJ9_min_f86c9, fJx4a65c_add_72be8, fJx4a65c_add_7a177, fJx4a65c_add_9ea2d, fJx4a65c_clear_da8c8, fJx4a65c_elementData_915e3, fJx4a65c_fastRemove_b59b0, fJx4a65c_get_915e3, fJx4a65c_grow_92f84, fJx4a65c_grow_d5877, fJx4a65c_init_da8c8, fJx4a65c_isEmpty_aae02, fJx4a65c_rangeCheckForAdd_d00df, fJx4a65c_remove_915e3, fJx4a65c_set_bcc79, fJx4a65c_size_8abf5, fJxa1e45_init_da8c8, fJxc12de_init_da8c8, fX1_act, fX1_firstNotBelow, fX1_hasAt, fX1_init, fX1_isChangedBy, fX1_removeFrom, fX2_init, fX4_changes, fX4_init, fX4_meets, fX4_rowAfter, fX5_copyInto, fX5_fullestKid, fX5_init, fX5_isChangedBy, fX5_isLeaf, fX5_isTooBig, fX5_lastKeyOf, fX5_lettersFrom, fX5_moveLetters, fX5_opened, fX5_partKid, fX5_partOf, fX5_takeIn, fX5_takeInParts, fX5_width, fX7_part, fX8_partRoot, fX8_sinkPage, fX9_sweep, fX9_write, fX9_writeRefusal, gX8_give, u_bJx4a65c_clear_da8c8_27, u_bX1_firstNotBelow_14, u_bX1_removeFrom_12, u_bX4_changes_58, u_bX4_rowAfter_59, u_bX5_copyInto_3, u_bX5_copyInto_59, u_bX5_fullestKid_6, u_bX5_isChangedBy_2, u_bX5_lettersFrom_6, u_bX5_moveLetters_12, u_bX5_moveLetters_93, u_bX5_opened_41, u_bX5_partKid_90, u_bX5_takeInParts_2, u_bX5_takeIn_2, u_bX8_give_32, u_bX8_partRoot_2, u_fX8_give, lc_fill, nf_0, nf_3, nf_4, nf_5, nf_6, nf_2, nf_7, q_feed, q_cut, q_swap, q_sweep, q_page, q_fall, q_disk, q_bend, q_writes, q_number, c0, c1, c2, c3, c4, c5, c6, c7, c8, c9, c10, c11, c12, c13, c14, c15, cE, cN, hn, hE0, hE1, hE2, hE3, hE4, hE5, hE6, hE7, Nat.add_assoc, e0, e1]; rfl, ?_⟩
    first
      | (refine ⟨?_, ?_, ?_, fun z h1 h2 => ?_⟩
         · simp only [rs_1, rn_1]; try omega
         · simp only [rs_1, rn_1]; try omega
         · simp only [rs_2, rn_2]; try omega
         · simp (disch := first | omega | (simp only [rs_1, rn_1]; omega)) only [rs_ne, rn_ne])
      | exact Kp.rf
set_option maxRecDepth 100000 in
set_option maxHeartbeats 4000000 in
theorem pc_sync {E : ah_E} {nx : Nat} {h : ah_H} (F : FrC E nx h) (hn : h.1 = nx + 76)  : ∃ h2, fX9_sync E (some nx)  h = some (2, h2) ∧ Kp nx h h2 := by
  obtain ⟨c0, c1, c2, c3, c4, c5, c6, c7, c8, c9, c10, c11, c12, c13, c14, c15, cE, cN, hl, hl2⟩ := F
  have hE0 : ∀ k, (E.1 = nx + k) = False := fun k => eq_false (by omega)
  have hE1 : (E.1 = nx) = False := eq_false (by omega)
  have hE2 : ∀ k, (E.2.1 = nx + k) = False := fun k => eq_false (by omega)
  have hE3 : (E.2.1 = nx) = False := eq_false (by omega)
  have hE4 : ∀ k, (nx + k = E.1) = False := fun k => eq_false (by omega)
  have hE5 : (nx = E.1) = False := eq_false (by omega)
  have hE6 : ∀ k, (nx + k = E.2.1) = False := fun k => eq_false (by omega)
  have hE7 : (nx = E.2.1) = False := eq_false (by omega)
  refine ⟨_, by simp [↓rb_bind, ↓rb_ob2, rb_zb, rs_1, rs_at, rn_1, rn_at, rd_i_of, rd_i_o, rd_j_of, rd_j_o, rd_r_of, rd_r_o, rd_p_of, rd_p_o, rd_c_of, rd_c_o, rd_k_of, rd_k_n, rd_b_of, rd_b_o, rd_b_n, rd_a_of, rd_a_o, rv_i_i, rv_j_j, rv_r_r, rv_r_n, va_rf, hp_len, hp_ldi, hp_ldb, hp_ldl, hp_ldq, hp_sti, hp_stb, hp_stl, hp_stq, hp_na, hp_new, hp_isq, hp_cpq, hp_cpb, zf, zd, upd_at, updL_at, up_at, nar_0, nar_1, i8_0, i8_1, bJ15_checkIndex_7cf53_0, bJ3_checkIndex_8e157_0, bJ3_checkIndex_8e157_9, bJ7_copyOf_1904c_0, bJ7_copyOf_6403c_0, bJ7_fill_031fb_0, bJ8_hugeLength_7cf53_0, bJ8_newLength_cabcc_0, bJ8_newLength_cabcc_21, bJ9_max_7cf53_0, bJ9_max_7cf53_10, bJ9_min_7cf53_0, bJ9_min_7cf53_10, bJx4a65c_add_72be8_0, bJx4a65c_add_72be8_11, bJx4a65c_add_9ea2d_0, bJx4a65c_clear_da8c8_0, bJx4a65c_elementData_915e3_0, bJx4a65c_get_915e3_0, bJx4a65c_grow_92f84_0, bJx4a65c_grow_92f84_20, bJx4a65c_grow_d5877_0, bJx4a65c_init_da8c8_0, bJx4a65c_isEmpty_aae02_0, bJx4a65c_isEmpty_aae02_12, bJx4a65c_size_8abf5_0, bJxa1e45_init_da8c8_0, bJxc12de_init_da8c8_0, bX0_fallComes_0, bX0_markPages_0, bX0_markPages_50, bX0_markPages_93, bX0_markPictures_0, bX0_markTaken_0, bX0_markTaken_72, bX0_writeHead_0, bX0_writeHead_36, bX0_writeHead_46, bX0_writePage_0, bX0_writePage_16, bX0_writePage_65, bX0_writePage_93, bX0_writePages_0, bX0_writePages_58, bX1_init_0, bX3_init_0, bX5_init_0, bX5_isLeaf_0, bX8_changedIn_0, bX8_changedIn_57, bX9_copyPictures_0, bX9_freePlaces_0, bX9_goDown_0, bX9_startAnew_0, bX9_sync_0, bX9_sync_48, bX9_writeAll_0, fJ15_checkIndex_7cf53, fJ3_checkIndex_8e157, fJ7_copyOf_1904c, fJ7_copyOf_6403c, fJ7_fill_031fb, fJ8_hugeLength_7cf53, fJ8_newLength_cabcc, fJ9_max_7cf53, fJ9_min_7cf53, fJx4a65c_add_72be8, fJx4a65c_add_9ea2d, fJx4a65c_clear_da8c8, fJx4a65c_elementData_915e3, fJx4a65c_get_915e3, fJx4a65c_grow_92f84, fJx4a65c_grow_d5877, fJx4a65c_init_da8c8, fJx4a65c_isEmpty_aae02, fJx4a65c_size_8abf5, fJxa1e45_init_da8c8, fJxc12de_init_da8c8, fX0_fallComes, fX0_markPictures, fX0_markTaken, fX0_writeHead, fX0_writePage, fX1_init, fX3_init, fX5_init, fX5_isLeaf, fX9_copyPictures, fX9_freePlaces, fX9_goDown, fX9_startAnew, fX9_sync, fX9_writeAll, gX0_markPages, gX0_writePages, gX8_changedIn, u_bJx4a65c_clear_da8c8_27, u_bX0_markPages_52, u_bX0_markPictures_2, u_bX0_markTaken_31, u_bX0_writePage_30, u_bX0_writePages_12, u_bX8_changedIn_14, u_bX9_copyPictures_2, u_fX0_markPages, u_fX0_writePages, u_fX8_changedIn, lc_fill, nf_0, nf_3, nf_4, nf_5, nf_6, nf_2, nf_7, q_feed, q_cut, q_swap, q_sweep, q_page, q_fall, q_disk, q_bend, q_writes, q_number, c0, c1, c2, c3, c4, c5, c6, c7, c8, c9, c10, c11, c12, c13, c14, c15, cE, cN, hn, hE0, hE1, hE2, hE3, hE4, hE5, hE6, hE7, Nat.add_assoc]; rfl, ?_⟩
  first
    | (refine ⟨?_, ?_, ?_, fun z h1 h2 => ?_⟩
       · simp only [rs_1, rn_1]; try omega
       · simp only [rs_1, rn_1]; try omega
       · simp only [rs_2, rn_2]; try omega
       · simp (disch := first | omega | (simp only [rs_1, rn_1]; omega)) only [rs_ne, rn_ne])
    | exact Kp.rf
set_option maxRecDepth 100000 in
set_option maxHeartbeats 4000000 in
theorem pc_picture {E : ah_E} {nx : Nat} {h : ah_H} (F : FrC E nx h) (hn : h.1 = nx + 76)  : ∃ h2, fX9_picture E (some nx)  h = some (1, h2) ∧ Kp nx h h2 := by
  obtain ⟨c0, c1, c2, c3, c4, c5, c6, c7, c8, c9, c10, c11, c12, c13, c14, c15, cE, cN, hl, hl2⟩ := F
  have hE0 : ∀ k, (E.1 = nx + k) = False := fun k => eq_false (by omega)
  have hE1 : (E.1 = nx) = False := eq_false (by omega)
  have hE2 : ∀ k, (E.2.1 = nx + k) = False := fun k => eq_false (by omega)
  have hE3 : (E.2.1 = nx) = False := eq_false (by omega)
  have hE4 : ∀ k, (nx + k = E.1) = False := fun k => eq_false (by omega)
  have hE5 : (nx = E.1) = False := eq_false (by omega)
  have hE6 : ∀ k, (nx + k = E.2.1) = False := fun k => eq_false (by omega)
  have hE7 : (nx = E.2.1) = False := eq_false (by omega)
  refine ⟨_, by simp [↓rb_bind, ↓rb_ob2, rb_zb, rs_1, rs_at, rn_1, rn_at, rd_i_of, rd_i_o, rd_j_of, rd_j_o, rd_r_of, rd_r_o, rd_p_of, rd_p_o, rd_c_of, rd_c_o, rd_k_of, rd_k_n, rd_b_of, rd_b_o, rd_b_n, rd_a_of, rd_a_o, rv_i_i, rv_j_j, rv_r_r, rv_r_n, va_rf, hp_len, hp_ldi, hp_ldb, hp_ldl, hp_ldq, hp_sti, hp_stb, hp_stl, hp_stq, hp_na, hp_new, hp_isq, hp_cpq, hp_cpb, zf, zd, upd_at, updL_at, up_at, nar_0, nar_1, i8_0, i8_1, bJ15_checkIndex_7cf53_0, bJ3_checkIndex_8e157_0, bJ3_checkIndex_8e157_9, bJ7_copyOf_1904c_0, bJ7_copyOf_6403c_0, bJ7_fill_031fb_0, bJ8_hugeLength_7cf53_0, bJ8_newLength_cabcc_0, bJ8_newLength_cabcc_21, bJ9_max_7cf53_0, bJ9_max_7cf53_10, bJ9_min_7cf53_0, bJ9_min_7cf53_10, bJx4a65c_add_72be8_0, bJx4a65c_add_72be8_11, bJx4a65c_add_9ea2d_0, bJx4a65c_clear_da8c8_0, bJx4a65c_elementData_915e3_0, bJx4a65c_get_915e3_0, bJx4a65c_grow_92f84_0, bJx4a65c_grow_92f84_20, bJx4a65c_grow_d5877_0, bJx4a65c_init_da8c8_0, bJx4a65c_isEmpty_aae02_0, bJx4a65c_isEmpty_aae02_12, bJx4a65c_size_8abf5_0, bJxa1e45_init_da8c8_0, bJxc12de_init_da8c8_0, bX0_fallComes_0, bX0_markPages_0, bX0_markPages_50, bX0_markPages_93, bX0_markPictures_0, bX0_markTaken_0, bX0_markTaken_72, bX0_writeHead_0, bX0_writeHead_36, bX0_writeHead_46, bX0_writePage_0, bX0_writePage_16, bX0_writePage_65, bX0_writePage_93, bX0_writePages_0, bX0_writePages_58, bX1_init_0, bX3_init_0, bX5_init_0, bX5_isLeaf_0, bX6_init_0, bX8_changedIn_0, bX8_changedIn_57, bX9_copyPictures_0, bX9_freePlaces_0, bX9_goDown_0, bX9_picture_0, bX9_picture_40, bX9_picture_95, bX9_startAnew_0, bX9_writeAll_0, fJ15_checkIndex_7cf53, fJ3_checkIndex_8e157, fJ7_copyOf_1904c, fJ7_copyOf_6403c, fJ7_fill_031fb, fJ8_hugeLength_7cf53, fJ8_newLength_cabcc, fJ9_max_7cf53, fJ9_min_7cf53, fJx4a65c_add_72be8, fJx4a65c_add_9ea2d, fJx4a65c_clear_da8c8, fJx4a65c_elementData_915e3, fJx4a65c_get_915e3, fJx4a65c_grow_92f84, fJx4a65c_grow_d5877, fJx4a65c_init_da8c8, fJx4a65c_isEmpty_aae02, fJx4a65c_size_8abf5, fJxa1e45_init_da8c8, fJxc12de_init_da8c8, fX0_fallComes, fX0_markPictures, fX0_markTaken, fX0_writeHead, fX0_writePage, fX1_init, fX3_init, fX5_init, fX5_isLeaf, fX6_init, fX9_copyPictures, fX9_freePlaces, fX9_goDown, fX9_picture, fX9_startAnew, fX9_writeAll, gX0_markPages, gX0_writePages, gX8_changedIn, u_bJx4a65c_clear_da8c8_27, u_bX0_markPages_52, u_bX0_markPictures_2, u_bX0_markTaken_31, u_bX0_writePage_30, u_bX0_writePages_12, u_bX8_changedIn_14, u_bX9_copyPictures_2, u_fX0_markPages, u_fX0_writePages, u_fX8_changedIn, lc_fill, nf_0, nf_3, nf_4, nf_5, nf_6, nf_2, nf_7, q_feed, q_cut, q_swap, q_sweep, q_page, q_fall, q_disk, q_bend, q_writes, q_number, c0, c1, c2, c3, c4, c5, c6, c7, c8, c9, c10, c11, c12, c13, c14, c15, cE, cN, hn, hE0, hE1, hE2, hE3, hE4, hE5, hE6, hE7, Nat.add_assoc]; rfl, ?_⟩
  first
    | (refine ⟨?_, ?_, ?_, fun z h1 h2 => ?_⟩
       · simp only [rs_1, rn_1]; try omega
       · simp only [rs_1, rn_1]; try omega
       · simp only [rs_2, rn_2]; try omega
       · simp (disch := first | omega | (simp only [rs_1, rn_1]; omega)) only [rs_ne, rn_ne])
    | exact Kp.rf
