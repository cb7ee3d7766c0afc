theorem FrC.keep {E : ah_E} {nx : Nat} {h h2 : ah_H} (F : FrC E nx h) (fr : ∀ b, b < nx + 16 → h2.2.2 b = h.2.2 b) : FrC E nx h2 := by
  obtain ⟨c0, c1, c2, c3, c4, c5, c6, c7, c8, c9, c10, c11, c12, c13, c14, c15, cE, cN, hl, hl2⟩ := F
  exact ⟨(fr _ (by omega)).trans c0, (fr _ (by omega)).trans c1, (fr _ (by omega)).trans c2, (fr _ (by omega)).trans c3, (fr _ (by omega)).trans c4, (fr _ (by omega)).trans c5, (fr _ (by omega)).trans c6, (fr _ (by omega)).trans c7, (fr _ (by omega)).trans c8, (fr _ (by omega)).trans c9, (fr _ (by omega)).trans c10, (fr _ (by omega)).trans c11, (fr _ (by omega)).trans c12, (fr _ (by omega)).trans c13, (fr _ (by omega)).trans c14, (fr _ (by omega)).trans c15, (fr _ (by omega)).trans cE, (fr _ (by omega)).trans cN, hl, hl2⟩
set_option maxRecDepth 100000 in
set_option maxHeartbeats 40000000 in
theorem lw_0 {E : ah_E} {nx : Nat} {h : ah_H} {f1 f2 f3 : Nat → Int32} (F : FrC E nx h) (G : FrM f1 f2 f3 (nx + 16) h) (hn : h.1 = nx + 76) (hL : E.2.2.2.2.1 = 5) (hk : E.2.2.2.2.2 0 &&& (63 : Int32) = 0) : ∃ h3, bL_law_18 E zf (some nx) (some (nx + 16)) 0 h = some (1, h3) ∧ h3.1 ≤ h.1 + 64 ∧ h3.2.1 ≤ h.2.1 + 4096 := by
  obtain ⟨g, hg⟩ := Classical.skolem.mp (fun p : Int64 × Int32 => pc_feed F hn (p.1) (p.2))
  obtain ⟨g3, hg3⟩ := Classical.skolem.mp (fun p : Int64 × Int32 => pm_feed (E := E) (G.keep rfl hn (hg p).2) (p.1) (p.2))
  have e2 : ∀ (w : Int64) (n : Int32), fX9_feed E (some nx) w n h = some (q_feed n, g (w, n)) := fun w n => (hg (w, n)).1
  have e3 : ∀ (w : Int64) (n : Int32), fX10_feed E (some (nx + 16)) w n (g (w, n)) = some (q_feed n, g3 (w, n)) := fun w n => (hg3 (w, n)).1
  refine ⟨_, by simp [bL_law_18, bL_law_1381, zf, ↓rb_ob2, hL, hk, e2, e3]; rfl, ?_, ?_⟩
  · rw [(hg3 _).2.1]; exact (hg _).2.2.1
  · rw [(hg3 _).2.2]; exact (hg _).2.2.2.1
set_option maxRecDepth 100000 in
set_option maxHeartbeats 40000000 in
theorem lw_1 {E : ah_E} {nx : Nat} {h : ah_H} {f1 f2 f3 : Nat → Int32} (F : FrC E nx h) (G : FrM f1 f2 f3 (nx + 16) h) (hn : h.1 = nx + 76) (hL : E.2.2.2.2.1 = 5) (hk : E.2.2.2.2.2 0 &&& (63 : Int32) = 1) : ∃ h3, bL_law_18 E zf (some nx) (some (nx + 16)) 0 h = some (1, h3) ∧ h3.1 ≤ h.1 + 64 ∧ h3.2.1 ≤ h.2.1 + 4096 := by
  obtain ⟨g, hg⟩ := Classical.skolem.mp (fun p : Int32 => pc_cut F hn (p))
  obtain ⟨g3, hg3⟩ := Classical.skolem.mp (fun p : Int32 => pm_cut (E := E) (G.keep rfl hn (hg p).2) (p))
  have e2 : ∀ (n : Int32), fX9_cut E (some nx) n h = some (q_cut n, g n) := fun n => (hg n).1
  have e3 : ∀ (n : Int32), fX10_cut E (some (nx + 16)) n (g n) = some (q_cut n, g3 n) := fun n => (hg3 n).1
  refine ⟨_, by simp [bL_law_18, bL_law_1381, zf, ↓rb_ob2, hL, hk, e2, e3]; rfl, ?_, ?_⟩
  · rw [(hg3 _).2.1]; exact (hg _).2.2.1
  · rw [(hg3 _).2.2]; exact (hg _).2.2.2.1
set_option maxRecDepth 100000 in
set_option maxHeartbeats 40000000 in
theorem lw_2 {E : ah_E} {nx : Nat} {h : ah_H} {f1 f2 f3 : Nat → Int32} (F : FrC E nx h) (G : FrM f1 f2 f3 (nx + 16) h) (hn : h.1 = nx + 76) (hL : E.2.2.2.2.1 = 5) (hk : E.2.2.2.2.2 0 &&& (63 : Int32) = 2) : ∃ h3, bL_law_18 E zf (some nx) (some (nx + 16)) 0 h = some (1, h3) ∧ h3.1 ≤ h.1 + 64 ∧ h3.2.1 ≤ h.2.1 + 4096 := by
  obtain ⟨g, hg⟩ := Classical.skolem.mp (fun p : Int32 => pc_byteAt F hn (p))
  obtain ⟨g3, hg3⟩ := Classical.skolem.mp (fun p : Int32 => pm_byteAt (E := E) (G.keep rfl hn (hg p).2) (p))
  have e2 : ∀ (i : Int32), fX9_byteAt E (some nx) i h = some (-1, g i) := fun i => (hg i).1
  have e3 : ∀ (i : Int32), fX10_byteAt E (some (nx + 16)) i (g i) = some (-1, g3 i) := fun i => (hg3 i).1
  refine ⟨_, by simp [bL_law_18, bL_law_1381, zf, ↓rb_ob2, hL, hk, e2, e3]; rfl, ?_, ?_⟩
  · rw [(hg3 _).2.1]; exact (hg _).2.2.1
  · rw [(hg3 _).2.2]; exact (hg _).2.2.2.1
set_option maxRecDepth 100000 in
set_option maxHeartbeats 40000000 in
theorem lw_3 {E : ah_E} {nx : Nat} {h : ah_H} {f1 f2 f3 : Nat → Int32} (F : FrC E nx h) (G : FrM f1 f2 f3 (nx + 16) h) (hn : h.1 = nx + 76) (hL : E.2.2.2.2.1 = 5) (hk : E.2.2.2.2.2 0 &&& (63 : Int32) = 3) : ∃ h3, bL_law_18 E zf (some nx) (some (nx + 16)) 0 h = some (1, h3) ∧ h3.1 ≤ h.1 + 64 ∧ h3.2.1 ≤ h.2.1 + 4096 := by
  obtain ⟨g, hg⟩ := Classical.skolem.mp (fun p : Int64 => pc_put F hn (p))
  obtain ⟨g3, hg3⟩ := Classical.skolem.mp (fun p : Int64 => pm_put (E := E) (G.keep rfl hn (hg p).2) (p))
  have e2 : ∀ (k : Int64), fX9_put E (some nx) k h = some (0, g k) := fun k => (hg k).1
  have e3 : ∀ (k : Int64), fX10_put E (some (nx + 16)) k (g k) = some (0, g3 k) := fun k => (hg3 k).1
  refine ⟨_, by simp [bL_law_18, bL_law_1381, zf, ↓rb_ob2, hL, hk, e2, e3]; rfl, ?_, ?_⟩
  · rw [(hg3 _).2.1]; exact (hg _).2.2.1
  · rw [(hg3 _).2.2]; exact (hg _).2.2.2.1
set_option maxRecDepth 100000 in
set_option maxHeartbeats 40000000 in
theorem lw_4 {E : ah_E} {nx : Nat} {h : ah_H} {f1 f2 f3 : Nat → Int32} (F : FrC E nx h) (G : FrM f1 f2 f3 (nx + 16) h) (hn : h.1 = nx + 76) (hL : E.2.2.2.2.1 = 5) (hk : E.2.2.2.2.2 0 &&& (63 : Int32) = 4) : ∃ h3, bL_law_18 E zf (some nx) (some (nx + 16)) 0 h = some (1, h3) ∧ h3.1 ≤ h.1 + 64 ∧ h3.2.1 ≤ h.2.1 + 4096 := by
  obtain ⟨g, hg⟩ := Classical.skolem.mp (fun p : Int64 => pc_append F hn (p))
  obtain ⟨g3, hg3⟩ := Classical.skolem.mp (fun p : Int64 => pm_append (E := E) (G.keep rfl hn (hg p).2) (p))
  have e2 : ∀ (k : Int64), fX9_append E (some nx) k h = some (0, g k) := fun k => (hg k).1
  have e3 : ∀ (k : Int64), fX10_append E (some (nx + 16)) k (g k) = some (0, g3 k) := fun k => (hg3 k).1
  refine ⟨_, by simp [bL_law_18, bL_law_1381, zf, ↓rb_ob2, hL, hk, e2, e3]; rfl, ?_, ?_⟩
  · rw [(hg3 _).2.1]; exact (hg _).2.2.1
  · rw [(hg3 _).2.2]; exact (hg _).2.2.2.1
set_option maxRecDepth 100000 in
set_option maxHeartbeats 40000000 in
theorem lw_5 {E : ah_E} {nx : Nat} {h : ah_H} {f1 f2 f3 : Nat → Int32} (F : FrC E nx h) (G : FrM f1 f2 f3 (nx + 16) h) (hn : h.1 = nx + 76) (hL : E.2.2.2.2.1 = 5) (hk : E.2.2.2.2.2 0 &&& (63 : Int32) = 5) : ∃ h3, bL_law_18 E zf (some nx) (some (nx + 16)) 0 h = some (1, h3) ∧ h3.1 ≤ h.1 + 64 ∧ h3.2.1 ≤ h.2.1 + 4096 := by
  obtain ⟨g, hg⟩ := Classical.skolem.mp (fun p : Int64 × Int32 => pc_swap F hn (p.1) (p.2))
  obtain ⟨g3, hg3⟩ := Classical.skolem.mp (fun p : Int64 × Int32 => pm_swap (E := E) (G.keep rfl hn (hg p).2) (p.1) (p.2))
  have e2 : ∀ (k : Int64) (n : Int32), fX9_swap E (some nx) k n h = some (q_swap n, g (k, n)) := fun k n => (hg (k, n)).1
  have e3 : ∀ (k : Int64) (n : Int32), fX10_swap E (some (nx + 16)) k n (g (k, n)) = some (q_swap n, g3 (k, n)) := fun k n => (hg3 (k, n)).1
  refine ⟨_, by simp [bL_law_18, bL_law_1381, zf, ↓rb_ob2, hL, hk, e2, e3]; rfl, ?_, ?_⟩
  · rw [(hg3 _).2.1]; exact (hg _).2.2.1
  · rw [(hg3 _).2.2]; exact (hg _).2.2.2.1
set_option maxRecDepth 100000 in
set_option maxHeartbeats 40000000 in
theorem lw_6 {E : ah_E} {nx : Nat} {h : ah_H} {f1 f2 f3 : Nat → Int32} (F : FrC E nx h) (G : FrM f1 f2 f3 (nx + 16) h) (hn : h.1 = nx + 76) (hL : E.2.2.2.2.1 = 5) (hk : E.2.2.2.2.2 0 &&& (63 : Int32) = 6) : ∃ h3, bL_law_18 E zf (some nx) (some (nx + 16)) 0 h = some (1, h3) ∧ h3.1 ≤ h.1 + 64 ∧ h3.2.1 ≤ h.2.1 + 4096 := by
  obtain ⟨g, hg⟩ := Classical.skolem.mp (fun p : Int64 => pc_drop F hn (p))
  obtain ⟨g3, hg3⟩ := Classical.skolem.mp (fun p : Int64 => pm_drop (E := E) (G.keep rfl hn (hg p).2) (p))
  have e2 : ∀ (k : Int64), fX9_drop E (some nx) k h = some (0, g k) := fun k => (hg k).1
  have e3 : ∀ (k : Int64), fX10_drop E (some (nx + 16)) k (g k) = some (0, g3 k) := fun k => (hg3 k).1
  refine ⟨_, by simp [bL_law_18, bL_law_1381, zf, ↓rb_ob2, hL, hk, e2, e3]; rfl, ?_, ?_⟩
  · rw [(hg3 _).2.1]; exact (hg _).2.2.1
  · rw [(hg3 _).2.2]; exact (hg _).2.2.2.1
set_option maxRecDepth 100000 in
set_option maxHeartbeats 40000000 in
theorem lw_7 {E : ah_E} {nx : Nat} {h : ah_H} {f1 f2 f3 : Nat → Int32} (F : FrC E nx h) (G : FrM f1 f2 f3 (nx + 16) h) (hn : h.1 = nx + 76) (hL : E.2.2.2.2.1 = 5) (hk : E.2.2.2.2.2 0 &&& (63 : Int32) = 7) : ∃ h3, bL_law_18 E zf (some nx) (some (nx + 16)) 0 h = some (1, h3) ∧ h3.1 ≤ h.1 + 64 ∧ h3.2.1 ≤ h.2.1 + 4096 := by
  obtain ⟨g, hg⟩ := Classical.skolem.mp (fun p : Int64 × Int64 => pc_sweep F hn (p.1) (p.2))
  obtain ⟨g3, hg3⟩ := Classical.skolem.mp (fun p : Int64 × Int64 => pm_sweep (E := E) (G.keep rfl hn (hg p).2) (p.1) (p.2))
  have e2 : ∀ (a : Int64) (b : Int64), fX9_sweep E (some nx) a b h = some (q_sweep a b, g (a, b)) := fun a b => (hg (a, b)).1
  have e3 : ∀ (a : Int64) (b : Int64), fX10_sweep E (some (nx + 16)) a b (g (a, b)) = some (q_sweep a b, g3 (a, b)) := fun a b => (hg3 (a, b)).1
  refine ⟨_, by simp [bL_law_18, bL_law_1381, zf, ↓rb_ob2, hL, hk, e2, e3]; rfl, ?_, ?_⟩
  · rw [(hg3 _).2.1]; exact (hg _).2.2.1
  · rw [(hg3 _).2.2]; exact (hg _).2.2.2.1
set_option maxRecDepth 100000 in
set_option maxHeartbeats 40000000 in
theorem lw_8 {E : ah_E} {nx : Nat} {h : ah_H} {f1 f2 f3 : Nat → Int32} (F : FrC E nx h) (G : FrM f1 f2 f3 (nx + 16) h) (hn : h.1 = nx + 76) (hL : E.2.2.2.2.1 = 5) (hk : E.2.2.2.2.2 0 &&& (63 : Int32) = 8) : ∃ h3, bL_law_18 E zf (some nx) (some (nx + 16)) 0 h = some (1, h3) ∧ h3.1 ≤ h.1 + 64 ∧ h3.2.1 ≤ h.2.1 + 4096 := by
  obtain ⟨g, hg⟩ := Classical.skolem.mp (fun p : Int64 => pc_get F hn (p))
  obtain ⟨g3, hg3⟩ := Classical.skolem.mp (fun p : Int64 => pm_get (E := E) (G.keep rfl hn (hg p).2) (p))
  have e2 : ∀ (k : Int64), fX9_get E (some nx) k h = some (-1, g k) := fun k => (hg k).1
  have e3 : ∀ (k : Int64), fX10_get E (some (nx + 16)) k (g k) = some (-1, g3 k) := fun k => (hg3 k).1
  refine ⟨_, by simp [bL_law_18, bL_law_1381, zf, ↓rb_ob2, hL, hk, e2, e3]; rfl, ?_, ?_⟩
  · rw [(hg3 _).2.1]; exact (hg _).2.2.1
  · rw [(hg3 _).2.2]; exact (hg _).2.2.2.1
set_option maxRecDepth 100000 in
set_option maxHeartbeats 40000000 in
theorem lw_9 {E : ah_E} {nx : Nat} {h : ah_H} {f1 f2 f3 : Nat → Int32} (F : FrC E nx h) (G : FrM f1 f2 f3 (nx + 16) h) (hn : h.1 = nx + 76) (hL : E.2.2.2.2.1 = 5) (hk : E.2.2.2.2.2 0 &&& (63 : Int32) = 9) : ∃ h3, bL_law_18 E zf (some nx) (some (nx + 16)) 0 h = some (1, h3) ∧ h3.1 ≤ h.1 + 64 ∧ h3.2.1 ≤ h.2.1 + 4096 := by
  obtain ⟨g, hg⟩ := Classical.skolem.mp (fun p : Int64 => pc_has F hn (p))
  obtain ⟨g3, hg3⟩ := Classical.skolem.mp (fun p : Int64 => pm_has (E := E) (G.keep rfl hn (hg p).2) (p))
  have e2 : ∀ (k : Int64), fX9_has E (some nx) k h = some (0, g k) := fun k => (hg k).1
  have e3 : ∀ (k : Int64), fX10_has E (some (nx + 16)) k (g k) = some (0, g3 k) := fun k => (hg3 k).1
  refine ⟨_, by simp [bL_law_18, bL_law_1381, zf, ↓rb_ob2, hL, hk, e2, e3]; rfl, ?_, ?_⟩
  · rw [(hg3 _).2.1]; exact (hg _).2.2.1
  · rw [(hg3 _).2.2]; exact (hg _).2.2.2.1
set_option maxRecDepth 100000 in
set_option maxHeartbeats 40000000 in
theorem lw_10 {E : ah_E} {nx : Nat} {h : ah_H} {f1 f2 f3 : Nat → Int32} (F : FrC E nx h) (G : FrM f1 f2 f3 (nx + 16) h) (hn : h.1 = nx + 76) (hL : E.2.2.2.2.1 = 5) (hk : E.2.2.2.2.2 0 &&& (63 : Int32) = 10) : ∃ h3, bL_law_18 E zf (some nx) (some (nx + 16)) 0 h = some (1, h3) ∧ h3.1 ≤ h.1 + 64 ∧ h3.2.1 ≤ h.2.1 + 4096 := by
  obtain ⟨g, hg⟩ := Classical.skolem.mp (fun p : Int64 => pc_next F hn (p))
  obtain ⟨g3, hg3⟩ := Classical.skolem.mp (fun p : Int64 => pm_next (E := E) (G.keep rfl hn (hg p).2) (p))
  have e2 : ∀ (k : Int64), fX9_next E (some nx) k h = some (0, g k) := fun k => (hg k).1
  have e3 : ∀ (k : Int64), fX10_next E (some (nx + 16)) k (g k) = some (0, g3 k) := fun k => (hg3 k).1
  refine ⟨_, by simp [bL_law_18, bL_law_1381, zf, ↓rb_ob2, hL, hk, e2, e3]; rfl, ?_, ?_⟩
  · rw [(hg3 _).2.1]; exact (hg _).2.2.1
  · rw [(hg3 _).2.2]; exact (hg _).2.2.2.1
set_option maxRecDepth 100000 in
set_option maxHeartbeats 40000000 in
theorem lw_11 {E : ah_E} {nx : Nat} {h : ah_H} {f1 f2 f3 : Nat → Int32} (F : FrC E nx h) (G : FrM f1 f2 f3 (nx + 16) h) (hn : h.1 = nx + 76) (hL : E.2.2.2.2.1 = 5) (hk : E.2.2.2.2.2 0 &&& (63 : Int32) = 11) : ∃ h3, bL_law_18 E zf (some nx) (some (nx + 16)) 0 h = some (1, h3) ∧ h3.1 ≤ h.1 + 64 ∧ h3.2.1 ≤ h.2.1 + 4096 := by
  obtain ⟨g, hg⟩ := Classical.skolem.mp (fun p : Int64 => pc_prior F hn (p))
  obtain ⟨g3, hg3⟩ := Classical.skolem.mp (fun p : Int64 => pm_prior (E := E) (G.keep rfl hn (hg p).2) (p))
  have e2 : ∀ (k : Int64), fX9_prior E (some nx) k h = some (0, g k) := fun k => (hg k).1
  have e3 : ∀ (k : Int64), fX10_prior E (some (nx + 16)) k (g k) = some (0, g3 k) := fun k => (hg3 k).1
  refine ⟨_, by simp [bL_law_18, bL_law_1381, zf, ↓rb_ob2, hL, hk, e2, e3]; rfl, ?_, ?_⟩
  · rw [(hg3 _).2.1]; exact (hg _).2.2.1
  · rw [(hg3 _).2.2]; exact (hg _).2.2.2.1
set_option maxRecDepth 100000 in
set_option maxHeartbeats 40000000 in
theorem lw_12 {E : ah_E} {nx : Nat} {h : ah_H} {f1 f2 f3 : Nat → Int32} (F : FrC E nx h) (G : FrM f1 f2 f3 (nx + 16) h) (hn : h.1 = nx + 76) (hL : E.2.2.2.2.1 = 5) (hk : E.2.2.2.2.2 0 &&& (63 : Int32) = 12) : ∃ h3, bL_law_18 E zf (some nx) (some (nx + 16)) 0 h = some (1, h3) ∧ h3.1 ≤ h.1 + 64 ∧ h3.2.1 ≤ h.2.1 + 4096 := by
  obtain ⟨g, e2, k2⟩ := pc_found F hn
  obtain ⟨g3, e3, a1, a2⟩ := pm_found (E := E) (G.keep rfl hn k2)
  refine ⟨_, by simp [bL_law_18, bL_law_1381, zf, ↓rb_ob2, hL, hk, e2, e3]; rfl, ?_, ?_⟩
  · rw [a1]; exact k2.2.1
  · rw [a2]; exact k2.2.2.1
set_option maxRecDepth 100000 in
set_option maxHeartbeats 40000000 in
theorem lw_13 {E : ah_E} {nx : Nat} {h : ah_H} {f1 f2 f3 : Nat → Int32} (F : FrC E nx h) (G : FrM f1 f2 f3 (nx + 16) h) (hn : h.1 = nx + 76) (hL : E.2.2.2.2.1 = 5) (hk : E.2.2.2.2.2 0 &&& (63 : Int32) = 13) : ∃ h3, bL_law_18 E zf (some nx) (some (nx + 16)) 0 h = some (1, h3) ∧ h3.1 ≤ h.1 + 64 ∧ h3.2.1 ≤ h.2.1 + 4096 := by
  obtain ⟨g, e2, k2⟩ := pc_count F hn
  obtain ⟨g3, e3, a1, a2⟩ := pm_count (E := E) (G.keep rfl hn k2)
  refine ⟨_, by simp [bL_law_18, bL_law_1381, zf, ↓rb_ob2, hL, hk, e2, e3]; rfl, ?_, ?_⟩
  · rw [a1]; exact k2.2.1
  · rw [a2]; exact k2.2.2.1
set_option maxRecDepth 100000 in
set_option maxHeartbeats 40000000 in
theorem lw_14 {E : ah_E} {nx : Nat} {h : ah_H} {f1 f2 f3 : Nat → Int32} (F : FrC E nx h) (G : FrM f1 f2 f3 (nx + 16) h) (hn : h.1 = nx + 76) (hL : E.2.2.2.2.1 = 5) (hk : E.2.2.2.2.2 0 &&& (63 : Int32) = 14) : ∃ h3, bL_law_18 E zf (some nx) (some (nx + 16)) 0 h = some (1, h3) ∧ h3.1 ≤ h.1 + 64 ∧ h3.2.1 ≤ h.2.1 + 4096 := by
  obtain ⟨g, e2, k2⟩ := pc_sink F hn
  obtain ⟨g3, e3, a1, a2⟩ := pm_sink (E := E) (G.keep rfl hn k2)
  refine ⟨_, by simp [bL_law_18, bL_law_1381, zf, ↓rb_ob2, hL, hk, e2, e3]; rfl, ?_, ?_⟩
  · rw [a1]; exact k2.2.1
  · rw [a2]; exact k2.2.2.1
set_option maxRecDepth 100000 in
set_option maxHeartbeats 40000000 in
theorem lw_15 {E : ah_E} {nx : Nat} {h : ah_H} {f1 f2 f3 : Nat → Int32} (F : FrC E nx h) (G : FrM f1 f2 f3 (nx + 16) h) (hn : h.1 = nx + 76) (hL : E.2.2.2.2.1 = 5) (hk : E.2.2.2.2.2 0 &&& (63 : Int32) = 15) : ∃ h3, bL_law_18 E zf (some nx) (some (nx + 16)) 0 h = some (1, h3) ∧ h3.1 ≤ h.1 + 64 ∧ h3.2.1 ≤ h.2.1 + 4096 := by
  obtain ⟨g, e2, k2⟩ := pc_settle F hn
  obtain ⟨g3, e3, a1, a2⟩ := pm_settle (E := E) (G.keep rfl hn k2)
  refine ⟨_, by simp [bL_law_18, bL_law_1381, zf, ↓rb_ob2, hL, hk, e2, e3]; rfl, ?_, ?_⟩
  · rw [a1]; exact k2.2.1
  · rw [a2]; exact k2.2.2.1
set_option maxRecDepth 100000 in
set_option maxHeartbeats 40000000 in
theorem lw_16 {E : ah_E} {nx : Nat} {h : ah_H} {f1 f2 f3 : Nat → Int32} (F : FrC E nx h) (G : FrM f1 f2 f3 (nx + 16) h) (hn : h.1 = nx + 76) (hL : E.2.2.2.2.1 = 5) (hk : E.2.2.2.2.2 0 &&& (63 : Int32) = 16) : ∃ h3, bL_law_18 E zf (some nx) (some (nx + 16)) 0 h = some (1, h3) ∧ h3.1 ≤ h.1 + 64 ∧ h3.2.1 ≤ h.2.1 + 4096 := by
  obtain ⟨g, e2, k2⟩ := pc_pages F hn
  obtain ⟨g3, e3, a1, a2⟩ := pm_pages (E := E) (G.keep rfl hn k2)
  refine ⟨_, by simp [bL_law_18, bL_law_1381, zf, ↓rb_ob2, hL, hk, e2, e3]; rfl, ?_, ?_⟩
  · rw [a1]; exact k2.2.1
  · rw [a2]; exact k2.2.2.1
set_option maxRecDepth 100000 in
set_option maxHeartbeats 40000000 in
theorem lw_17 {E : ah_E} {nx : Nat} {h : ah_H} {f1 f2 f3 : Nat → Int32} (F : FrC E nx h) (G : FrM f1 f2 f3 (nx + 16) h) (hn : h.1 = nx + 76) (hL : E.2.2.2.2.1 = 5) (hk : E.2.2.2.2.2 0 &&& (63 : Int32) = 17) : ∃ h3, bL_law_18 E zf (some nx) (some (nx + 16)) 0 h = some (1, h3) ∧ h3.1 ≤ h.1 + 64 ∧ h3.2.1 ≤ h.2.1 + 4096 := by
  obtain ⟨g, e2, k2⟩ := pc_height F hn
  obtain ⟨g3, e3, a1, a2⟩ := pm_height (E := E) (G.keep rfl hn k2)
  refine ⟨_, by simp [bL_law_18, bL_law_1381, zf, ↓rb_ob2, hL, hk, e2, e3]; rfl, ?_, ?_⟩
  · rw [a1]; exact k2.2.1
  · rw [a2]; exact k2.2.2.1
set_option maxRecDepth 100000 in
set_option maxHeartbeats 40000000 in
theorem lw_18 {E : ah_E} {nx : Nat} {h : ah_H} {f1 f2 f3 : Nat → Int32} (F : FrC E nx h) (G : FrM f1 f2 f3 (nx + 16) h) (hn : h.1 = nx + 76) (hL : E.2.2.2.2.1 = 5) (hk : E.2.2.2.2.2 0 &&& (63 : Int32) = 18) : ∃ h3, bL_law_18 E zf (some nx) (some (nx + 16)) 0 h = some (1, h3) ∧ h3.1 ≤ h.1 + 64 ∧ h3.2.1 ≤ h.2.1 + 4096 := by
  obtain ⟨g, e2, k2⟩ := pc_letters F hn
  obtain ⟨g3, e3, a1, a2⟩ := pm_letters (E := E) (G.keep rfl hn k2)
  refine ⟨_, by simp [bL_law_18, bL_law_1381, zf, ↓rb_ob2, hL, hk, e2, e3]; rfl, ?_, ?_⟩
  · rw [a1]; exact k2.2.1
  · rw [a2]; exact k2.2.2.1
set_option maxRecDepth 100000 in
set_option maxHeartbeats 40000000 in
theorem lw_19 {E : ah_E} {nx : Nat} {h : ah_H} {f1 f2 f3 : Nat → Int32} (F : FrC E nx h) (G : FrM f1 f2 f3 (nx + 16) h) (hn : h.1 = nx + 76) (hL : E.2.2.2.2.1 = 5) (hk : E.2.2.2.2.2 0 &&& (63 : Int32) = 19) : ∃ h3, bL_law_18 E zf (some nx) (some (nx + 16)) 0 h = some (1, h3) ∧ h3.1 ≤ h.1 + 64 ∧ h3.2.1 ≤ h.2.1 + 4096 := by
  obtain ⟨g, hg⟩ := Classical.skolem.mp (fun p : Int32 × Int32 => pc_page F hn (p.1) (p.2))
  obtain ⟨g3, hg3⟩ := Classical.skolem.mp (fun p : Int32 × Int32 => pm_page (E := E) (G.keep rfl hn (hg p).2) (p.1) (p.2))
  have e2 : ∀ (i : Int32) (w : Int32), fX9_page E (some nx) i w h = some (q_page i w, g (i, w)) := fun i w => (hg (i, w)).1
  have e3 : ∀ (i : Int32) (w : Int32), fX10_page_ E (some (nx + 16)) i w (g (i, w)) = some (q_page i w, g3 (i, w)) := fun i w => (hg3 (i, w)).1
  refine ⟨_, by simp [bL_law_18, bL_law_1381, zf, ↓rb_ob2, hL, hk, e2, e3]; rfl, ?_, ?_⟩
  · rw [(hg3 _).2.1]; exact (hg _).2.2.1
  · rw [(hg3 _).2.2]; exact (hg _).2.2.2.1
set_option maxRecDepth 100000 in
set_option maxHeartbeats 40000000 in
theorem lw_20 {E : ah_E} {nx : Nat} {h : ah_H} {f1 f2 f3 : Nat → Int32} (F : FrC E nx h) (G : FrM f1 f2 f3 (nx + 16) h) (hn : h.1 = nx + 76) (hL : E.2.2.2.2.1 = 5) (hk : E.2.2.2.2.2 0 &&& (63 : Int32) = 20) : ∃ h3, bL_law_18 E zf (some nx) (some (nx + 16)) 0 h = some (1, h3) ∧ h3.1 ≤ h.1 + 64 ∧ h3.2.1 ≤ h.2.1 + 4096 := by
  obtain ⟨g, hg⟩ := Classical.skolem.mp (fun p : Int32 × Int32 => pc_border F hn (p.1) (p.2))
  obtain ⟨g3, hg3⟩ := Classical.skolem.mp (fun p : Int32 × Int32 => pm_border (E := E) (G.keep rfl hn (hg p).2) (p.1) (p.2))
  have e2 : ∀ (i : Int32) (k : Int32), fX9_border E (some nx) i k h = some (-1, g (i, k)) := fun i k => (hg (i, k)).1
  have e3 : ∀ (i : Int32) (k : Int32), fX10_border E (some (nx + 16)) i k (g (i, k)) = some (-1, g3 (i, k)) := fun i k => (hg3 (i, k)).1
  refine ⟨_, by simp [bL_law_18, bL_law_1381, zf, ↓rb_ob2, hL, hk, e2, e3]; rfl, ?_, ?_⟩
  · rw [(hg3 _).2.1]; exact (hg _).2.2.1
  · rw [(hg3 _).2.2]; exact (hg _).2.2.2.1
set_option maxRecDepth 100000 in
set_option maxHeartbeats 40000000 in
theorem lw_21 {E : ah_E} {nx : Nat} {h : ah_H} {f1 f2 f3 : Nat → Int32} (F : FrC E nx h) (G : FrM f1 f2 f3 (nx + 16) h) (hn : h.1 = nx + 76) (hL : E.2.2.2.2.1 = 5) (hk : E.2.2.2.2.2 0 &&& (63 : Int32) = 21) : ∃ h3, bL_law_18 E zf (some nx) (some (nx + 16)) 0 h = some (1, h3) ∧ h3.1 ≤ h.1 + 64 ∧ h3.2.1 ≤ h.2.1 + 4096 := by
  obtain ⟨g, hg⟩ := Classical.skolem.mp (fun p : Int32 × Int32 × Int32 => pc_letter F hn (p.1) (p.2.1) (p.2.2))
  obtain ⟨g3, hg3⟩ := Classical.skolem.mp (fun p : Int32 × Int32 × Int32 => pm_letter (E := E) (G.keep rfl hn (hg p).2) (p.1) (p.2.1) (p.2.2))
  have e2 : ∀ (i : Int32) (k : Int32) (w : Int32), fX9_letter E (some nx) i k w h = some (-1, g (i, k, w)) := fun i k w => (hg (i, k, w)).1
  have e3 : ∀ (i : Int32) (k : Int32) (w : Int32), fX10_letter_ E (some (nx + 16)) i k w (g (i, k, w)) = some (-1, g3 (i, k, w)) := fun i k w => (hg3 (i, k, w)).1
  refine ⟨_, by simp [bL_law_18, bL_law_1381, zf, ↓rb_ob2, hL, hk, e2, e3]; rfl, ?_, ?_⟩
  · rw [(hg3 _).2.1]; exact (hg _).2.2.1
  · rw [(hg3 _).2.2]; exact (hg _).2.2.2.1
set_option maxRecDepth 100000 in
set_option maxHeartbeats 40000000 in
theorem lw_22 {E : ah_E} {nx : Nat} {h : ah_H} {f1 f2 f3 : Nat → Int32} (F : FrC E nx h) (G : FrM f1 f2 f3 (nx + 16) h) (hn : h.1 = nx + 76) (hL : E.2.2.2.2.1 = 5) (hk : E.2.2.2.2.2 0 &&& (63 : Int32) = 22) : ∃ h3, bL_law_18 E zf (some nx) (some (nx + 16)) 0 h = some (1, h3) ∧ h3.1 ≤ h.1 + 64 ∧ h3.2.1 ≤ h.2.1 + 4096 := by
  obtain ⟨g, hg⟩ := Classical.skolem.mp (fun p : Int64 => pc_met F hn (p))
  obtain ⟨g3, hg3⟩ := Classical.skolem.mp (fun p : Int64 => pm_met (E := E) (G.keep rfl hn (hg p).2) (p))
  have e2 : ∀ (k : Int64), fX9_met E (some nx) k h = some (0, g k) := fun k => (hg k).1
  have e3 : ∀ (k : Int64), fX10_met E (some (nx + 16)) k (g k) = some (0, g3 k) := fun k => (hg3 k).1
  refine ⟨_, by simp [bL_law_18, bL_law_1381, zf, ↓rb_ob2, hL, hk, e2, e3]; rfl, ?_, ?_⟩
  · rw [(hg3 _).2.1]; exact (hg _).2.2.1
  · rw [(hg3 _).2.2]; exact (hg _).2.2.2.1
set_option maxRecDepth 100000 in
set_option maxHeartbeats 40000000 in
theorem lw_23 {E : ah_E} {nx : Nat} {h : ah_H} {f1 f2 f3 : Nat → Int32} (F : FrC E nx h) (G : FrM f1 f2 f3 (nx + 16) h) (hn : h.1 = nx + 76) (hL : E.2.2.2.2.1 = 5) (hk : E.2.2.2.2.2 0 &&& (63 : Int32) = 23) : ∃ h3, bL_law_18 E zf (some nx) (some (nx + 16)) 0 h = some (1, h3) ∧ h3.1 ≤ h.1 + 64 ∧ h3.2.1 ≤ h.2.1 + 4096 := by
  obtain ⟨g, e2, k2⟩ := pc_sync F hn
  obtain ⟨g3, e3, a1, a2⟩ := pm_sync (E := E) (G.keep rfl hn k2)
  refine ⟨_, by simp [bL_law_18, bL_law_1381, zf, ↓rb_ob2, hL, hk, e2, e3]; rfl, ?_, ?_⟩
  · rw [a1]; exact k2.2.1
  · rw [a2]; exact k2.2.2.1
set_option maxRecDepth 100000 in
set_option maxHeartbeats 40000000 in
theorem lw_24 {E : ah_E} {nx : Nat} {h : ah_H} {f1 f2 f3 : Nat → Int32} (F : FrC E nx h) (G : FrM f1 f2 f3 (nx + 16) h) (hn : h.1 = nx + 76) (hL : E.2.2.2.2.1 = 5) (hk : E.2.2.2.2.2 0 &&& (63 : Int32) = 24) : ∃ h3, bL_law_18 E zf (some nx) (some (nx + 16)) 0 h = some (1, h3) ∧ h3.1 ≤ h.1 + 64 ∧ h3.2.1 ≤ h.2.1 + 4096 := by
  obtain ⟨g, e2, k2⟩ := pc_picture F hn
  obtain ⟨g3, e3, a1, a2⟩ := pm_picture (E := E) (G.keep rfl hn k2)
  refine ⟨_, by simp [bL_law_18, bL_law_1381, zf, ↓rb_ob2, hL, hk, e2, e3]; rfl, ?_, ?_⟩
  · rw [a1]; exact k2.2.1
  · rw [a2]; exact k2.2.2.1
set_option maxRecDepth 100000 in
set_option maxHeartbeats 40000000 in
theorem lw_25 {E : ah_E} {nx : Nat} {h : ah_H} {f1 f2 f3 : Nat → Int32} (F : FrC E nx h) (G : FrM f1 f2 f3 (nx + 16) h) (hn : h.1 = nx + 76) (hL : E.2.2.2.2.1 = 5) (hk : E.2.2.2.2.2 0 &&& (63 : Int32) = 25) : ∃ h3, bL_law_18 E zf (some nx) (some (nx + 16)) 0 h = some (1, h3) ∧ h3.1 ≤ h.1 + 64 ∧ h3.2.1 ≤ h.2.1 + 4096 := by
  obtain ⟨g, hg⟩ := Classical.skolem.mp (fun p : Int32 × Int64 => pc_look F hn (p.1) (p.2))
  obtain ⟨g3, hg3⟩ := Classical.skolem.mp (fun p : Int32 × Int64 => pm_look (E := E) (G.keep rfl hn (hg p).2) (p.1) (p.2))
  have e2 : ∀ (p : Int32) (k : Int64), fX9_look E (some nx) p k h = some (-2, g (p, k)) := fun p k => (hg (p, k)).1
  have e3 : ∀ (p : Int32) (k : Int64), fX10_look E (some (nx + 16)) p k (g (p, k)) = some (-2, g3 (p, k)) := fun p k => (hg3 (p, k)).1
  refine ⟨_, by simp [bL_law_18, bL_law_1381, zf, ↓rb_ob2, hL, hk, e2, e3]; rfl, ?_, ?_⟩
  · rw [(hg3 _).2.1]; exact (hg _).2.2.1
  · rw [(hg3 _).2.2]; exact (hg _).2.2.2.1
set_option maxRecDepth 100000 in
set_option maxHeartbeats 40000000 in
theorem lw_26 {E : ah_E} {nx : Nat} {h : ah_H} {f1 f2 f3 : Nat → Int32} (F : FrC E nx h) (G : FrM f1 f2 f3 (nx + 16) h) (hn : h.1 = nx + 76) (hL : E.2.2.2.2.1 = 5) (hk : E.2.2.2.2.2 0 &&& (63 : Int32) = 26) : ∃ h3, bL_law_18 E zf (some nx) (some (nx + 16)) 0 h = some (1, h3) ∧ h3.1 ≤ h.1 + 64 ∧ h3.2.1 ≤ h.2.1 + 4096 := by
  obtain ⟨g, hg⟩ := Classical.skolem.mp (fun p : Int32 => pc_release F hn (p))
  obtain ⟨g3, hg3⟩ := Classical.skolem.mp (fun p : Int32 => pm_release (E := E) (G.keep rfl hn (hg p).2) (p))
  have e2 : ∀ (p : Int32), fX9_release E (some nx) p h = some (-1, g p) := fun p => (hg p).1
  have e3 : ∀ (p : Int32), fX10_release E (some (nx + 16)) p (g p) = some (-1, g3 p) := fun p => (hg3 p).1
  refine ⟨_, by simp [bL_law_18, bL_law_1381, zf, ↓rb_ob2, hL, hk, e2, e3]; rfl, ?_, ?_⟩
  · rw [(hg3 _).2.1]; exact (hg _).2.2.1
  · rw [(hg3 _).2.2]; exact (hg _).2.2.2.1
set_option maxRecDepth 100000 in
set_option maxHeartbeats 40000000 in
theorem lw_27 {E : ah_E} {nx : Nat} {h : ah_H} {f1 f2 f3 : Nat → Int32} (F : FrC E nx h) (G : FrM f1 f2 f3 (nx + 16) h) (hn : h.1 = nx + 76) (hL : E.2.2.2.2.1 = 5) (hk : E.2.2.2.2.2 0 &&& (63 : Int32) = 27) : ∃ h3, bL_law_18 E zf (some nx) (some (nx + 16)) 0 h = some (1, h3) ∧ h3.1 ≤ h.1 + 64 ∧ h3.2.1 ≤ h.2.1 + 4096 := by
  obtain ⟨g, hg⟩ := Classical.skolem.mp (fun p : Int32 => pc_pictured F hn (p))
  obtain ⟨g3, hg3⟩ := Classical.skolem.mp (fun p : Int32 => pm_pictured (E := E) (G.keep rfl hn (hg p).2) (p))
  have e2 : ∀ (k : Int32), fX9_pictured E (some nx) k h = some (-1, g k) := fun k => (hg k).1
  have e3 : ∀ (k : Int32), fX10_pictured E (some (nx + 16)) k (g k) = some (-1, g3 k) := fun k => (hg3 k).1
  refine ⟨_, by simp [bL_law_18, bL_law_1381, zf, ↓rb_ob2, hL, hk, e2, e3]; rfl, ?_, ?_⟩
  · rw [(hg3 _).2.1]; exact (hg _).2.2.1
  · rw [(hg3 _).2.2]; exact (hg _).2.2.2.1
set_option maxRecDepth 100000 in
set_option maxHeartbeats 40000000 in
theorem lw_28 {E : ah_E} {nx : Nat} {h : ah_H} {f1 f2 f3 : Nat → Int32} (F : FrC E nx h) (G : FrM f1 f2 f3 (nx + 16) h) (hn : h.1 = nx + 76) (hL : E.2.2.2.2.1 = 5) (hk : E.2.2.2.2.2 0 &&& (63 : Int32) = 28) : ∃ h3, bL_law_18 E zf (some nx) (some (nx + 16)) 0 h = some (1, h3) ∧ h3.1 ≤ h.1 + 64 ∧ h3.2.1 ≤ h.2.1 + 4096 := by
  obtain ⟨g, e2, k2⟩ := pc_free F hn
  obtain ⟨g3, e3, a1, a2⟩ := pm_free (E := E) (G.keep rfl hn k2)
  refine ⟨_, by simp [bL_law_18, bL_law_1381, zf, ↓rb_ob2, hL, hk, e2, e3]; rfl, ?_, ?_⟩
  · rw [a1]; exact k2.2.1
  · rw [a2]; exact k2.2.2.1
set_option maxRecDepth 100000 in
set_option maxHeartbeats 40000000 in
theorem lw_29 {E : ah_E} {nx : Nat} {h : ah_H} {f1 f2 f3 : Nat → Int32} (F : FrC E nx h) (G : FrM f1 f2 f3 (nx + 16) h) (hn : h.1 = nx + 76) (hL : E.2.2.2.2.1 = 5) (hk : E.2.2.2.2.2 0 &&& (63 : Int32) = 29) : ∃ h3, bL_law_18 E zf (some nx) (some (nx + 16)) 0 h = some (1, h3) ∧ h3.1 ≤ h.1 + 64 ∧ h3.2.1 ≤ h.2.1 + 4096 := by
  obtain ⟨g, hg⟩ := Classical.skolem.mp (fun p : Int32 => pc_fall F hn (p))
  obtain ⟨g3, hg3⟩ := Classical.skolem.mp (fun p : Int32 => pm_fall (E := E) (G.keep rfl hn (hg p).2) (p))
  have e2 : ∀ (n : Int32), fX9_fall E (some nx) n h = some (q_fall n, g n) := fun n => (hg n).1
  have e3 : ∀ (n : Int32), fX10_fall E (some (nx + 16)) n (g n) = some (q_fall n, g3 n) := fun n => (hg3 n).1
  refine ⟨_, by simp [bL_law_18, bL_law_1381, zf, ↓rb_ob2, hL, hk, e2, e3]; rfl, ?_, ?_⟩
  · rw [(hg3 _).2.1]; exact (hg _).2.2.1
  · rw [(hg3 _).2.2]; exact (hg _).2.2.2.1
set_option maxRecDepth 100000 in
set_option maxHeartbeats 40000000 in
theorem lw_30 {E : ah_E} {nx : Nat} {h : ah_H} {f1 f2 f3 : Nat → Int32} (F : FrC E nx h) (G : FrM f1 f2 f3 (nx + 16) h) (hn : h.1 = nx + 76) (hL : E.2.2.2.2.1 = 5) (hk : E.2.2.2.2.2 0 &&& (63 : Int32) = 30) : ∃ h3, bL_law_18 E zf (some nx) (some (nx + 16)) 0 h = some (1, h3) ∧ h3.1 ≤ h.1 + 64 ∧ h3.2.1 ≤ h.2.1 + 4096 := by
  obtain ⟨g, e2, k2⟩ := pc_crash F hn
  obtain ⟨g3, e3, a1, a2⟩ := pm_crash (E := E) (G.keep rfl hn k2)
  refine ⟨_, by simp [bL_law_18, bL_law_1381, zf, ↓rb_ob2, hL, hk, e2, e3]; rfl, ?_, ?_⟩
  · rw [a1]; exact k2.2.1
  · rw [a2]; exact k2.2.2.1
set_option maxRecDepth 100000 in
set_option maxHeartbeats 40000000 in
theorem lw_31 {E : ah_E} {nx : Nat} {h : ah_H} {f1 f2 f3 : Nat → Int32} (F : FrC E nx h) (G : FrM f1 f2 f3 (nx + 16) h) (hn : h.1 = nx + 76) (hL : E.2.2.2.2.1 = 5) (hk : E.2.2.2.2.2 0 &&& (63 : Int32) = 31) : ∃ h3, bL_law_18 E zf (some nx) (some (nx + 16)) 0 h = some (1, h3) ∧ h3.1 ≤ h.1 + 64 ∧ h3.2.1 ≤ h.2.1 + 4096 := by
  obtain ⟨g, e2, k2⟩ := pc_rise F hn
  obtain ⟨g3, e3, a1, a2⟩ := pm_rise (E := E) (G.keep rfl hn k2)
  refine ⟨_, by simp [bL_law_18, bL_law_1381, zf, ↓rb_ob2, hL, hk, e2, e3]; rfl, ?_, ?_⟩
  · rw [a1]; exact k2.2.1
  · rw [a2]; exact k2.2.2.1
set_option maxRecDepth 100000 in
set_option maxHeartbeats 40000000 in
theorem lw_32 {E : ah_E} {nx : Nat} {h : ah_H} {f1 f2 f3 : Nat → Int32} (F : FrC E nx h) (G : FrM f1 f2 f3 (nx + 16) h) (hn : h.1 = nx + 76) (hL : E.2.2.2.2.1 = 5) (hk : E.2.2.2.2.2 0 &&& (63 : Int32) = 32) : ∃ h3, bL_law_18 E zf (some nx) (some (nx + 16)) 0 h = some (1, h3) ∧ h3.1 ≤ h.1 + 64 ∧ h3.2.1 ≤ h.2.1 + 4096 := by
  obtain ⟨g, hg⟩ := Classical.skolem.mp (fun p : Int32 × Int32 => pc_disk F hn (p.1) (p.2))
  obtain ⟨g3, hg3⟩ := Classical.skolem.mp (fun p : Int32 × Int32 => pm_disk (E := E) (G.keep rfl hn (hg p).2) (p.1) (p.2))
  have e2 : ∀ (d : Int32) (w : Int32), fX9_disk E (some nx) d w h = some (q_disk d w, g (d, w)) := fun d w => (hg (d, w)).1
  have e3 : ∀ (d : Int32) (w : Int32), fX10_disk E (some (nx + 16)) d w (g (d, w)) = some (q_disk d w, g3 (d, w)) := fun d w => (hg3 (d, w)).1
  refine ⟨_, by simp [bL_law_18, bL_law_1381, zf, ↓rb_ob2, hL, hk, e2, e3]; rfl, ?_, ?_⟩
  · rw [(hg3 _).2.1]; exact (hg _).2.2.1
  · rw [(hg3 _).2.2]; exact (hg _).2.2.2.1
set_option maxRecDepth 100000 in
set_option maxHeartbeats 40000000 in
theorem lw_33 {E : ah_E} {nx : Nat} {h : ah_H} {f1 f2 f3 : Nat → Int32} (F : FrC E nx h) (G : FrM f1 f2 f3 (nx + 16) h) (hn : h.1 = nx + 76) (hL : E.2.2.2.2.1 = 5) (hk : E.2.2.2.2.2 0 &&& (63 : Int32) = 33) : ∃ h3, bL_law_18 E zf (some nx) (some (nx + 16)) 0 h = some (1, h3) ∧ h3.1 ≤ h.1 + 64 ∧ h3.2.1 ≤ h.2.1 + 4096 := by
  obtain ⟨g, hg⟩ := Classical.skolem.mp (fun p : Int32 => pc_bend F hn (p))
  obtain ⟨g3, hg3⟩ := Classical.skolem.mp (fun p : Int32 => pm_bend (E := E) (G.keep rfl hn (hg p).2) (p))
  have e2 : ∀ (d : Int32), fX9_bend E (some nx) d h = some (q_bend d, g d) := fun d => (hg d).1
  have e3 : ∀ (d : Int32), fX10_bend E (some (nx + 16)) d (g d) = some (q_bend d, g3 d) := fun d => (hg3 d).1
  refine ⟨_, by simp [bL_law_18, bL_law_1381, zf, ↓rb_ob2, hL, hk, e2, e3]; rfl, ?_, ?_⟩
  · rw [(hg3 _).2.1]; exact (hg _).2.2.1
  · rw [(hg3 _).2.2]; exact (hg _).2.2.2.1
set_option maxRecDepth 100000 in
set_option maxHeartbeats 40000000 in
theorem lw_34 {E : ah_E} {nx : Nat} {h : ah_H} {f1 f2 f3 : Nat → Int32} (F : FrC E nx h) (G : FrM f1 f2 f3 (nx + 16) h) (hn : h.1 = nx + 76) (hL : E.2.2.2.2.1 = 5) (hk : E.2.2.2.2.2 0 &&& (63 : Int32) = 34) : ∃ h3, bL_law_18 E zf (some nx) (some (nx + 16)) 0 h = some (1, h3) ∧ h3.1 ≤ h.1 + 64 ∧ h3.2.1 ≤ h.2.1 + 4096 := by
  obtain ⟨g, hg⟩ := Classical.skolem.mp (fun p : Int32 => pc_writes F hn (p))
  obtain ⟨g3, hg3⟩ := Classical.skolem.mp (fun p : Int32 => pm_writes (E := E) (G.keep rfl hn (hg p).2) (p))
  have e2 : ∀ (w : Int32), fX9_writes E (some nx) w h = some (q_writes w, g w) := fun w => (hg w).1
  have e3 : ∀ (w : Int32), fX10_writes E (some (nx + 16)) w (g w) = some (q_writes w, g3 w) := fun w => (hg3 w).1
  refine ⟨_, by simp [bL_law_18, bL_law_1381, zf, ↓rb_ob2, hL, hk, e2, e3]; rfl, ?_, ?_⟩
  · rw [(hg3 _).2.1]; exact (hg _).2.2.1
  · rw [(hg3 _).2.2]; exact (hg _).2.2.2.1
set_option maxRecDepth 100000 in
set_option maxHeartbeats 40000000 in
theorem lw_35 {E : ah_E} {nx : Nat} {h : ah_H} {f1 f2 f3 : Nat → Int32} (F : FrC E nx h) (G : FrM f1 f2 f3 (nx + 16) h) (hn : h.1 = nx + 76) (hL : E.2.2.2.2.1 = 5) (hk : E.2.2.2.2.2 0 &&& (63 : Int32) = 35) : ∃ h3, bL_law_18 E zf (some nx) (some (nx + 16)) 0 h = some (1, h3) ∧ h3.1 ≤ h.1 + 64 ∧ h3.2.1 ≤ h.2.1 + 4096 := by
  obtain ⟨g, hg⟩ := Classical.skolem.mp (fun p : Int32 => pc_number F hn (p))
  obtain ⟨g3, hg3⟩ := Classical.skolem.mp (fun p : Int32 => pm_number (E := E) (G.keep rfl hn (hg p).2) (p))
  have e2 : ∀ (w : Int32), fX9_number E (some nx) w h = some (q_number w, g w) := fun w => (hg w).1
  have e3 : ∀ (w : Int32), fX10_number_ E (some (nx + 16)) w (g w) = some (q_number w, g3 w) := fun w => (hg3 w).1
  refine ⟨_, by simp [bL_law_18, bL_law_1381, zf, ↓rb_ob2, hL, hk, e2, e3]; rfl, ?_, ?_⟩
  · rw [(hg3 _).2.1]; exact (hg _).2.2.1
  · rw [(hg3 _).2.2]; exact (hg _).2.2.2.1
set_option maxRecDepth 100000 in
set_option maxHeartbeats 40000000 in
theorem lw_no {E : ah_E} {nx : Nat} {h : ah_H} {f1 f2 f3 : Nat → Int32} (F : FrC E nx h) (G : FrM f1 f2 f3 (nx + 16) h) (hn : h.1 = nx + 76) (hL : E.2.2.2.2.1 = 5) (k0 : ¬ E.2.2.2.2.2 0 &&& (63 : Int32) = 0) (k1 : ¬ E.2.2.2.2.2 0 &&& (63 : Int32) = 1) (k2 : ¬ E.2.2.2.2.2 0 &&& (63 : Int32) = 2) (k3 : ¬ E.2.2.2.2.2 0 &&& (63 : Int32) = 3) (k4 : ¬ E.2.2.2.2.2 0 &&& (63 : Int32) = 4) (k5 : ¬ E.2.2.2.2.2 0 &&& (63 : Int32) = 5) (k6 : ¬ E.2.2.2.2.2 0 &&& (63 : Int32) = 6) (k7 : ¬ E.2.2.2.2.2 0 &&& (63 : Int32) = 7) (k8 : ¬ E.2.2.2.2.2 0 &&& (63 : Int32) = 8) (k9 : ¬ E.2.2.2.2.2 0 &&& (63 : Int32) = 9) (k10 : ¬ E.2.2.2.2.2 0 &&& (63 : Int32) = 10) (k11 : ¬ E.2.2.2.2.2 0 &&& (63 : Int32) = 11) (k12 : ¬ E.2.2.2.2.2 0 &&& (63 : Int32) = 12) (k13 : ¬ E.2.2.2.2.2 0 &&& (63 : Int32) = 13) (k14 : ¬ E.2.2.2.2.2 0 &&& (63 : Int32) = 14) (k15 : ¬ E.2.2.2.2.2 0 &&& (63 : Int32) = 15) (k16 : ¬ E.2.2.2.2.2 0 &&& (63 : Int32) = 16) (k17 : ¬ E.2.2.2.2.2 0 &&& (63 : Int32) = 17) (k18 : ¬ E.2.2.2.2.2 0 &&& (63 : Int32) = 18) (k19 : ¬ E.2.2.2.2.2 0 &&& (63 : Int32) = 19) (k20 : ¬ E.2.2.2.2.2 0 &&& (63 : Int32) = 20) (k21 : ¬ E.2.2.2.2.2 0 &&& (63 : Int32) = 21) (k22 : ¬ E.2.2.2.2.2 0 &&& (63 : Int32) = 22) (k23 : ¬ E.2.2.2.2.2 0 &&& (63 : Int32) = 23) (k24 : ¬ E.2.2.2.2.2 0 &&& (63 : Int32) = 24) (k25 : ¬ E.2.2.2.2.2 0 &&& (63 : Int32) = 25) (k26 : ¬ E.2.2.2.2.2 0 &&& (63 : Int32) = 26) (k27 : ¬ E.2.2.2.2.2 0 &&& (63 : Int32) = 27) (k28 : ¬ E.2.2.2.2.2 0 &&& (63 : Int32) = 28) (k29 : ¬ E.2.2.2.2.2 0 &&& (63 : Int32) = 29) (k30 : ¬ E.2.2.2.2.2 0 &&& (63 : Int32) = 30) (k31 : ¬ E.2.2.2.2.2 0 &&& (63 : Int32) = 31) (k32 : ¬ E.2.2.2.2.2 0 &&& (63 : Int32) = 32) (k33 : ¬ E.2.2.2.2.2 0 &&& (63 : Int32) = 33) (k34 : ¬ E.2.2.2.2.2 0 &&& (63 : Int32) = 34) (k35 : ¬ E.2.2.2.2.2 0 &&& (63 : Int32) = 35) : ∃ h3, bL_law_18 E zf (some nx) (some (nx + 16)) 0 h = some (1, h3) ∧ h3.1 ≤ h.1 + 64 ∧ h3.2.1 ≤ h.2.1 + 4096 := by
  refine ⟨_, by simp [bL_law_18, bL_law_1381, zf, ↓rb_ob2, hL, k0, k1, k2, k3, k4, k5, k6, k7, k8, k9, k10, k11, k12, k13, k14, k15, k16, k17, k18, k19, k20, k21, k22, k23, k24, k25, k26, k27, k28, k29, k30, k31, k32, k33, k34, k35]; rfl, by omega, by omega⟩
set_option maxRecDepth 100000 in
set_option maxHeartbeats 40000000 in
theorem lw_few {E : ah_E} {nx : Nat} {h : ah_H} (hL : E.2.2.2.2.1 < 5) : ∃ h3, bL_law_18 E zf (some nx) (some (nx + 16)) 0 h = some (1, h3) ∧ h3.1 ≤ h.1 + 64 ∧ h3.2.1 ≤ h.2.1 + 4096 := by
  have : E.2.2.2.2.1 = 0 ∨ E.2.2.2.2.1 = 1 ∨ E.2.2.2.2.1 = 2 ∨ E.2.2.2.2.1 = 3 ∨ E.2.2.2.2.1 = 4 := by omega
  rcases this with q | q | q | q | q
  · exact ⟨h, by simp [bL_law_18, zf, q], by omega, by omega⟩
  · exact ⟨h, by simp [bL_law_18, zf, q], by omega, by omega⟩
  · exact ⟨h, by simp [bL_law_18, zf, q], by omega, by omega⟩
  · exact ⟨h, by simp [bL_law_18, zf, q], by omega, by omega⟩
  · exact ⟨h, by simp [bL_law_18, zf, q], by omega, by omega⟩
theorem lw_step {E : ah_E} {nx : Nat} {h : ah_H} {f1 f2 f3 : Nat → Int32} (F : FrC E nx h) (G : FrM f1 f2 f3 (nx + 16) h) (hn : h.1 = nx + 76) (hL : E.2.2.2.2.1 ≤ 5) : ∃ h3, bL_law_18 E zf (some nx) (some (nx + 16)) 0 h = some (1, h3) ∧ h3.1 ≤ h.1 + 64 ∧ h3.2.1 ≤ h.2.1 + 4096 := by
  by_cases hL5 : E.2.2.2.2.1 = 5
  · by_cases k0 : E.2.2.2.2.2 0 &&& (63 : Int32) = 0
    · exact lw_0 F G hn hL5 k0
    by_cases k1 : E.2.2.2.2.2 0 &&& (63 : Int32) = 1
    · exact lw_1 F G hn hL5 k1
    by_cases k2 : E.2.2.2.2.2 0 &&& (63 : Int32) = 2
    · exact lw_2 F G hn hL5 k2
    by_cases k3 : E.2.2.2.2.2 0 &&& (63 : Int32) = 3
    · exact lw_3 F G hn hL5 k3
    by_cases k4 : E.2.2.2.2.2 0 &&& (63 : Int32) = 4
    · exact lw_4 F G hn hL5 k4
    by_cases k5 : E.2.2.2.2.2 0 &&& (63 : Int32) = 5
    · exact lw_5 F G hn hL5 k5
    by_cases k6 : E.2.2.2.2.2 0 &&& (63 : Int32) = 6
    · exact lw_6 F G hn hL5 k6
    by_cases k7 : E.2.2.2.2.2 0 &&& (63 : Int32) = 7
    · exact lw_7 F G hn hL5 k7
    by_cases k8 : E.2.2.2.2.2 0 &&& (63 : Int32) = 8
    · exact lw_8 F G hn hL5 k8
    by_cases k9 : E.2.2.2.2.2 0 &&& (63 : Int32) = 9
    · exact lw_9 F G hn hL5 k9
    by_cases k10 : E.2.2.2.2.2 0 &&& (63 : Int32) = 10
    · exact lw_10 F G hn hL5 k10
    by_cases k11 : E.2.2.2.2.2 0 &&& (63 : Int32) = 11
    · exact lw_11 F G hn hL5 k11
    by_cases k12 : E.2.2.2.2.2 0 &&& (63 : Int32) = 12
    · exact lw_12 F G hn hL5 k12
    by_cases k13 : E.2.2.2.2.2 0 &&& (63 : Int32) = 13
    · exact lw_13 F G hn hL5 k13
    by_cases k14 : E.2.2.2.2.2 0 &&& (63 : Int32) = 14
    · exact lw_14 F G hn hL5 k14
    by_cases k15 : E.2.2.2.2.2 0 &&& (63 : Int32) = 15
    · exact lw_15 F G hn hL5 k15
    by_cases k16 : E.2.2.2.2.2 0 &&& (63 : Int32) = 16
    · exact lw_16 F G hn hL5 k16
    by_cases k17 : E.2.2.2.2.2 0 &&& (63 : Int32) = 17
    · exact lw_17 F G hn hL5 k17
    by_cases k18 : E.2.2.2.2.2 0 &&& (63 : Int32) = 18
    · exact lw_18 F G hn hL5 k18
    by_cases k19 : E.2.2.2.2.2 0 &&& (63 : Int32) = 19
    · exact lw_19 F G hn hL5 k19
    by_cases k20 : E.2.2.2.2.2 0 &&& (63 : Int32) = 20
    · exact lw_20 F G hn hL5 k20
    by_cases k21 : E.2.2.2.2.2 0 &&& (63 : Int32) = 21
    · exact lw_21 F G hn hL5 k21
    by_cases k22 : E.2.2.2.2.2 0 &&& (63 : Int32) = 22
    · exact lw_22 F G hn hL5 k22
    by_cases k23 : E.2.2.2.2.2 0 &&& (63 : Int32) = 23
    · exact lw_23 F G hn hL5 k23
    by_cases k24 : E.2.2.2.2.2 0 &&& (63 : Int32) = 24
    · exact lw_24 F G hn hL5 k24
    by_cases k25 : E.2.2.2.2.2 0 &&& (63 : Int32) = 25
    · exact lw_25 F G hn hL5 k25
    by_cases k26 : E.2.2.2.2.2 0 &&& (63 : Int32) = 26
    · exact lw_26 F G hn hL5 k26
    by_cases k27 : E.2.2.2.2.2 0 &&& (63 : Int32) = 27
    · exact lw_27 F G hn hL5 k27
    by_cases k28 : E.2.2.2.2.2 0 &&& (63 : Int32) = 28
    · exact lw_28 F G hn hL5 k28
    by_cases k29 : E.2.2.2.2.2 0 &&& (63 : Int32) = 29
    · exact lw_29 F G hn hL5 k29
    by_cases k30 : E.2.2.2.2.2 0 &&& (63 : Int32) = 30
    · exact lw_30 F G hn hL5 k30
    by_cases k31 : E.2.2.2.2.2 0 &&& (63 : Int32) = 31
    · exact lw_31 F G hn hL5 k31
    by_cases k32 : E.2.2.2.2.2 0 &&& (63 : Int32) = 32
    · exact lw_32 F G hn hL5 k32
    by_cases k33 : E.2.2.2.2.2 0 &&& (63 : Int32) = 33
    · exact lw_33 F G hn hL5 k33
    by_cases k34 : E.2.2.2.2.2 0 &&& (63 : Int32) = 34
    · exact lw_34 F G hn hL5 k34
    by_cases k35 : E.2.2.2.2.2 0 &&& (63 : Int32) = 35
    · exact lw_35 F G hn hL5 k35
    exact lw_no F G hn hL5 k0 k1 k2 k3 k4 k5 k6 k7 k8 k9 k10 k11 k12 k13 k14 k15 k16 k17 k18 k19 k20 k21 k22 k23 k24 k25 k26 k27 k28 k29 k30 k31 k32 k33 k34 k35
  · exact lw_few (by omega)
theorem lw_pure_ok : lw_pure := by
  intro E nx hL hE hN hne
  obtain ⟨h1, e1, F1, n1, s1⟩ := pc_init (E := E) (nx := nx) (h := h0 E nx) rfl (by simp [h0]) (by simp [h0, hne]) hE hN
  obtain ⟨h2, f1, f2, f3, e2, G2, n2, s2, fr2⟩ := pm_init (E := E) (m := nx + 16) (h := h1) n1
  have F2 : FrC E nx h2 := F1.keep fr2
  have n3 : h2.1 = nx + 76 := by omega
  have st : fL_law E (h0 E nx) = bL_law_18 E zf (some nx) (some (nx + 16)) 0 h2 := by
    unfold fL_law bL_law_0
    have z : (h0 E nx).1 = nx := rfl
    simp only [hp_new, Option.bind_some, z, e1, n1, e2]
  obtain ⟨h3, e3, b1, b2⟩ := lw_step F2 G2 n3 hL
  have z2 : (h0 E nx).2.1 = 0 := rfl
  exact ⟨h3, st.trans e3, by omega, by omega⟩
