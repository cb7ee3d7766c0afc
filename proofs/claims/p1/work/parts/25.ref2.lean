noncomputable def bX10_look_103 (E : ah_E) (k38 : Option Nat → Int64 → Int32 → Int32 → ah_H → Option (Int32 × ah_H)) (a0 : Option Nat) (a2 : Int64) (a5 : Int32) (a6 : Int32) (a7 : Int32) (h : ah_H) : Option (Int32 × ah_H) :=
  (hp_gr h a0 11 57).bind fun v1 =>
  (hp_ldi h v1 (((6 : Int32) * a6) + a7)).bind fun v3 =>
  k38 a0 a2 a5 v3 h
set_option maxRecDepth 20000 in
set_option maxHeartbeats 4000000 in
theorem rX10_look_103 {X : ah_X} {d : Nat} (hd : 1 ≤ d) {k38 : Option Nat → Int64 → Int32 → Int32 → ah_H → Option (Int32 × ah_H)} (hk38 : ∀ (x0 : Option Nat) (x1 : Int64) (x2 : Int32) (x3 : Int32) (h : ah_H) (r : Int32) (h2 : ah_H), k38 x0 x1 x2 x3 h = some (r, h2) → Rt X yX10_look cX10_look 10 (d + 1) 38 [(0, va_rf x0), (2, .long x1), (5, .int x2), (6, .int x3)] [] h (some (.int r)) h2) {a0 : Option Nat} {a2 : Int64} {a5 : Int32} {a6 : Int32} {a7 : Int32} {h : ah_H} {r : Int32} {h2 : ah_H} (hf : bX10_look_103 X.2.2.2 k38 a0 a2 a5 a6 a7 h = some (r, h2)) : Rt X yX10_look cX10_look 10 (d + 1) 103 [(0, va_rf a0), (2, .long a2), (5, .int a5), (6, .int a6), (7, .int a7)] [] h (some (.int r)) h2 := by
  unfold bX10_look_103 at hf
  refine rt_aload_n (pc := 103) (k0 := 0) (x := a0) 0 rfl dX10_look_103 ?_
  obtain ⟨v1, e2, hf⟩ := ob1 hf
  refine rt_gr (pc := 104) fd_X10_216 dX10_look_104 e2 ?_
  refine rt_bipush (pc := 107) (n := 6) (v := (6 : Int32)) (by decide) dX10_look_107 ?_
  refine rt_iload (pc := 109) (i := 6) (x := a6) 3 rfl dX10_look_109 ?_
  refine rt_imul (pc := 111) (x := (6 : Int32)) (z := a6) dX10_look_111 ?_
  refine rt_iload (pc := 112) (i := 7) (x := a7) 4 rfl dX10_look_112 ?_
  refine rt_iadd (pc := 114) (x := ((6 : Int32) * a6)) (z := a7) dX10_look_114 ?_
  obtain ⟨v3, e4, hf⟩ := ob1 hf
  refine rt_iald (pc := 115) dX10_look_115 e4 ?_
  refine rt_istore (pc := 116) (i := 6) (x := v3) (l2 := [(6, .int v3), (0, va_rf a0), (2, .long a2), (5, .int a5), (7, .int a7)]) (by decide) (by first | rfl | (simp [rt_cat, cat_i, cat_l]; done) | (simp [rt_cat, cat_i, cat_l]; decide)) dX10_look_116 ?_
  refine rt_goto (pc := 118) (tgt := 38) (by decide) dX10_look_118 ?_
  exact rt_locals (rt_sub [1, 2, 3, 0] rfl) (hk38 _ _ _ _ _ _ _ hf)
noncomputable def bX10_look_63 (E : ah_E) (k38 : Option Nat → Int64 → Int32 → Int32 → ah_H → Option (Int32 × ah_H)) : Nat → Option Nat → Int64 → Int32 → Int32 → Int32 → ah_H → Option (Int32 × ah_H)
  | 0 => fun _ _ _ _ _ _ => none
  | n + 1 => fun a0 a2 a5 a6 a7 h =>
  (hp_gr h a0 11 53).bind fun v1 =>
  (hp_ldi h v1 a6).bind fun v3 =>
  if v3 ≤ (a7 + (1 : Int32)) then
    bX10_look_103 E k38 a0 a2 a5 a6 a7 h
  else
  (hp_gr h a0 11 54).bind fun v6 =>
  (hp_ldl h v6 ((((6 : Int32) * a6) + a7) + (1 : Int32))).bind fun v8 =>
  if a2 < v8 then
    bX10_look_103 E k38 a0 a2 a5 a6 a7 h
  else
  bX10_look_63 E k38 n a0 a2 a5 a6 (a7 + 1) h
set_option maxRecDepth 20000 in
set_option maxHeartbeats 4000000 in
theorem rX10_look_63 {X : ah_X} {d : Nat} (hd : 1 ≤ d) {k38 : Option Nat → Int64 → Int32 → Int32 → ah_H → Option (Int32 × ah_H)} (hk38 : ∀ (x0 : Option Nat) (x1 : Int64) (x2 : Int32) (x3 : Int32) (h : ah_H) (r : Int32) (h2 : ah_H), k38 x0 x1 x2 x3 h = some (r, h2) → Rt X yX10_look cX10_look 10 (d + 1) 38 [(0, va_rf x0), (2, .long x1), (5, .int x2), (6, .int x3)] [] h (some (.int r)) h2) (n : Nat) : ∀ (a0 : Option Nat) (a2 : Int64) (a5 : Int32) (a6 : Int32) (a7 : Int32) (h : ah_H) (r : Int32) (h2 : ah_H), bX10_look_63 X.2.2.2 k38 n a0 a2 a5 a6 a7 h = some (r, h2) → Rt X yX10_look cX10_look 10 (d + 1) 63 [(0, va_rf a0), (2, .long a2), (5, .int a5), (6, .int a6), (7, .int a7)] [] h (some (.int r)) h2 := by
  induction n with
  | zero => intro a0 a2 a5 a6 a7 h r h2 hf; cases hf
  | succ n ih =>
  intro a0 a2 a5 a6 a7 h r h2 hf
  unfold bX10_look_63 at hf
  refine rt_iload (pc := 63) (i := 7) (x := a7) 4 rfl dX10_look_63 ?_
  refine rt_iconst (pc := 65) (n := 1) (v := (1 : Int32)) (by decide) dX10_look_65 ?_
  refine rt_iadd (pc := 66) (x := a7) (z := (1 : Int32)) dX10_look_66 ?_
  refine rt_aload_n (pc := 67) (k0 := 0) (x := a0) 0 rfl dX10_look_67 ?_
  obtain ⟨v1, e2, hf⟩ := ob1 hf
  refine rt_gr (pc := 68) fd_X10_203 dX10_look_68 e2 ?_
  refine rt_iload (pc := 71) (i := 6) (x := a6) 3 rfl dX10_look_71 ?_
  obtain ⟨v3, e4, hf⟩ := ob1 hf
  refine rt_iald (pc := 73) dX10_look_73 e4 ?_
  by_cases c5 : v3 ≤ (a7 + (1 : Int32))
  · rw [if_pos c5] at hf
    refine rt_icmp_ge_p (pc := 74) (x := (a7 + (1 : Int32))) (z := v3) (tgt := 103) (by decide) dX10_look_74 c5 ?_
    exact rX10_look_103 hd hk38 hf
  rw [if_neg c5] at hf
  refine rt_icmp_ge_n (pc := 74) (x := (a7 + (1 : Int32))) (z := v3) (tgt := 103) (by decide) dX10_look_74 c5 ?_
  refine rt_aload_n (pc := 77) (k0 := 0) (x := a0) 0 rfl dX10_look_77 ?_
  obtain ⟨v6, e7, hf⟩ := ob1 hf
  refine rt_gr (pc := 78) fd_X10_206 dX10_look_78 e7 ?_
  refine rt_bipush (pc := 81) (n := 6) (v := (6 : Int32)) (by decide) dX10_look_81 ?_
  refine rt_iload (pc := 83) (i := 6) (x := a6) 3 rfl dX10_look_83 ?_
  refine rt_imul (pc := 85) (x := (6 : Int32)) (z := a6) dX10_look_85 ?_
  refine rt_iload (pc := 86) (i := 7) (x := a7) 4 rfl dX10_look_86 ?_
  refine rt_iadd (pc := 88) (x := ((6 : Int32) * a6)) (z := a7) dX10_look_88 ?_
  refine rt_iconst (pc := 89) (n := 1) (v := (1 : Int32)) (by decide) dX10_look_89 ?_
  refine rt_iadd (pc := 90) (x := (((6 : Int32) * a6) + a7)) (z := (1 : Int32)) dX10_look_90 ?_
  obtain ⟨v8, e9, hf⟩ := ob1 hf
  refine rt_lald (pc := 91) dX10_look_91 e9 ?_
  refine rt_lload_n (pc := 92) (k0 := 2) (x := a2) 1 rfl dX10_look_92 ?_
  by_cases c10 : a2 < v8
  · rw [if_pos c10] at hf
    refine rt_lif_gt_p (pc := 93) (x := v8) (z := a2) (tgt := 103) (by decide) dX10_look_93 dX10_look_94 c10 ?_
    exact rX10_look_103 hd hk38 hf
  rw [if_neg c10] at hf
  refine rt_lif_gt_n (pc := 93) (x := v8) (z := a2) (tgt := 103) (by decide) dX10_look_93 dX10_look_94 c10 ?_
  refine rt_iinc (pc := 97) (i := 7) (n := 1) (x := a7) (v := (a7 + 1)) (l2 := [(7, .int (a7 + 1)), (0, va_rf a0), (2, .long a2), (5, .int a5), (6, .int a6)]) 4 rfl rfl (by decide) (by first | rfl | (simp [rt_cat, cat_i, cat_l]; done) | (simp [rt_cat, cat_i, cat_l]; decide)) dX10_look_97 ?_
  refine rt_goto (pc := 100) (tgt := 63) (by decide) dX10_look_100 ?_
  exact rt_locals (rt_sub [1, 2, 3, 4, 0] rfl) (ih _ _ _ _ _ _ _ _ hf)
noncomputable def bX10_look_213 (E : ah_E) (k133 : Option Nat → Int64 → Int32 → Int32 → Int32 → ah_H → Option (Int32 × ah_H)) (a0 : Option Nat) (a2 : Int64) (a5 : Int32) (a6 : Int32) (a7 : Int32) (h : ah_H) : Option (Int32 × ah_H) :=
  k133 a0 a2 a5 a6 (a7 + 1) h
set_option maxRecDepth 20000 in
set_option maxHeartbeats 4000000 in
theorem rX10_look_213 {X : ah_X} {d : Nat} (hd : 1 ≤ d) {k133 : Option Nat → Int64 → Int32 → Int32 → Int32 → ah_H → Option (Int32 × ah_H)} (hk133 : ∀ (x0 : Option Nat) (x1 : Int64) (x2 : Int32) (x3 : Int32) (x4 : Int32) (h : ah_H) (r : Int32) (h2 : ah_H), k133 x0 x1 x2 x3 x4 h = some (r, h2) → Rt X yX10_look cX10_look 10 (d + 1) 133 [(0, va_rf x0), (2, .long x1), (5, .int x2), (6, .int x3), (7, .int x4)] [] h (some (.int r)) h2) {a0 : Option Nat} {a2 : Int64} {a5 : Int32} {a6 : Int32} {a7 : Int32} {h : ah_H} {r : Int32} {h2 : ah_H} (hf : bX10_look_213 X.2.2.2 k133 a0 a2 a5 a6 a7 h = some (r, h2)) : Rt X yX10_look cX10_look 10 (d + 1) 213 [(0, va_rf a0), (2, .long a2), (5, .int a5), (6, .int a6), (7, .int a7)] [] h (some (.int r)) h2 := by
  unfold bX10_look_213 at hf
  refine rt_iinc (pc := 213) (i := 7) (n := 1) (x := a7) (v := (a7 + 1)) (l2 := [(7, .int (a7 + 1)), (0, va_rf a0), (2, .long a2), (5, .int a5), (6, .int a6)]) 4 rfl rfl (by decide) (by first | rfl | (simp [rt_cat, cat_i, cat_l]; done) | (simp [rt_cat, cat_i, cat_l]; decide)) dX10_look_213 ?_
  refine rt_goto (pc := 216) (tgt := 133) (by decide) dX10_look_216 ?_
  exact rt_locals (rt_sub [1, 2, 3, 4, 0] rfl) (hk133 _ _ _ _ _ _ _ _ hf)
noncomputable def bX10_look_180 (E : ah_E) (k133 : Option Nat → Int64 → Int32 → Int32 → Int32 → ah_H → Option (Int32 × ah_H)) : Nat → Option Nat → Int64 → Int32 → Int32 → Int32 → Int32 → ah_H → Option (Int32 × ah_H)
  | 0 => fun _ _ _ _ _ _ _ => none
  | n + 1 => fun a0 a2 a5 a6 a7 a8 h =>
  if (20 : Int32) ≤ a8 then
    bX10_look_213 E k133 a0 a2 a5 a6 a7 h
  else
  (hp_gr h a0 11 16).bind fun v2 =>
  (hp_gr h a0 11 56).bind fun v4 =>
  (hp_ldb h v4 (((20 : Int32) * a7) + a8)).bind fun v6 =>
  (hp_stb h v2 a8 v6).bind fun w8 =>
  bX10_look_180 E k133 n a0 a2 a5 a6 a7 (a8 + 1) w8
set_option maxRecDepth 20000 in
set_option maxHeartbeats 4000000 in
theorem rX10_look_180 {X : ah_X} {d : Nat} (hd : 1 ≤ d) {k133 : Option Nat → Int64 → Int32 → Int32 → Int32 → ah_H → Option (Int32 × ah_H)} (hk133 : ∀ (x0 : Option Nat) (x1 : Int64) (x2 : Int32) (x3 : Int32) (x4 : Int32) (h : ah_H) (r : Int32) (h2 : ah_H), k133 x0 x1 x2 x3 x4 h = some (r, h2) → Rt X yX10_look cX10_look 10 (d + 1) 133 [(0, va_rf x0), (2, .long x1), (5, .int x2), (6, .int x3), (7, .int x4)] [] h (some (.int r)) h2) (n : Nat) : ∀ (a0 : Option Nat) (a2 : Int64) (a5 : Int32) (a6 : Int32) (a7 : Int32) (a8 : Int32) (h : ah_H) (r : Int32) (h2 : ah_H), bX10_look_180 X.2.2.2 k133 n a0 a2 a5 a6 a7 a8 h = some (r, h2) → Rt X yX10_look cX10_look 10 (d + 1) 180 [(0, va_rf a0), (2, .long a2), (5, .int a5), (6, .int a6), (7, .int a7), (8, .int a8)] [] h (some (.int r)) h2 := by
  induction n with
  | zero => intro a0 a2 a5 a6 a7 a8 h r h2 hf; cases hf
  | succ n ih =>
  intro a0 a2 a5 a6 a7 a8 h r h2 hf
  unfold bX10_look_180 at hf
  refine rt_iload (pc := 180) (i := 8) (x := a8) 5 rfl dX10_look_180 ?_
  refine rt_bipush (pc := 182) (n := 20) (v := (20 : Int32)) (by decide) dX10_look_182 ?_
  by_cases c1 : (20 : Int32) ≤ a8
  · rw [if_pos c1] at hf
    refine rt_icmp_ge_p (pc := 184) (x := a8) (z := (20 : Int32)) (tgt := 213) (by decide) dX10_look_184 c1 ?_
    exact rt_locals (rt_sub [0, 1, 2, 3, 4] rfl) (rX10_look_213 hd hk133 hf)
  rw [if_neg c1] at hf
  refine rt_icmp_ge_n (pc := 184) (x := a8) (z := (20 : Int32)) (tgt := 213) (by decide) dX10_look_184 c1 ?_
  refine rt_aload_n (pc := 187) (k0 := 0) (x := a0) 0 rfl dX10_look_187 ?_
  obtain ⟨v2, e3, hf⟩ := ob1 hf
  refine rt_gr (pc := 188) fd_X10_40 dX10_look_188 e3 ?_
  refine rt_iload (pc := 191) (i := 8) (x := a8) 5 rfl dX10_look_191 ?_
  refine rt_aload_n (pc := 193) (k0 := 0) (x := a0) 0 rfl dX10_look_193 ?_
  obtain ⟨v4, e5, hf⟩ := ob1 hf
  refine rt_gr (pc := 194) fd_X10_213 dX10_look_194 e5 ?_
  refine rt_bipush (pc := 197) (n := 20) (v := (20 : Int32)) (by decide) dX10_look_197 ?_
  refine rt_iload (pc := 199) (i := 7) (x := a7) 4 rfl dX10_look_199 ?_
  refine rt_imul (pc := 201) (x := (20 : Int32)) (z := a7) dX10_look_201 ?_
  refine rt_iload (pc := 202) (i := 8) (x := a8) 5 rfl dX10_look_202 ?_
  refine rt_iadd (pc := 204) (x := ((20 : Int32) * a7)) (z := a8) dX10_look_204 ?_
  obtain ⟨v6, e7, hf⟩ := ob1 hf
  refine rt_bald (pc := 205) dX10_look_205 e7 ?_
  obtain ⟨w8, e9, hf⟩ := ob1 hf
  refine rt_bast (pc := 206) dX10_look_206 e9 ?_
  refine rt_iinc (pc := 207) (i := 8) (n := 1) (x := a8) (v := (a8 + 1)) (l2 := [(8, .int (a8 + 1)), (0, va_rf a0), (2, .long a2), (5, .int a5), (6, .int a6), (7, .int a7)]) 5 rfl rfl (by decide) (by first | rfl | (simp [rt_cat, cat_i, cat_l]; done) | (simp [rt_cat, cat_i, cat_l]; decide)) dX10_look_207 ?_
  refine rt_goto (pc := 210) (tgt := 180) (by decide) dX10_look_210 ?_
  exact rt_locals (rt_sub [1, 2, 3, 4, 5, 0] rfl) (ih _ _ _ _ _ _ _ _ _ hf)
noncomputable def bX10_look_313 (E : ah_E) (k225 : Option Nat → Int64 → Int32 → ah_H → Option (Int32 × ah_H)) (k242 : Option Nat → Int64 → Int32 → Int32 → ah_H → Option (Int32 × ah_H)) (a0 : Option Nat) (a2 : Int64) (a7 : Int32) (a8 : Int32) (s0 : Int32) (h : ah_H) : Option (Int32 × ah_H) :=
  k242 a0 a2 a7 (a8 + 1) h
set_option maxRecDepth 20000 in
set_option maxHeartbeats 4000000 in
theorem rX10_look_313 {X : ah_X} {d : Nat} (hd : 1 ≤ d) {k225 : Option Nat → Int64 → Int32 → ah_H → Option (Int32 × ah_H)} (hk225 : ∀ (x0 : Option Nat) (x1 : Int64) (x2 : Int32) (h : ah_H) (r : Int32) (h2 : ah_H), k225 x0 x1 x2 h = some (r, h2) → Rt X yX10_look cX10_look 10 (d + 1) 225 [(0, va_rf x0), (2, .long x1), (7, .int x2)] [] h (some (.int r)) h2) {k242 : Option Nat → Int64 → Int32 → Int32 → ah_H → Option (Int32 × ah_H)} (hk242 : ∀ (x0 : Option Nat) (x1 : Int64) (x2 : Int32) (x3 : Int32) (h : ah_H) (r : Int32) (h2 : ah_H), k242 x0 x1 x2 x3 h = some (r, h2) → Rt X yX10_look cX10_look 10 (d + 1) 242 [(0, va_rf x0), (2, .long x1), (7, .int x2), (8, .int x3)] [] h (some (.int r)) h2) {a0 : Option Nat} {a2 : Int64} {a7 : Int32} {a8 : Int32} {s0 : Int32} {h : ah_H} {r : Int32} {h2 : ah_H} (hf : bX10_look_313 X.2.2.2 k225 k242 a0 a2 a7 a8 s0 h = some (r, h2)) : Rt X yX10_look cX10_look 10 (d + 1) 313 [(0, va_rf a0), (2, .long a2), (7, .int a7), (8, .int a8)] [.int s0] h (some (.int r)) h2 := by
  unfold bX10_look_313 at hf
  refine rt_istore (pc := 313) (i := 9) (x := s0) (l2 := [(9, .int s0), (0, va_rf a0), (2, .long a2), (7, .int a7), (8, .int a8)]) (by decide) (by first | rfl | (simp [rt_cat, cat_i, cat_l]; done) | (simp [rt_cat, cat_i, cat_l]; decide)) dX10_look_313 ?_
  refine rt_iinc (pc := 315) (i := 8) (n := 1) (x := a8) (v := (a8 + 1)) (l2 := [(8, .int (a8 + 1)), (9, .int s0), (0, va_rf a0), (2, .long a2), (7, .int a7)]) 4 rfl rfl (by decide) (by first | rfl | (simp [rt_cat, cat_i, cat_l]; done) | (simp [rt_cat, cat_i, cat_l]; decide)) dX10_look_315 ?_
  refine rt_goto (pc := 318) (tgt := 242) (by decide) dX10_look_318 ?_
  exact rt_locals (rt_sub [2, 3, 4, 0] rfl) (hk242 _ _ _ _ _ _ _ hf)
noncomputable def bX10_look_312 (E : ah_E) (k225 : Option Nat → Int64 → Int32 → ah_H → Option (Int32 × ah_H)) (k242 : Option Nat → Int64 → Int32 → Int32 → ah_H → Option (Int32 × ah_H)) (a0 : Option Nat) (a2 : Int64) (a7 : Int32) (a8 : Int32) (h : ah_H) : Option (Int32 × ah_H) :=
  bX10_look_313 E k225 k242 a0 a2 a7 a8 (0 : Int32) h
set_option maxRecDepth 20000 in
set_option maxHeartbeats 4000000 in
theorem rX10_look_312 {X : ah_X} {d : Nat} (hd : 1 ≤ d) {k225 : Option Nat → Int64 → Int32 → ah_H → Option (Int32 × ah_H)} (hk225 : ∀ (x0 : Option Nat) (x1 : Int64) (x2 : Int32) (h : ah_H) (r : Int32) (h2 : ah_H), k225 x0 x1 x2 h = some (r, h2) → Rt X yX10_look cX10_look 10 (d + 1) 225 [(0, va_rf x0), (2, .long x1), (7, .int x2)] [] h (some (.int r)) h2) {k242 : Option Nat → Int64 → Int32 → Int32 → ah_H → Option (Int32 × ah_H)} (hk242 : ∀ (x0 : Option Nat) (x1 : Int64) (x2 : Int32) (x3 : Int32) (h : ah_H) (r : Int32) (h2 : ah_H), k242 x0 x1 x2 x3 h = some (r, h2) → Rt X yX10_look cX10_look 10 (d + 1) 242 [(0, va_rf x0), (2, .long x1), (7, .int x2), (8, .int x3)] [] h (some (.int r)) h2) {a0 : Option Nat} {a2 : Int64} {a7 : Int32} {a8 : Int32} {h : ah_H} {r : Int32} {h2 : ah_H} (hf : bX10_look_312 X.2.2.2 k225 k242 a0 a2 a7 a8 h = some (r, h2)) : Rt X yX10_look cX10_look 10 (d + 1) 312 [(0, va_rf a0), (2, .long a2), (7, .int a7), (8, .int a8)] [] h (some (.int r)) h2 := by
  unfold bX10_look_312 at hf
  refine rt_iconst (pc := 312) (n := 0) (v := (0 : Int32)) (by decide) dX10_look_312 ?_
  exact rX10_look_313 hd hk225 hk242 hf
noncomputable def bX10_look_242 (E : ah_E) (k225 : Option Nat → Int64 → Int32 → ah_H → Option (Int32 × ah_H)) : Nat → Option Nat → Int64 → Int32 → Int32 → ah_H → Option (Int32 × ah_H)
  | 0 => fun _ _ _ _ _ => none
  | n + 1 => fun a0 a2 a7 a8 h =>
  (hp_gr h a0 11 77).bind fun v1 =>
  (hp_ldi h v1 a7).bind fun v3 =>
  (hp_gr h a0 11 58).bind fun v5 =>
  (hp_gr h a0 11 77).bind fun v7 =>
  (hp_ldi h v7 a7).bind fun v9 =>
  (hp_ldi h v5 v9).bind fun v11 =>
  if (((8 : Int32) * v3) + v11) ≤ a8 then
    k225 a0 a2 (a7 + (-1)) h
  else
  (hp_gr h a0 11 60).bind fun v14 =>
  (hp_ldl h v14 a8).bind fun v16 =>
  if a2 < v16 then
    bX10_look_312 E k225 (bX10_look_242 E k225 n) a0 a2 a7 a8 h
  else
  (hp_gr h a0 11 61).bind fun v19 =>
  (hp_ldl h v19 a8).bind fun v21 =>
  if v21 < a2 then
    bX10_look_312 E k225 (bX10_look_242 E k225 n) a0 a2 a7 a8 h
  else
  (hp_gr h a0 11 59).bind fun v24 =>
  (hp_ldi h v24 a8).bind fun v26 =>
  ob2 (fX10_acts E a0 v26 h) fun v30 w29 =>
  if v30 = 0 then
    bX10_look_312 E k225 (bX10_look_242 E k225 n) a0 a2 a7 a8 w29
  else
  bX10_look_313 E k225 (bX10_look_242 E k225 n) a0 a2 a7 a8 (1 : Int32) w29
set_option maxRecDepth 20000 in
set_option maxHeartbeats 4000000 in
theorem rX10_look_242 {X : ah_X} {d : Nat} (hd : 1 ≤ d) {k225 : Option Nat → Int64 → Int32 → ah_H → Option (Int32 × ah_H)} (hk225 : ∀ (x0 : Option Nat) (x1 : Int64) (x2 : Int32) (h : ah_H) (r : Int32) (h2 : ah_H), k225 x0 x1 x2 h = some (r, h2) → Rt X yX10_look cX10_look 10 (d + 1) 225 [(0, va_rf x0), (2, .long x1), (7, .int x2)] [] h (some (.int r)) h2) (n : Nat) : ∀ (a0 : Option Nat) (a2 : Int64) (a7 : Int32) (a8 : Int32) (h : ah_H) (r : Int32) (h2 : ah_H), bX10_look_242 X.2.2.2 k225 n a0 a2 a7 a8 h = some (r, h2) → Rt X yX10_look cX10_look 10 (d + 1) 242 [(0, va_rf a0), (2, .long a2), (7, .int a7), (8, .int a8)] [] h (some (.int r)) h2 := by
  induction n with
  | zero => intro a0 a2 a7 a8 h r h2 hf; cases hf
  | succ n ih =>
  intro a0 a2 a7 a8 h r h2 hf
  unfold bX10_look_242 at hf
  refine rt_iload (pc := 242) (i := 8) (x := a8) 3 rfl dX10_look_242 ?_
  refine rt_bipush (pc := 244) (n := 8) (v := (8 : Int32)) (by decide) dX10_look_244 ?_
  refine rt_aload_n (pc := 246) (k0 := 0) (x := a0) 0 rfl dX10_look_246 ?_
  obtain ⟨v1, e2, hf⟩ := ob1 hf
  refine rt_gr (pc := 247) fd_X10_267 dX10_look_247 e2 ?_
  refine rt_iload (pc := 250) (i := 7) (x := a7) 2 rfl dX10_look_250 ?_
  obtain ⟨v3, e4, hf⟩ := ob1 hf
  refine rt_iald (pc := 252) dX10_look_252 e4 ?_
  refine rt_imul (pc := 253) (x := (8 : Int32)) (z := v3) dX10_look_253 ?_
  refine rt_aload_n (pc := 254) (k0 := 0) (x := a0) 0 rfl dX10_look_254 ?_
  obtain ⟨v5, e6, hf⟩ := ob1 hf
  refine rt_gr (pc := 255) fd_X10_219 dX10_look_255 e6 ?_
  refine rt_aload_n (pc := 258) (k0 := 0) (x := a0) 0 rfl dX10_look_258 ?_
  obtain ⟨v7, e8, hf⟩ := ob1 hf
  refine rt_gr (pc := 259) fd_X10_267 dX10_look_259 e8 ?_
  refine rt_iload (pc := 262) (i := 7) (x := a7) 2 rfl dX10_look_262 ?_
  obtain ⟨v9, e10, hf⟩ := ob1 hf
  refine rt_iald (pc := 264) dX10_look_264 e10 ?_
  obtain ⟨v11, e12, hf⟩ := ob1 hf
  refine rt_iald (pc := 265) dX10_look_265 e12 ?_
  refine rt_iadd (pc := 266) (x := ((8 : Int32) * v3)) (z := v11) dX10_look_266 ?_
  by_cases c13 : (((8 : Int32) * v3) + v11) ≤ a8
  · rw [if_pos c13] at hf
    refine rt_icmp_ge_p (pc := 267) (x := a8) (z := (((8 : Int32) * v3) + v11)) (tgt := 321) (by decide) dX10_look_267 c13 ?_
    refine rt_iinc (pc := 321) (i := 7) (n := -1) (x := a7) (v := (a7 + (-1))) (l2 := [(7, .int (a7 + (-1))), (0, va_rf a0), (2, .long a2), (8, .int a8)]) 2 rfl rfl (by decide) (by first | rfl | (simp [rt_cat, cat_i, cat_l]; done) | (simp [rt_cat, cat_i, cat_l]; decide)) dX10_look_321 ?_
    refine rt_goto (pc := 324) (tgt := 225) (by decide) dX10_look_324 ?_
    exact rt_locals (rt_sub [1, 2, 0] rfl) (hk225 _ _ _ _ _ _ hf)
  rw [if_neg c13] at hf
  refine rt_icmp_ge_n (pc := 267) (x := a8) (z := (((8 : Int32) * v3) + v11)) (tgt := 321) (by decide) dX10_look_267 c13 ?_
  refine rt_aload_n (pc := 270) (k0 := 0) (x := a0) 0 rfl dX10_look_270 ?_
  obtain ⟨v14, e15, hf⟩ := ob1 hf
  refine rt_gr (pc := 271) fd_X10_225 dX10_look_271 e15 ?_
  refine rt_iload (pc := 274) (i := 8) (x := a8) 3 rfl dX10_look_274 ?_
  obtain ⟨v16, e17, hf⟩ := ob1 hf
  refine rt_lald (pc := 276) dX10_look_276 e17 ?_
  refine rt_lload_n (pc := 277) (k0 := 2) (x := a2) 1 rfl dX10_look_277 ?_
  by_cases c18 : a2 < v16
  · rw [if_pos c18] at hf
    refine rt_lif_gt_p (pc := 278) (x := v16) (z := a2) (tgt := 312) (by decide) dX10_look_278 dX10_look_279 c18 ?_
    exact rX10_look_312 hd hk225 ih hf
  rw [if_neg c18] at hf
  refine rt_lif_gt_n (pc := 278) (x := v16) (z := a2) (tgt := 312) (by decide) dX10_look_278 dX10_look_279 c18 ?_
  refine rt_lload_n (pc := 282) (k0 := 2) (x := a2) 1 rfl dX10_look_282 ?_
  refine rt_aload_n (pc := 283) (k0 := 0) (x := a0) 0 rfl dX10_look_283 ?_
  obtain ⟨v19, e20, hf⟩ := ob1 hf
  refine rt_gr (pc := 284) fd_X10_228 dX10_look_284 e20 ?_
  refine rt_iload (pc := 287) (i := 8) (x := a8) 3 rfl dX10_look_287 ?_
  obtain ⟨v21, e22, hf⟩ := ob1 hf
  refine rt_lald (pc := 289) dX10_look_289 e22 ?_
  by_cases c23 : v21 < a2
  · rw [if_pos c23] at hf
    refine rt_lif_gt_p (pc := 290) (x := a2) (z := v21) (tgt := 312) (by decide) dX10_look_290 dX10_look_291 c23 ?_
    exact rX10_look_312 hd hk225 ih hf
  rw [if_neg c23] at hf
  refine rt_lif_gt_n (pc := 290) (x := a2) (z := v21) (tgt := 312) (by decide) dX10_look_290 dX10_look_291 c23 ?_
  refine rt_aload_n (pc := 294) (k0 := 0) (x := a0) 0 rfl dX10_look_294 ?_
  refine rt_aload_n (pc := 295) (k0 := 0) (x := a0) 0 rfl dX10_look_295 ?_
  obtain ⟨v24, e25, hf⟩ := ob1 hf
  refine rt_gr (pc := 296) fd_X10_222 dX10_look_296 e25 ?_
  refine rt_iload (pc := 299) (i := 8) (x := a8) 3 rfl dX10_look_299 ?_
  obtain ⟨v26, e27, hf⟩ := ob1 hf
  refine rt_iald (pc := 301) dX10_look_301 e27 ?_
  obtain ⟨v30, w29, e28, hf⟩ := ob2_of hf
  have g31 := sX10_acts d (by omega) e28
  refine rt_callV (pc := 302) (As := [.int v26]) (st := []) me_X10_acts mi_X10_acts wl_X10_80 dX10_look_302 rfl (by decide) rfl g31.1 g31.2 ?_
  by_cases c32 : v30 = 0
  · rw [if_pos c32] at hf
    refine rt_if_eq_p (pc := 305) (x := v30) (tgt := 312) (by decide) dX10_look_305 c32 ?_
    exact rX10_look_312 hd hk225 ih hf
  rw [if_neg c32] at hf
  refine rt_if_eq_n (pc := 305) (x := v30) (tgt := 312) (by decide) dX10_look_305 c32 ?_
  refine rt_iconst (pc := 308) (n := 1) (v := (1 : Int32)) (by decide) dX10_look_308 ?_
  refine rt_goto (pc := 309) (tgt := 313) (by decide) dX10_look_309 ?_
  exact rX10_look_313 hd hk225 ih hf
noncomputable def bX10_look_348 (E : ah_E) : Nat → Option Nat → Int32 → ah_H → Option (Int32 × ah_H)
  | 0 => fun _ _ _ => none
  | n + 1 => fun a0 a7 h =>
  (hp_gi h a0 11 17).bind fun v1 =>
  if v1 ≤ a7 then
    (hp_gi h a0 11 17).bind fun v4 =>
    some (v4, h)
  else
  (hp_gr h a0 11 1).bind fun v6 =>
  (hp_gr h a0 11 16).bind fun v8 =>
  (hp_ldb h v8 a7).bind fun v10 =>
  (hp_stb h v6 a7 v10).bind fun w12 =>
  bX10_look_348 E n a0 (a7 + 1) w12
set_option maxRecDepth 20000 in
set_option maxHeartbeats 4000000 in
theorem rX10_look_348 {X : ah_X} {d : Nat} (hd : 1 ≤ d) (n : Nat) : ∀ (a0 : Option Nat) (a7 : Int32) (h : ah_H) (r : Int32) (h2 : ah_H), bX10_look_348 X.2.2.2 n a0 a7 h = some (r, h2) → Rt X yX10_look cX10_look 10 (d + 1) 348 [(0, va_rf a0), (7, .int a7)] [] h (some (.int r)) h2 := by
  induction n with
  | zero => intro a0 a7 h r h2 hf; cases hf
  | succ n ih =>
  intro a0 a7 h r h2 hf
  unfold bX10_look_348 at hf
  refine rt_iload (pc := 348) (i := 7) (x := a7) 1 rfl dX10_look_348 ?_
  refine rt_aload_n (pc := 350) (k0 := 0) (x := a0) 0 rfl dX10_look_350 ?_
  obtain ⟨v1, e2, hf⟩ := ob1 hf
  refine rt_gi (pc := 351) fd_X10_34 dX10_look_351 e2 ?_
  by_cases c3 : v1 ≤ a7
  · rw [if_pos c3] at hf
    refine rt_icmp_ge_p (pc := 354) (x := a7) (z := v1) (tgt := 377) (by decide) dX10_look_354 c3 ?_
    refine rt_aload_n (pc := 377) (k0 := 0) (x := a0) 0 rfl dX10_look_377 ?_
    obtain ⟨v4, e5, hf⟩ := ob1 hf
    refine rt_gi (pc := 378) fd_X10_34 dX10_look_378 e5 ?_
    cases hf
    exact rt_ret (pc := 381) dX10_look_381 rfl
  rw [if_neg c3] at hf
  refine rt_icmp_ge_n (pc := 354) (x := a7) (z := v1) (tgt := 377) (by decide) dX10_look_354 c3 ?_
  refine rt_aload_n (pc := 357) (k0 := 0) (x := a0) 0 rfl dX10_look_357 ?_
  obtain ⟨v6, e7, hf⟩ := ob1 hf
  refine rt_gr (pc := 358) fd_X10_12 dX10_look_358 e7 ?_
  refine rt_iload (pc := 361) (i := 7) (x := a7) 1 rfl dX10_look_361 ?_
  refine rt_aload_n (pc := 363) (k0 := 0) (x := a0) 0 rfl dX10_look_363 ?_
  obtain ⟨v8, e9, hf⟩ := ob1 hf
  refine rt_gr (pc := 364) fd_X10_40 dX10_look_364 e9 ?_
  refine rt_iload (pc := 367) (i := 7) (x := a7) 1 rfl dX10_look_367 ?_
  obtain ⟨v10, e11, hf⟩ := ob1 hf
  refine rt_bald (pc := 369) dX10_look_369 e11 ?_
  obtain ⟨w12, e13, hf⟩ := ob1 hf
  refine rt_bast (pc := 370) dX10_look_370 e13 ?_
  refine rt_iinc (pc := 371) (i := 7) (n := 1) (x := a7) (v := (a7 + 1)) (l2 := [(7, .int (a7 + 1)), (0, va_rf a0)]) 1 rfl rfl (by decide) (by first | rfl | (simp [rt_cat, cat_i, cat_l]; done) | (simp [rt_cat, cat_i, cat_l]; decide)) dX10_look_371 ?_
  refine rt_goto (pc := 374) (tgt := 348) (by decide) dX10_look_374 ?_
  exact rt_locals (rt_sub [1, 0] rfl) (ih _ _ _ _ _ hf)
noncomputable def bX10_look_225 (E : ah_E) : Nat → Option Nat → Int64 → Int32 → ah_H → Option (Int32 × ah_H)
  | 0 => fun _ _ _ _ => none
  | n + 1 => fun a0 a2 a7 h =>
  if a7 < 0 then
    (hp_gi h a0 11 17).bind fun v2 =>
    if v2 = (-1 : Int32) then
      some ((-1 : Int32), h)
    else
    (hp_gi h a0 11 17).bind fun v5 =>
    (hp_pv h a0 11 2 (.int v5)).bind fun w7 =>
    bX10_look_348 E zf a0 (0 : Int32) w7
  else
  (hp_gr h a0 11 77).bind fun v9 =>
  (hp_ldi h v9 a7).bind fun v11 =>
  bX10_look_242 E (bX10_look_225 E n) zf a0 a2 a7 ((8 : Int32) * v11) h
set_option maxRecDepth 20000 in
set_option maxHeartbeats 4000000 in
theorem rX10_look_225 {X : ah_X} {d : Nat} (hd : 1 ≤ d) (n : Nat) : ∀ (a0 : Option Nat) (a2 : Int64) (a7 : Int32) (h : ah_H) (r : Int32) (h2 : ah_H), bX10_look_225 X.2.2.2 n a0 a2 a7 h = some (r, h2) → Rt X yX10_look cX10_look 10 (d + 1) 225 [(0, va_rf a0), (2, .long a2), (7, .int a7)] [] h (some (.int r)) h2 := by
  induction n with
  | zero => intro a0 a2 a7 h r h2 hf; cases hf
  | succ n ih =>
  intro a0 a2 a7 h r h2 hf
  unfold bX10_look_225 at hf
  refine rt_iload (pc := 225) (i := 7) (x := a7) 2 rfl dX10_look_225 ?_
  by_cases c1 : a7 < 0
  · rw [if_pos c1] at hf
    refine rt_if_lt_p (pc := 227) (x := a7) (tgt := 327) (by decide) dX10_look_227 c1 ?_
    refine rt_aload_n (pc := 327) (k0 := 0) (x := a0) 0 rfl dX10_look_327 ?_
    obtain ⟨v2, e3, hf⟩ := ob1 hf
    refine rt_gi (pc := 328) fd_X10_34 dX10_look_328 e3 ?_
    refine rt_iconst (pc := 331) (n := -1) (v := (-1 : Int32)) (by decide) dX10_look_331 ?_
    by_cases c4 : v2 = (-1 : Int32)
    · rw [if_pos c4] at hf
      refine rt_icmp_ne_p (pc := 332) (x := v2) (z := (-1 : Int32)) (tgt := 337) (by decide) dX10_look_332 c4 ?_
      refine rt_iconst (pc := 335) (n := -1) (v := (-1 : Int32)) (by decide) dX10_look_335 ?_
      cases hf
      exact rt_ret (pc := 336) dX10_look_336 rfl
    rw [if_neg c4] at hf
    refine rt_icmp_ne_n (pc := 332) (x := v2) (z := (-1 : Int32)) (tgt := 337) (by decide) dX10_look_332 c4 ?_
    refine rt_aload_n (pc := 337) (k0 := 0) (x := a0) 0 rfl dX10_look_337 ?_
    refine rt_aload_n (pc := 338) (k0 := 0) (x := a0) 0 rfl dX10_look_338 ?_
    obtain ⟨v5, e6, hf⟩ := ob1 hf
    refine rt_gi (pc := 339) fd_X10_34 dX10_look_339 e6 ?_
    obtain ⟨w7, e8, hf⟩ := ob1 hf
    refine rt_putf (pc := 342) (x := a0) fw_X10_9 (Or.inl rfl) (pf_i _).1 (pf_i _).2 dX10_look_342 e8 ?_
    refine rt_iconst (pc := 345) (n := 0) (v := (0 : Int32)) (by decide) dX10_look_345 ?_
    refine rt_istore (pc := 346) (i := 7) (x := (0 : Int32)) (l2 := [(7, .int (0 : Int32)), (0, va_rf a0), (2, .long a2)]) (by decide) (by first | rfl | (simp [rt_cat, cat_i, cat_l]; done) | (simp [rt_cat, cat_i, cat_l]; decide)) dX10_look_346 ?_
    exact rt_locals (rt_sub [1, 0] rfl) (rX10_look_348 hd zf _ _ _ _ _ hf)
  rw [if_neg c1] at hf
  refine rt_if_lt_n (pc := 227) (x := a7) (tgt := 327) (by decide) dX10_look_227 c1 ?_
  refine rt_bipush (pc := 230) (n := 8) (v := (8 : Int32)) (by decide) dX10_look_230 ?_
  refine rt_aload_n (pc := 232) (k0 := 0) (x := a0) 0 rfl dX10_look_232 ?_
  obtain ⟨v9, e10, hf⟩ := ob1 hf
  refine rt_gr (pc := 233) fd_X10_267 dX10_look_233 e10 ?_
  refine rt_iload (pc := 236) (i := 7) (x := a7) 2 rfl dX10_look_236 ?_
  obtain ⟨v11, e12, hf⟩ := ob1 hf
  refine rt_iald (pc := 238) dX10_look_238 e12 ?_
  refine rt_imul (pc := 239) (x := (8 : Int32)) (z := v11) dX10_look_239 ?_
  refine rt_istore (pc := 240) (i := 8) (x := ((8 : Int32) * v11)) (l2 := [(8, .int ((8 : Int32) * v11)), (0, va_rf a0), (2, .long a2), (7, .int a7)]) (by decide) (by first | rfl | (simp [rt_cat, cat_i, cat_l]; done) | (simp [rt_cat, cat_i, cat_l]; decide)) dX10_look_240 ?_
  exact rt_locals (rt_sub [1, 2, 3, 0] rfl) (rX10_look_242 hd ih zf _ _ _ _ _ _ _ hf)
noncomputable def bX10_look_133 (E : ah_E) : Nat → Option Nat → Int64 → Int32 → Int32 → Int32 → ah_H → Option (Int32 × ah_H)
  | 0 => fun _ _ _ _ _ _ => none
  | n + 1 => fun a0 a2 a5 a6 a7 h =>
  (hp_gr h a0 11 53).bind fun v1 =>
  (hp_ldi h v1 a6).bind fun v3 =>
  if (((6 : Int32) * a6) + v3) ≤ a7 then
    bX10_look_225 E zf a0 a2 (a5 - (1 : Int32)) h
  else
  (hp_gr h a0 11 54).bind fun v6 =>
  (hp_ldl h v6 a7).bind fun v8 =>
  if v8 = a2 then
    (hp_gr h a0 11 55).bind fun v11 =>
    (hp_ldi h v11 a7).bind fun v13 =>
    (hp_pv h a0 11 17 (.int v13)).bind fun w15 =>
    bX10_look_180 E (bX10_look_133 E n) zf a0 a2 a5 a6 a7 (0 : Int32) w15
  else
  bX10_look_213 E (bX10_look_133 E n) a0 a2 a5 a6 a7 h
set_option maxRecDepth 20000 in
set_option maxHeartbeats 4000000 in
theorem rX10_look_133 {X : ah_X} {d : Nat} (hd : 1 ≤ d) (n : Nat) : ∀ (a0 : Option Nat) (a2 : Int64) (a5 : Int32) (a6 : Int32) (a7 : Int32) (h : ah_H) (r : Int32) (h2 : ah_H), bX10_look_133 X.2.2.2 n a0 a2 a5 a6 a7 h = some (r, h2) → Rt X yX10_look cX10_look 10 (d + 1) 133 [(0, va_rf a0), (2, .long a2), (5, .int a5), (6, .int a6), (7, .int a7)] [] h (some (.int r)) h2 := by
  induction n with
  | zero => intro a0 a2 a5 a6 a7 h r h2 hf; cases hf
  | succ n ih =>
  intro a0 a2 a5 a6 a7 h r h2 hf
  unfold bX10_look_133 at hf
  refine rt_iload (pc := 133) (i := 7) (x := a7) 4 rfl dX10_look_133 ?_
  refine rt_bipush (pc := 135) (n := 6) (v := (6 : Int32)) (by decide) dX10_look_135 ?_
  refine rt_iload (pc := 137) (i := 6) (x := a6) 3 rfl dX10_look_137 ?_
  refine rt_imul (pc := 139) (x := (6 : Int32)) (z := a6) dX10_look_139 ?_
  refine rt_aload_n (pc := 140) (k0 := 0) (x := a0) 0 rfl dX10_look_140 ?_
  obtain ⟨v1, e2, hf⟩ := ob1 hf
  refine rt_gr (pc := 141) fd_X10_203 dX10_look_141 e2 ?_
  refine rt_iload (pc := 144) (i := 6) (x := a6) 3 rfl dX10_look_144 ?_
  obtain ⟨v3, e4, hf⟩ := ob1 hf
  refine rt_iald (pc := 146) dX10_look_146 e4 ?_
  refine rt_iadd (pc := 147) (x := ((6 : Int32) * a6)) (z := v3) dX10_look_147 ?_
  by_cases c5 : (((6 : Int32) * a6) + v3) ≤ a7
  · rw [if_pos c5] at hf
    refine rt_icmp_ge_p (pc := 148) (x := a7) (z := (((6 : Int32) * a6) + v3)) (tgt := 219) (by decide) dX10_look_148 c5 ?_
    refine rt_iload (pc := 219) (i := 5) (x := a5) 2 rfl dX10_look_219 ?_
    refine rt_iconst (pc := 221) (n := 1) (v := (1 : Int32)) (by decide) dX10_look_221 ?_
    refine rt_isub (pc := 222) (x := a5) (z := (1 : Int32)) dX10_look_222 ?_
    refine rt_istore (pc := 223) (i := 7) (x := (a5 - (1 : Int32))) (l2 := [(7, .int (a5 - (1 : Int32))), (0, va_rf a0), (2, .long a2), (5, .int a5), (6, .int a6)]) (by decide) (by first | rfl | (simp [rt_cat, cat_i, cat_l]; done) | (simp [rt_cat, cat_i, cat_l]; decide)) dX10_look_223 ?_
    exact rt_locals (rt_sub [1, 2, 0] rfl) (rX10_look_225 hd zf _ _ _ _ _ _ hf)
  rw [if_neg c5] at hf
  refine rt_icmp_ge_n (pc := 148) (x := a7) (z := (((6 : Int32) * a6) + v3)) (tgt := 219) (by decide) dX10_look_148 c5 ?_
  refine rt_aload_n (pc := 151) (k0 := 0) (x := a0) 0 rfl dX10_look_151 ?_
  obtain ⟨v6, e7, hf⟩ := ob1 hf
  refine rt_gr (pc := 152) fd_X10_206 dX10_look_152 e7 ?_
  refine rt_iload (pc := 155) (i := 7) (x := a7) 4 rfl dX10_look_155 ?_
  obtain ⟨v8, e9, hf⟩ := ob1 hf
  refine rt_lald (pc := 157) dX10_look_157 e9 ?_
  refine rt_lload_n (pc := 158) (k0 := 2) (x := a2) 1 rfl dX10_look_158 ?_
  by_cases c10 : v8 = a2
  · rw [if_pos c10] at hf
    refine rt_lif_eq_p (pc := 159) (x := v8) (z := a2) (tgt := 166) (by decide) dX10_look_159 dX10_look_160 c10 ?_
    refine rt_aload_n (pc := 166) (k0 := 0) (x := a0) 0 rfl dX10_look_166 ?_
    refine rt_aload_n (pc := 167) (k0 := 0) (x := a0) 0 rfl dX10_look_167 ?_
    obtain ⟨v11, e12, hf⟩ := ob1 hf
    refine rt_gr (pc := 168) fd_X10_209 dX10_look_168 e12 ?_
    refine rt_iload (pc := 171) (i := 7) (x := a7) 4 rfl dX10_look_171 ?_
    obtain ⟨v13, e14, hf⟩ := ob1 hf
    refine rt_iald (pc := 173) dX10_look_173 e14 ?_
    obtain ⟨w15, e16, hf⟩ := ob1 hf
    refine rt_putf (pc := 174) (x := a0) fw_X10_34 (Or.inl rfl) (pf_i _).1 (pf_i _).2 dX10_look_174 e16 ?_
    refine rt_iconst (pc := 177) (n := 0) (v := (0 : Int32)) (by decide) dX10_look_177 ?_
    refine rt_istore (pc := 178) (i := 8) (x := (0 : Int32)) (l2 := [(8, .int (0 : Int32)), (0, va_rf a0), (2, .long a2), (5, .int a5), (6, .int a6), (7, .int a7)]) (by decide) (by first | rfl | (simp [rt_cat, cat_i, cat_l]; done) | (simp [rt_cat, cat_i, cat_l]; decide)) dX10_look_178 ?_
    exact rt_locals (rt_sub [1, 2, 3, 4, 5, 0] rfl) (rX10_look_180 hd ih zf _ _ _ _ _ _ _ _ _ hf)
  rw [if_neg c10] at hf
  refine rt_lif_eq_n (pc := 159) (x := v8) (z := a2) (tgt := 166) (by decide) dX10_look_159 dX10_look_160 c10 ?_
  refine rt_goto (pc := 163) (tgt := 213) (by decide) dX10_look_163 ?_
  exact rX10_look_213 hd ih hf
noncomputable def bX10_look_38 (E : ah_E) : Nat → Option Nat → Int64 → Int32 → Int32 → ah_H → Option (Int32 × ah_H)
  | 0 => fun _ _ _ _ _ => none
  | n + 1 => fun a0 a2 a5 a6 h =>
  (hp_gr h a0 11 52).bind fun v1 =>
  (hp_ldb h v1 a6).bind fun v3 =>
  if v3 = 0 then
    (hp_gr h a0 11 77).bind fun v6 =>
    (hp_sti h v6 a5 a6).bind fun w8 =>
    bX10_look_63 E (bX10_look_38 E n) zf a0 a2 (a5 + 1) a6 (0 : Int32) w8
  else
  (hp_pv h a0 11 17 (.int (-1 : Int32))).bind fun w10 =>
  bX10_look_133 E zf a0 a2 a5 a6 ((6 : Int32) * a6) w10
set_option maxRecDepth 20000 in
set_option maxHeartbeats 4000000 in
theorem rX10_look_38 {X : ah_X} {d : Nat} (hd : 1 ≤ d) (n : Nat) : ∀ (a0 : Option Nat) (a2 : Int64) (a5 : Int32) (a6 : Int32) (h : ah_H) (r : Int32) (h2 : ah_H), bX10_look_38 X.2.2.2 n a0 a2 a5 a6 h = some (r, h2) → Rt X yX10_look cX10_look 10 (d + 1) 38 [(0, va_rf a0), (2, .long a2), (5, .int a5), (6, .int a6)] [] h (some (.int r)) h2 := by
  induction n with
  | zero => intro a0 a2 a5 a6 h r h2 hf; cases hf
  | succ n ih =>
  intro a0 a2 a5 a6 h r h2 hf
  unfold bX10_look_38 at hf
  refine rt_aload_n (pc := 38) (k0 := 0) (x := a0) 0 rfl dX10_look_38 ?_
  obtain ⟨v1, e2, hf⟩ := ob1 hf
  refine rt_gr (pc := 39) fd_X10_200 dX10_look_39 e2 ?_
  refine rt_iload (pc := 42) (i := 6) (x := a6) 3 rfl dX10_look_42 ?_
  obtain ⟨v3, e4, hf⟩ := ob1 hf
  refine rt_bald (pc := 44) dX10_look_44 e4 ?_
  by_cases c5 : v3 = 0
  · rw [if_pos c5] at hf
    refine rt_if_ne_p (pc := 45) (x := v3) (tgt := 121) (by decide) dX10_look_45 c5 ?_
    refine rt_aload_n (pc := 48) (k0 := 0) (x := a0) 0 rfl dX10_look_48 ?_
    obtain ⟨v6, e7, hf⟩ := ob1 hf
    refine rt_gr (pc := 49) fd_X10_267 dX10_look_49 e7 ?_
    refine rt_iload (pc := 52) (i := 5) (x := a5) 2 rfl dX10_look_52 ?_
    refine rt_iload (pc := 54) (i := 6) (x := a6) 3 rfl dX10_look_54 ?_
    obtain ⟨w8, e9, hf⟩ := ob1 hf
    refine rt_iast (pc := 56) dX10_look_56 e9 ?_
    refine rt_iinc (pc := 57) (i := 5) (n := 1) (x := a5) (v := (a5 + 1)) (l2 := [(5, .int (a5 + 1)), (0, va_rf a0), (2, .long a2), (6, .int a6)]) 2 rfl rfl (by decide) (by first | rfl | (simp [rt_cat, cat_i, cat_l]; done) | (simp [rt_cat, cat_i, cat_l]; decide)) dX10_look_57 ?_
    refine rt_iconst (pc := 60) (n := 0) (v := (0 : Int32)) (by decide) dX10_look_60 ?_
    refine rt_istore (pc := 61) (i := 7) (x := (0 : Int32)) (l2 := [(7, .int (0 : Int32)), (5, .int (a5 + 1)), (0, va_rf a0), (2, .long a2), (6, .int a6)]) (by decide) (by first | rfl | (simp [rt_cat, cat_i, cat_l]; done) | (simp [rt_cat, cat_i, cat_l]; decide)) dX10_look_61 ?_
    exact rt_locals (rt_sub [2, 3, 1, 4, 0] rfl) (rX10_look_63 hd ih zf _ _ _ _ _ _ _ _ hf)
  rw [if_neg c5] at hf
  refine rt_if_ne_n (pc := 45) (x := v3) (tgt := 121) (by decide) dX10_look_45 c5 ?_
  refine rt_aload_n (pc := 121) (k0 := 0) (x := a0) 0 rfl dX10_look_121 ?_
  refine rt_iconst (pc := 122) (n := -1) (v := (-1 : Int32)) (by decide) dX10_look_122 ?_
  obtain ⟨w10, e11, hf⟩ := ob1 hf
  refine rt_putf (pc := 123) (x := a0) fw_X10_34 (Or.inl rfl) (pf_i _).1 (pf_i _).2 dX10_look_123 e11 ?_
  refine rt_bipush (pc := 126) (n := 6) (v := (6 : Int32)) (by decide) dX10_look_126 ?_
  refine rt_iload (pc := 128) (i := 6) (x := a6) 3 rfl dX10_look_128 ?_
  refine rt_imul (pc := 130) (x := (6 : Int32)) (z := a6) dX10_look_130 ?_
  refine rt_istore (pc := 131) (i := 7) (x := ((6 : Int32) * a6)) (l2 := [(7, .int ((6 : Int32) * a6)), (0, va_rf a0), (2, .long a2), (5, .int a5), (6, .int a6)]) (by decide) (by first | rfl | (simp [rt_cat, cat_i, cat_l]; done) | (simp [rt_cat, cat_i, cat_l]; decide)) dX10_look_131 ?_
  exact rt_locals (rt_sub [1, 2, 3, 4, 0] rfl) (rX10_look_133 hd zf _ _ _ _ _ _ _ _ hf)
noncomputable def bX10_look_0 (E : ah_E) (a0 : Option Nat) (a1 : Int32) (a2 : Int64) (h : ah_H) : Option (Int32 × ah_H) :=
  (hp_gi h a0 11 51).bind fun v1 =>
  if v1 = 0 then
    ob2 (fX10_pictureAt E a0 a1 h) fun v6 w5 =>
    if v6 = (-1 : Int32) then
      some ((-2 : Int32), w5)
    else
    (hp_gr w5 a0 11 70).bind fun v9 =>
    (hp_ldi w5 v9 v6).bind fun v11 =>
    bX10_look_38 E zf a0 a2 (0 : Int32) v11 w5
  else
  some ((-4 : Int32), h)
set_option maxRecDepth 20000 in
set_option maxHeartbeats 4000000 in
theorem rX10_look_0 {X : ah_X} {d : Nat} (hd : 1 ≤ d) {a0 : Option Nat} {a1 : Int32} {a2 : Int64} {h : ah_H} {r : Int32} {h2 : ah_H} (hf : bX10_look_0 X.2.2.2 a0 a1 a2 h = some (r, h2)) : Rt X yX10_look cX10_look 10 (d + 1) 0 [(0, va_rf a0), (1, .int a1), (2, .long a2)] [] h (some (.int r)) h2 := by
  unfold bX10_look_0 at hf
  refine rt_aload_n (pc := 0) (k0 := 0) (x := a0) 0 rfl dX10_look_0 ?_
  obtain ⟨v1, e2, hf⟩ := ob1 hf
  refine rt_gi (pc := 1) fd_X10_90 dX10_look_1 e2 ?_
  by_cases c3 : v1 = 0
  · rw [if_pos c3] at hf
    refine rt_if_eq_p (pc := 4) (x := v1) (tgt := 10) (by decide) dX10_look_4 c3 ?_
    refine rt_aload_n (pc := 10) (k0 := 0) (x := a0) 0 rfl dX10_look_10 ?_
    refine rt_iload_n (pc := 11) (k0 := 1) (x := a1) 1 rfl dX10_look_11 ?_
    obtain ⟨v6, w5, e4, hf⟩ := ob2_of hf
    have g7 := sX10_pictureAt d (by omega) e4
    refine rt_callV (pc := 12) (As := [.int a1]) (st := []) me_X10_pictureAt mi_X10_pictureAt wl_X10_397 dX10_look_12 rfl (by decide) rfl g7.1 g7.2 ?_
    refine rt_istore (pc := 15) (i := 4) (x := v6) (l2 := [(4, .int v6), (0, va_rf a0), (1, .int a1), (2, .long a2)]) (by decide) (by first | rfl | (simp [rt_cat, cat_i, cat_l]; done) | (simp [rt_cat, cat_i, cat_l]; decide)) dX10_look_15 ?_
    refine rt_iload (pc := 17) (i := 4) (x := v6) 0 rfl dX10_look_17 ?_
    refine rt_iconst (pc := 19) (n := -1) (v := (-1 : Int32)) (by decide) dX10_look_19 ?_
    by_cases c8 : v6 = (-1 : Int32)
    · rw [if_pos c8] at hf
      refine rt_icmp_ne_p (pc := 20) (x := v6) (z := (-1 : Int32)) (tgt := 26) (by decide) dX10_look_20 c8 ?_
      refine rt_bipush (pc := 23) (n := -2) (v := (-2 : Int32)) (by decide) dX10_look_23 ?_
      cases hf
      exact rt_ret (pc := 25) dX10_look_25 rfl
    rw [if_neg c8] at hf
    refine rt_icmp_ne_n (pc := 20) (x := v6) (z := (-1 : Int32)) (tgt := 26) (by decide) dX10_look_20 c8 ?_
    refine rt_iconst (pc := 26) (n := 0) (v := (0 : Int32)) (by decide) dX10_look_26 ?_
    refine rt_istore (pc := 27) (i := 5) (x := (0 : Int32)) (l2 := [(5, .int (0 : Int32)), (4, .int v6), (0, va_rf a0), (1, .int a1), (2, .long a2)]) (by decide) (by first | rfl | (simp [rt_cat, cat_i, cat_l]; done) | (simp [rt_cat, cat_i, cat_l]; decide)) dX10_look_27 ?_
    refine rt_aload_n (pc := 29) (k0 := 0) (x := a0) 2 rfl dX10_look_29 ?_
    obtain ⟨v9, e10, hf⟩ := ob1 hf
    refine rt_gr (pc := 30) fd_X10_255 dX10_look_30 e10 ?_
    refine rt_iload (pc := 33) (i := 4) (x := v6) 1 rfl dX10_look_33 ?_
    obtain ⟨v11, e12, hf⟩ := ob1 hf
    refine rt_iald (pc := 35) dX10_look_35 e12 ?_
    refine rt_istore (pc := 36) (i := 6) (x := v11) (l2 := [(6, .int v11), (5, .int (0 : Int32)), (4, .int v6), (0, va_rf a0), (1, .int a1), (2, .long a2)]) (by decide) (by first | rfl | (simp [rt_cat, cat_i, cat_l]; done) | (simp [rt_cat, cat_i, cat_l]; decide)) dX10_look_36 ?_
    exact rt_locals (rt_sub [3, 5, 1, 0] rfl) (rX10_look_38 hd zf _ _ _ _ _ _ _ hf)
  rw [if_neg c3] at hf
  refine rt_if_eq_n (pc := 4) (x := v1) (tgt := 10) (by decide) dX10_look_4 c3 ?_
  refine rt_bipush (pc := 7) (n := -4) (v := (-4 : Int32)) (by decide) dX10_look_7 ?_
  cases hf
  exact rt_ret (pc := 9) dX10_look_9 rfl
noncomputable def fX10_look (E : ah_E) (a0 : Option Nat) (a1 : Int32) (a2 : Int64) (h : ah_H) : Option (Int32 × ah_H) := if hp_rcv h a0 11 = false then none else bX10_look_0 E a0 a1 a2 h
set_option maxRecDepth 20000 in
set_option maxHeartbeats 4000000 in
theorem sX10_look {X : ah_X} (d : Nat) (hd : 2 ≤ d) {a0 : Option Nat} {a1 : Int32} {a2 : Int64} {h : ah_H} {r : Int32} {h2 : ah_H} (hf : fX10_look X.2.2.2 a0 a1 a2 h = some (r, h2)) : hp_rcv h a0 11 = true ∧ Rn X yX10_look cX10_look 10 (some .int) d [va_rf a0, .int a1, .long a2] h (some (.int r)) h2 := by
  unfold fX10_look at hf
  by_cases c0 : hp_rcv h a0 11 = false
  · rw [if_pos c0] at hf; cases hf
  rw [if_neg c0] at hf
  refine ⟨(Bool.not_eq_false _).mp c0, ?_⟩
  obtain ⟨d, rfl⟩ : ∃ k, d = k + 1 := ⟨d - 1, by omega⟩
  exact Rn.of2 me_X10_look (by simp [lg_sl, rt_cat, cat_i, cat_l]) (ok_i _) (l := [(0, va_rf a0), (1, .int a1), (2, .long a2)]) (by simp [lv_args, rt_cat, cat_i, cat_l]) (rX10_look_0 (by omega) hf)
noncomputable def bX10_met_73 (E : ah_E) (k18 : Option Nat → Int64 → Int32 → Int32 → ah_H → Option (Int32 × ah_H)) (k37 : Option Nat → Int64 → Int32 → Int32 → Int32 → ah_H → Option (Int32 × ah_H)) (a0 : Option Nat) (a1 : Int64) (a4 : Int32) (a5 : Int32) (s0 : Int32) (s1 : Int32) (h : ah_H) : Option (Int32 × ah_H) :=
  (hp_gr h a0 11 39).bind fun v1 =>
  (hp_ldi h v1 a5).bind fun v3 =>
  k37 a0 a1 (s0 + s1) a4 v3 h
set_option maxRecDepth 20000 in
set_option maxHeartbeats 4000000 in
theorem rX10_met_73 {X : ah_X} {d : Nat} (hd : 0 ≤ d) {k18 : Option Nat → Int64 → Int32 → Int32 → ah_H → Option (Int32 × ah_H)} (hk18 : ∀ (x0 : Option Nat) (x1 : Int64) (x2 : Int32) (x3 : Int32) (h : ah_H) (r : Int32) (h2 : ah_H), k18 x0 x1 x2 x3 h = some (r, h2) → Rt X yX10_met cX10_met 6 (d + 1) 18 [(0, va_rf x0), (1, .long x1), (3, .int x2), (4, .int x3)] [] h (some (.int r)) h2) {k37 : Option Nat → Int64 → Int32 → Int32 → Int32 → ah_H → Option (Int32 × ah_H)} (hk37 : ∀ (x0 : Option Nat) (x1 : Int64) (x2 : Int32) (x3 : Int32) (x4 : Int32) (h : ah_H) (r : Int32) (h2 : ah_H), k37 x0 x1 x2 x3 x4 h = some (r, h2) → Rt X yX10_met cX10_met 6 (d + 1) 37 [(0, va_rf x0), (1, .long x1), (3, .int x2), (4, .int x3), (5, .int x4)] [] h (some (.int r)) h2) {a0 : Option Nat} {a1 : Int64} {a4 : Int32} {a5 : Int32} {s0 : Int32} {s1 : Int32} {h : ah_H} {r : Int32} {h2 : ah_H} (hf : bX10_met_73 X.2.2.2 k18 k37 a0 a1 a4 a5 s0 s1 h = some (r, h2)) : Rt X yX10_met cX10_met 6 (d + 1) 73 [(0, va_rf a0), (1, .long a1), (4, .int a4), (5, .int a5)] [.int s1, .int s0] h (some (.int r)) h2 := by
  unfold bX10_met_73 at hf
  refine rt_iadd (pc := 73) (x := s0) (z := s1) dX10_met_73 ?_
  refine rt_istore_n (pc := 74) (k0 := 3) (x := (s0 + s1)) (l2 := [(3, .int (s0 + s1)), (0, va_rf a0), (1, .long a1), (4, .int a4), (5, .int a5)]) (by decide) (by first | rfl | (simp [rt_cat, cat_i, cat_l]; done) | (simp [rt_cat, cat_i, cat_l]; decide)) dX10_met_74 ?_
  refine rt_aload_n (pc := 75) (k0 := 0) (x := a0) 1 rfl dX10_met_75 ?_
  obtain ⟨v1, e2, hf⟩ := ob1 hf
  refine rt_gr (pc := 76) fd_X10_176 dX10_met_76 e2 ?_
  refine rt_iload (pc := 79) (i := 5) (x := a5) 4 rfl dX10_met_79 ?_
  obtain ⟨v3, e4, hf⟩ := ob1 hf
  refine rt_iald (pc := 81) dX10_met_81 e4 ?_
  refine rt_istore (pc := 82) (i := 5) (x := v3) (l2 := [(5, .int v3), (3, .int (s0 + s1)), (0, va_rf a0), (1, .long a1), (4, .int a4)]) (by decide) (by first | rfl | (simp [rt_cat, cat_i, cat_l]; done) | (simp [rt_cat, cat_i, cat_l]; decide)) dX10_met_82 ?_
  refine rt_goto (pc := 84) (tgt := 37) (by decide) dX10_met_84 ?_
  exact rt_locals (rt_sub [2, 3, 1, 4, 0] rfl) (hk37 _ _ _ _ _ _ _ _ hf)
noncomputable def bX10_met_72 (E : ah_E) (k18 : Option Nat → Int64 → Int32 → Int32 → ah_H → Option (Int32 × ah_H)) (k37 : Option Nat → Int64 → Int32 → Int32 → Int32 → ah_H → Option (Int32 × ah_H)) (a0 : Option Nat) (a1 : Int64) (a4 : Int32) (a5 : Int32) (s0 : Int32) (h : ah_H) : Option (Int32 × ah_H) :=
  bX10_met_73 E k18 k37 a0 a1 a4 a5 s0 (0 : Int32) h
set_option maxRecDepth 20000 in
set_option maxHeartbeats 4000000 in
theorem rX10_met_72 {X : ah_X} {d : Nat} (hd : 0 ≤ d) {k18 : Option Nat → Int64 → Int32 → Int32 → ah_H → Option (Int32 × ah_H)} (hk18 : ∀ (x0 : Option Nat) (x1 : Int64) (x2 : Int32) (x3 : Int32) (h : ah_H) (r : Int32) (h2 : ah_H), k18 x0 x1 x2 x3 h = some (r, h2) → Rt X yX10_met cX10_met 6 (d + 1) 18 [(0, va_rf x0), (1, .long x1), (3, .int x2), (4, .int x3)] [] h (some (.int r)) h2) {k37 : Option Nat → Int64 → Int32 → Int32 → Int32 → ah_H → Option (Int32 × ah_H)} (hk37 : ∀ (x0 : Option Nat) (x1 : Int64) (x2 : Int32) (x3 : Int32) (x4 : Int32) (h : ah_H) (r : Int32) (h2 : ah_H), k37 x0 x1 x2 x3 x4 h = some (r, h2) → Rt X yX10_met cX10_met 6 (d + 1) 37 [(0, va_rf x0), (1, .long x1), (3, .int x2), (4, .int x3), (5, .int x4)] [] h (some (.int r)) h2) {a0 : Option Nat} {a1 : Int64} {a4 : Int32} {a5 : Int32} {s0 : Int32} {h : ah_H} {r : Int32} {h2 : ah_H} (hf : bX10_met_72 X.2.2.2 k18 k37 a0 a1 a4 a5 s0 h = some (r, h2)) : Rt X yX10_met cX10_met 6 (d + 1) 72 [(0, va_rf a0), (1, .long a1), (4, .int a4), (5, .int a5)] [.int s0] h (some (.int r)) h2 := by
  unfold bX10_met_72 at hf
  refine rt_iconst (pc := 72) (n := 0) (v := (0 : Int32)) (by decide) dX10_met_72 ?_
  exact rX10_met_73 hd hk18 hk37 hf
noncomputable def bX10_met_37 (E : ah_E) (k18 : Option Nat → Int64 → Int32 → Int32 → ah_H → Option (Int32 × ah_H)) : Nat → Option Nat → Int64 → Int32 → Int32 → Int32 → ah_H → Option (Int32 × ah_H)
  | 0 => fun _ _ _ _ _ _ => none
  | n + 1 => fun a0 a1 a3 a4 a5 h =>
  if a5 = (-1 : Int32) then
    (hp_gr h a0 11 22).bind fun v2 =>
    ob2 (fX10_kidFor E a0 a4 a1 h) fun v6 w5 =>
    (hp_ldi w5 v2 (((128 : Int32) * a4) + v6)).bind fun v8 =>
    k18 a0 a1 a3 v8 w5
  else
  (hp_gr h a0 11 37).bind fun v10 =>
  (hp_ldl h v10 a5).bind fun v12 =>
  if a1 < v12 then
    bX10_met_72 E k18 (bX10_met_37 E k18 n) a0 a1 a4 a5 a3 h
  else
  (hp_gr h a0 11 38).bind fun v15 =>
  (hp_ldl h v15 a5).bind fun v17 =>
  if v17 < a1 then
    bX10_met_72 E k18 (bX10_met_37 E k18 n) a0 a1 a4 a5 a3 h
  else
  bX10_met_73 E k18 (bX10_met_37 E k18 n) a0 a1 a4 a5 a3 (1 : Int32) h
set_option maxRecDepth 20000 in
set_option maxHeartbeats 4000000 in
theorem rX10_met_37 {X : ah_X} {d : Nat} (hd : 0 ≤ d) {k18 : Option Nat → Int64 → Int32 → Int32 → ah_H → Option (Int32 × ah_H)} (hk18 : ∀ (x0 : Option Nat) (x1 : Int64) (x2 : Int32) (x3 : Int32) (h : ah_H) (r : Int32) (h2 : ah_H), k18 x0 x1 x2 x3 h = some (r, h2) → Rt X yX10_met cX10_met 6 (d + 1) 18 [(0, va_rf x0), (1, .long x1), (3, .int x2), (4, .int x3)] [] h (some (.int r)) h2) (n : Nat) : ∀ (a0 : Option Nat) (a1 : Int64) (a3 : Int32) (a4 : Int32) (a5 : Int32) (h : ah_H) (r : Int32) (h2 : ah_H), bX10_met_37 X.2.2.2 k18 n a0 a1 a3 a4 a5 h = some (r, h2) → Rt X yX10_met cX10_met 6 (d + 1) 37 [(0, va_rf a0), (1, .long a1), (3, .int a3), (4, .int a4), (5, .int a5)] [] h (some (.int r)) h2 := by
  induction n with
  | zero => intro a0 a1 a3 a4 a5 h r h2 hf; cases hf
  | succ n ih =>
  intro a0 a1 a3 a4 a5 h r h2 hf
  unfold bX10_met_37 at hf
  refine rt_iload (pc := 37) (i := 5) (x := a5) 4 rfl dX10_met_37 ?_
  refine rt_iconst (pc := 39) (n := -1) (v := (-1 : Int32)) (by decide) dX10_met_39 ?_
  by_cases c1 : a5 = (-1 : Int32)
  · rw [if_pos c1] at hf
    refine rt_icmp_eq_p (pc := 40) (x := a5) (z := (-1 : Int32)) (tgt := 87) (by decide) dX10_met_40 c1 ?_
    refine rt_aload_n (pc := 87) (k0 := 0) (x := a0) 0 rfl dX10_met_87 ?_
    obtain ⟨v2, e3, hf⟩ := ob1 hf
    refine rt_gr (pc := 88) fd_X10_133 dX10_met_88 e3 ?_
    refine rt_sipush (pc := 91) (n := 128) (v := (128 : Int32)) (by decide) dX10_met_91 ?_
    refine rt_iload (pc := 94) (i := 4) (x := a4) 3 rfl dX10_met_94 ?_
    refine rt_imul (pc := 96) (x := (128 : Int32)) (z := a4) dX10_met_96 ?_
    refine rt_aload_n (pc := 97) (k0 := 0) (x := a0) 0 rfl dX10_met_97 ?_
    refine rt_iload (pc := 98) (i := 4) (x := a4) 3 rfl dX10_met_98 ?_
    refine rt_lload_n (pc := 100) (k0 := 1) (x := a1) 1 rfl dX10_met_100 ?_
    obtain ⟨v6, w5, e4, hf⟩ := ob2_of hf
    have g7 := sX10_kidFor d (by omega) e4
    refine rt_callV (pc := 101) (As := [.int a4, .long a1]) (st := [.int ((128 : Int32) * a4), va_rf v2]) me_X10_kidFor mi_X10_kidFor wl_X10_307 dX10_met_101 rfl (by simp [rt_cat, cat_i, cat_l]) rfl g7.1 g7.2 ?_
    refine rt_iadd (pc := 104) (x := ((128 : Int32) * a4)) (z := v6) dX10_met_104 ?_
    obtain ⟨v8, e9, hf⟩ := ob1 hf
    refine rt_iald (pc := 105) dX10_met_105 e9 ?_
    refine rt_istore (pc := 106) (i := 4) (x := v8) (l2 := [(4, .int v8), (0, va_rf a0), (1, .long a1), (3, .int a3), (5, .int a5)]) (by decide) (by first | rfl | (simp [rt_cat, cat_i, cat_l]; done) | (simp [rt_cat, cat_i, cat_l]; decide)) dX10_met_106 ?_
    refine rt_goto (pc := 108) (tgt := 18) (by decide) dX10_met_108 ?_
    exact rt_locals (rt_sub [1, 2, 3, 0] rfl) (hk18 _ _ _ _ _ _ _ hf)
  rw [if_neg c1] at hf
  refine rt_icmp_eq_n (pc := 40) (x := a5) (z := (-1 : Int32)) (tgt := 87) (by decide) dX10_met_40 c1 ?_
  refine rt_iload_n (pc := 43) (k0 := 3) (x := a3) 2 rfl dX10_met_43 ?_
  refine rt_aload_n (pc := 44) (k0 := 0) (x := a0) 0 rfl dX10_met_44 ?_
  obtain ⟨v10, e11, hf⟩ := ob1 hf
  refine rt_gr (pc := 45) fd_X10_170 dX10_met_45 e11 ?_
  refine rt_iload (pc := 48) (i := 5) (x := a5) 4 rfl dX10_met_48 ?_
  obtain ⟨v12, e13, hf⟩ := ob1 hf
  refine rt_lald (pc := 50) dX10_met_50 e13 ?_
  refine rt_lload_n (pc := 51) (k0 := 1) (x := a1) 1 rfl dX10_met_51 ?_
  by_cases c14 : a1 < v12
  · rw [if_pos c14] at hf
    refine rt_lif_gt_p (pc := 52) (x := v12) (z := a1) (tgt := 72) (by decide) dX10_met_52 dX10_met_53 c14 ?_
    exact rt_locals (rt_sub [0, 1, 3, 4] rfl) (rX10_met_72 hd hk18 ih hf)
  rw [if_neg c14] at hf
  refine rt_lif_gt_n (pc := 52) (x := v12) (z := a1) (tgt := 72) (by decide) dX10_met_52 dX10_met_53 c14 ?_
  refine rt_lload_n (pc := 56) (k0 := 1) (x := a1) 1 rfl dX10_met_56 ?_
  refine rt_aload_n (pc := 57) (k0 := 0) (x := a0) 0 rfl dX10_met_57 ?_
  obtain ⟨v15, e16, hf⟩ := ob1 hf
  refine rt_gr (pc := 58) fd_X10_173 dX10_met_58 e16 ?_
  refine rt_iload (pc := 61) (i := 5) (x := a5) 4 rfl dX10_met_61 ?_
  obtain ⟨v17, e18, hf⟩ := ob1 hf
  refine rt_lald (pc := 63) dX10_met_63 e18 ?_
  by_cases c19 : v17 < a1
  · rw [if_pos c19] at hf
    refine rt_lif_gt_p (pc := 64) (x := a1) (z := v17) (tgt := 72) (by decide) dX10_met_64 dX10_met_65 c19 ?_
    exact rt_locals (rt_sub [0, 1, 3, 4] rfl) (rX10_met_72 hd hk18 ih hf)
  rw [if_neg c19] at hf
  refine rt_lif_gt_n (pc := 64) (x := a1) (z := v17) (tgt := 72) (by decide) dX10_met_64 dX10_met_65 c19 ?_
  refine rt_iconst (pc := 68) (n := 1) (v := (1 : Int32)) (by decide) dX10_met_68 ?_
  refine rt_goto (pc := 69) (tgt := 73) (by decide) dX10_met_69 ?_
  exact rt_locals (rt_sub [0, 1, 3, 4] rfl) (rX10_met_73 hd hk18 ih hf)
noncomputable def bX10_met_18 (E : ah_E) : Nat → Option Nat → Int64 → Int32 → Int32 → ah_H → Option (Int32 × ah_H)
  | 0 => fun _ _ _ _ _ => none
  | n + 1 => fun a0 a1 a3 a4 h =>
  (hp_gr h a0 11 18).bind fun v1 =>
  (hp_ldb h v1 a4).bind fun v3 =>
  if v3 = 0 then
    (hp_gr h a0 11 24).bind fun v6 =>
    (hp_ldi h v6 a4).bind fun v8 =>
    bX10_met_37 E (bX10_met_18 E n) zf a0 a1 a3 a4 v8 h
  else
  some (a3, h)
set_option maxRecDepth 20000 in
set_option maxHeartbeats 4000000 in
theorem rX10_met_18 {X : ah_X} {d : Nat} (hd : 0 ≤ d) (n : Nat) : ∀ (a0 : Option Nat) (a1 : Int64) (a3 : Int32) (a4 : Int32) (h : ah_H) (r : Int32) (h2 : ah_H), bX10_met_18 X.2.2.2 n a0 a1 a3 a4 h = some (r, h2) → Rt X yX10_met cX10_met 6 (d + 1) 18 [(0, va_rf a0), (1, .long a1), (3, .int a3), (4, .int a4)] [] h (some (.int r)) h2 := by
  induction n with
  | zero => intro a0 a1 a3 a4 h r h2 hf; cases hf
  | succ n ih =>
  intro a0 a1 a3 a4 h r h2 hf
  unfold bX10_met_18 at hf
  refine rt_aload_n (pc := 18) (k0 := 0) (x := a0) 0 rfl dX10_met_18 ?_
  obtain ⟨v1, e2, hf⟩ := ob1 hf
  refine rt_gr (pc := 19) fd_X10_119 dX10_met_19 e2 ?_
  refine rt_iload (pc := 22) (i := 4) (x := a4) 3 rfl dX10_met_22 ?_
  obtain ⟨v3, e4, hf⟩ := ob1 hf
  refine rt_bald (pc := 24) dX10_met_24 e4 ?_
  by_cases c5 : v3 = 0
  · rw [if_pos c5] at hf
    refine rt_if_ne_p (pc := 25) (x := v3) (tgt := 111) (by decide) dX10_met_25 c5 ?_
    refine rt_aload_n (pc := 28) (k0 := 0) (x := a0) 0 rfl dX10_met_28 ?_
    obtain ⟨v6, e7, hf⟩ := ob1 hf
    refine rt_gr (pc := 29) fd_X10_139 dX10_met_29 e7 ?_
    refine rt_iload (pc := 32) (i := 4) (x := a4) 3 rfl dX10_met_32 ?_
    obtain ⟨v8, e9, hf⟩ := ob1 hf
    refine rt_iald (pc := 34) dX10_met_34 e9 ?_
    refine rt_istore (pc := 35) (i := 5) (x := v8) (l2 := [(5, .int v8), (0, va_rf a0), (1, .long a1), (3, .int a3), (4, .int a4)]) (by decide) (by first | rfl | (simp [rt_cat, cat_i, cat_l]; done) | (simp [rt_cat, cat_i, cat_l]; decide)) dX10_met_35 ?_
    exact rt_locals (rt_sub [1, 2, 3, 4, 0] rfl) (rX10_met_37 hd ih zf _ _ _ _ _ _ _ _ hf)
  rw [if_neg c5] at hf
  refine rt_if_ne_n (pc := 25) (x := v3) (tgt := 111) (by decide) dX10_met_25 c5 ?_
  refine rt_iload_n (pc := 111) (k0 := 3) (x := a3) 2 rfl dX10_met_111 ?_
  cases hf
  exact rt_ret (pc := 112) dX10_met_112 rfl
noncomputable def bX10_met_0 (E : ah_E) (a0 : Option Nat) (a1 : Int64) (h : ah_H) : Option (Int32 × ah_H) :=
  (hp_gi h a0 11 51).bind fun v1 =>
  if v1 = 0 then
    (hp_gi h a0 11 30).bind fun v4 =>
    bX10_met_18 E zf a0 a1 (0 : Int32) v4 h
  else
  some ((-4 : Int32), h)
set_option maxRecDepth 20000 in
set_option maxHeartbeats 4000000 in
theorem rX10_met_0 {X : ah_X} {d : Nat} (hd : 0 ≤ d) {a0 : Option Nat} {a1 : Int64} {h : ah_H} {r : Int32} {h2 : ah_H} (hf : bX10_met_0 X.2.2.2 a0 a1 h = some (r, h2)) : Rt X yX10_met cX10_met 6 (d + 1) 0 [(0, va_rf a0), (1, .long a1)] [] h (some (.int r)) h2 := by
  unfold bX10_met_0 at hf
  refine rt_aload_n (pc := 0) (k0 := 0) (x := a0) 0 rfl dX10_met_0 ?_
  obtain ⟨v1, e2, hf⟩ := ob1 hf
  refine rt_gi (pc := 1) fd_X10_90 dX10_met_1 e2 ?_
  by_cases c3 : v1 = 0
  · rw [if_pos c3] at hf
    refine rt_if_eq_p (pc := 4) (x := v1) (tgt := 10) (by decide) dX10_met_4 c3 ?_
    refine rt_iconst (pc := 10) (n := 0) (v := (0 : Int32)) (by decide) dX10_met_10 ?_
    refine rt_istore_n (pc := 11) (k0 := 3) (x := (0 : Int32)) (l2 := [(3, .int (0 : Int32)), (0, va_rf a0), (1, .long a1)]) (by decide) (by first | rfl | (simp [rt_cat, cat_i, cat_l]; done) | (simp [rt_cat, cat_i, cat_l]; decide)) dX10_met_11 ?_
    refine rt_aload_n (pc := 12) (k0 := 0) (x := a0) 1 rfl dX10_met_12 ?_
    obtain ⟨v4, e5, hf⟩ := ob1 hf
    refine rt_gi (pc := 13) fd_X10_277 dX10_met_13 e5 ?_
    refine rt_istore (pc := 16) (i := 4) (x := v4) (l2 := [(4, .int v4), (3, .int (0 : Int32)), (0, va_rf a0), (1, .long a1)]) (by decide) (by first | rfl | (simp [rt_cat, cat_i, cat_l]; done) | (simp [rt_cat, cat_i, cat_l]; decide)) dX10_met_16 ?_
    exact rt_locals (rt_sub [2, 3, 1, 0] rfl) (rX10_met_18 hd zf _ _ _ _ _ _ _ hf)
  rw [if_neg c3] at hf
  refine rt_if_eq_n (pc := 4) (x := v1) (tgt := 10) (by decide) dX10_met_4 c3 ?_
  refine rt_bipush (pc := 7) (n := -4) (v := (-4 : Int32)) (by decide) dX10_met_7 ?_
  cases hf
  exact rt_ret (pc := 9) dX10_met_9 rfl
noncomputable def fX10_met (E : ah_E) (a0 : Option Nat) (a1 : Int64) (h : ah_H) : Option (Int32 × ah_H) := if hp_rcv h a0 11 = false then none else bX10_met_0 E a0 a1 h
set_option maxRecDepth 20000 in
set_option maxHeartbeats 4000000 in
theorem sX10_met {X : ah_X} (d : Nat) (hd : 1 ≤ d) {a0 : Option Nat} {a1 : Int64} {h : ah_H} {r : Int32} {h2 : ah_H} (hf : fX10_met X.2.2.2 a0 a1 h = some (r, h2)) : hp_rcv h a0 11 = true ∧ Rn X yX10_met cX10_met 6 (some .int) d [va_rf a0, .long a1] h (some (.int r)) h2 := by
  unfold fX10_met at hf
  by_cases c0 : hp_rcv h a0 11 = false
  · rw [if_pos c0] at hf; cases hf
  rw [if_neg c0] at hf
  refine ⟨(Bool.not_eq_false _).mp c0, ?_⟩
  obtain ⟨d, rfl⟩ : ∃ k, d = k + 1 := ⟨d - 1, by omega⟩
  exact Rn.of2 me_X10_met (by simp [lg_sl, rt_cat, cat_i, cat_l]) (ok_i _) (l := [(0, va_rf a0), (1, .long a1)]) (by simp [lv_args, rt_cat, cat_i, cat_l]) (rX10_met_0 (by omega) hf)
noncomputable def bX10_next_0 (E : ah_E) (a0 : Option Nat) (a1 : Int64) (h : ah_H) : Option (Int32 × ah_H) :=
  (hp_gi h a0 11 51).bind fun v1 =>
  if v1 = 0 then
    ob2 (fX10_place E a0 a1 h) fun v6 w5 =>
    (hp_gi w5 a0 11 6).bind fun v8 =>
    if v6 = v8 then
      some ((0 : Int32), w5)
    else
    (hp_gr w5 a0 11 3).bind fun v11 =>
    (hp_ldl w5 v11 v6).bind fun v13 =>
    (hp_pv w5 a0 11 7 (.long v13)).bind fun w15 =>
    some ((1 : Int32), w15)
  else
  some ((-4 : Int32), h)
set_option maxRecDepth 20000 in
set_option maxHeartbeats 4000000 in
theorem rX10_next_0 {X : ah_X} {d : Nat} (hd : 0 ≤ d) {a0 : Option Nat} {a1 : Int64} {h : ah_H} {r : Int32} {h2 : ah_H} (hf : bX10_next_0 X.2.2.2 a0 a1 h = some (r, h2)) : Rt X yX10_next cX10_next 4 (d + 1) 0 [(0, va_rf a0), (1, .long a1)] [] h (some (.int r)) h2 := by
  unfold bX10_next_0 at hf
  refine rt_aload_n (pc := 0) (k0 := 0) (x := a0) 0 rfl dX10_next_0 ?_
  obtain ⟨v1, e2, hf⟩ := ob1 hf
  refine rt_gi (pc := 1) fd_X10_90 dX10_next_1 e2 ?_
  by_cases c3 : v1 = 0
  · rw [if_pos c3] at hf
    refine rt_if_eq_p (pc := 4) (x := v1) (tgt := 10) (by decide) dX10_next_4 c3 ?_
    refine rt_aload_n (pc := 10) (k0 := 0) (x := a0) 0 rfl dX10_next_10 ?_
    refine rt_lload_n (pc := 11) (k0 := 1) (x := a1) 1 rfl dX10_next_11 ?_
    obtain ⟨v6, w5, e4, hf⟩ := ob2_of hf
    have g7 := sX10_place d (by omega) e4
    refine rt_callV (pc := 12) (As := [.long a1]) (st := []) me_X10_place mi_X10_place wl_X10_72 dX10_next_12 rfl (by decide) rfl g7.1 g7.2 ?_
    refine rt_istore_n (pc := 15) (k0 := 3) (x := v6) (l2 := [(3, .int v6), (0, va_rf a0), (1, .long a1)]) (by decide) (by first | rfl | (simp [rt_cat, cat_i, cat_l]; done) | (simp [rt_cat, cat_i, cat_l]; decide)) dX10_next_15 ?_
    refine rt_iload_n (pc := 16) (k0 := 3) (x := v6) 0 rfl dX10_next_16 ?_
    refine rt_aload_n (pc := 17) (k0 := 0) (x := a0) 1 rfl dX10_next_17 ?_
    obtain ⟨v8, e9, hf⟩ := ob1 hf
    refine rt_gi (pc := 18) fd_X10_16 dX10_next_18 e9 ?_
    by_cases c10 : v6 = v8
    · rw [if_pos c10] at hf
      refine rt_icmp_ne_p (pc := 21) (x := v6) (z := v8) (tgt := 26) (by decide) dX10_next_21 c10 ?_
      refine rt_iconst (pc := 24) (n := 0) (v := (0 : Int32)) (by decide) dX10_next_24 ?_
      cases hf
      exact rt_ret (pc := 25) dX10_next_25 rfl
    rw [if_neg c10] at hf
    refine rt_icmp_ne_n (pc := 21) (x := v6) (z := v8) (tgt := 26) (by decide) dX10_next_21 c10 ?_
    refine rt_aload_n (pc := 26) (k0 := 0) (x := a0) 1 rfl dX10_next_26 ?_
    refine rt_aload_n (pc := 27) (k0 := 0) (x := a0) 1 rfl dX10_next_27 ?_
    obtain ⟨v11, e12, hf⟩ := ob1 hf
    refine rt_gr (pc := 28) fd_X10_19 dX10_next_28 e12 ?_
    refine rt_iload_n (pc := 31) (k0 := 3) (x := v6) 0 rfl dX10_next_31 ?_
    obtain ⟨v13, e14, hf⟩ := ob1 hf
    refine rt_lald (pc := 32) dX10_next_32 e14 ?_
    obtain ⟨w15, e16, hf⟩ := ob1 hf
    refine rt_putf (pc := 33) (x := a0) fw_X10_107 (Or.inl rfl) (pf_l _).1 (pf_l _).2 dX10_next_33 e16 ?_
    refine rt_iconst (pc := 36) (n := 1) (v := (1 : Int32)) (by decide) dX10_next_36 ?_
    cases hf
    exact rt_ret (pc := 37) dX10_next_37 rfl
  rw [if_neg c3] at hf
  refine rt_if_eq_n (pc := 4) (x := v1) (tgt := 10) (by decide) dX10_next_4 c3 ?_
  refine rt_bipush (pc := 7) (n := -4) (v := (-4 : Int32)) (by decide) dX10_next_7 ?_
  cases hf
  exact rt_ret (pc := 9) dX10_next_9 rfl
noncomputable def fX10_next (E : ah_E) (a0 : Option Nat) (a1 : Int64) (h : ah_H) : Option (Int32 × ah_H) := if hp_rcv h a0 11 = false then none else bX10_next_0 E a0 a1 h
set_option maxRecDepth 20000 in
set_option maxHeartbeats 4000000 in
theorem sX10_next {X : ah_X} (d : Nat) (hd : 1 ≤ d) {a0 : Option Nat} {a1 : Int64} {h : ah_H} {r : Int32} {h2 : ah_H} (hf : fX10_next X.2.2.2 a0 a1 h = some (r, h2)) : hp_rcv h a0 11 = true ∧ Rn X yX10_next cX10_next 4 (some .int) d [va_rf a0, .long a1] h (some (.int r)) h2 := by
  unfold fX10_next at hf
  by_cases c0 : hp_rcv h a0 11 = false
  · rw [if_pos c0] at hf; cases hf
  rw [if_neg c0] at hf
  refine ⟨(Bool.not_eq_false _).mp c0, ?_⟩
  obtain ⟨d, rfl⟩ : ∃ k, d = k + 1 := ⟨d - 1, by omega⟩
  exact Rn.of2 me_X10_next (by simp [lg_sl, rt_cat, cat_i, cat_l]) (ok_i _) (l := [(0, va_rf a0), (1, .long a1)]) (by simp [lv_args, rt_cat, cat_i, cat_l]) (rX10_next_0 (by omega) hf)
noncomputable def bX10_number__34 (E : ah_E) (s0 : Int32) (h : ah_H) : Option (Int32 × ah_H) :=
  some (s0, h)
set_option maxRecDepth 20000 in
set_option maxHeartbeats 4000000 in
theorem rX10_number__34 {X : ah_X} {d : Nat} {s0 : Int32} {h : ah_H} {r : Int32} {h2 : ah_H} (hf : bX10_number__34 X.2.2.2 s0 h = some (r, h2)) : Rt X yX10_number_ cX10_number_ 2 d 34 [] [.int s0] h (some (.int r)) h2 := by
  unfold bX10_number__34 at hf
  cases hf
  exact rt_ret (pc := 34) dX10_number__34 rfl
noncomputable def bX10_number__0 (E : ah_E) (a0 : Option Nat) (a1 : Int32) (h : ah_H) : Option (Int32 × ah_H) :=
  (hp_gi h a0 11 51).bind fun v1 =>
  if v1 = 0 then
    if a1 = 0 then
      (hp_gi h a0 11 15).bind fun v5 =>
      bX10_number__34 E v5 h
    else
    if a1 = (1 : Int32) then
      (hp_gi h a0 11 73).bind fun v8 =>
      bX10_number__34 E v8 h
    else
    bX10_number__34 E (-1 : Int32) h
  else
  some ((-4 : Int32), h)
set_option maxRecDepth 20000 in
set_option maxHeartbeats 4000000 in
theorem rX10_number__0 {X : ah_X} {d : Nat} {a0 : Option Nat} {a1 : Int32} {h : ah_H} {r : Int32} {h2 : ah_H} (hf : bX10_number__0 X.2.2.2 a0 a1 h = some (r, h2)) : Rt X yX10_number_ cX10_number_ 2 d 0 [(0, va_rf a0), (1, .int a1)] [] h (some (.int r)) h2 := by
  unfold bX10_number__0 at hf
  refine rt_aload_n (pc := 0) (k0 := 0) (x := a0) 0 rfl dX10_number__0 ?_
  obtain ⟨v1, e2, hf⟩ := ob1 hf
  refine rt_gi (pc := 1) fd_X10_90 dX10_number__1 e2 ?_
  by_cases c3 : v1 = 0
  · rw [if_pos c3] at hf
    refine rt_if_eq_p (pc := 4) (x := v1) (tgt := 10) (by decide) dX10_number__4 c3 ?_
    refine rt_iload_n (pc := 10) (k0 := 1) (x := a1) 1 rfl dX10_number__10 ?_
    by_cases c4 : a1 = 0
    · rw [if_pos c4] at hf
      refine rt_if_ne_p (pc := 11) (x := a1) (tgt := 21) (by decide) dX10_number__11 c4 ?_
      refine rt_aload_n (pc := 14) (k0 := 0) (x := a0) 0 rfl dX10_number__14 ?_
      obtain ⟨v5, e6, hf⟩ := ob1 hf
      refine rt_gi (pc := 15) fd_X10_63 dX10_number__15 e6 ?_
      refine rt_goto (pc := 18) (tgt := 34) (by decide) dX10_number__18 ?_
      exact rt_locals (rt_sub [] rfl) (rX10_number__34 hf)
    rw [if_neg c4] at hf
    refine rt_if_ne_n (pc := 11) (x := a1) (tgt := 21) (by decide) dX10_number__11 c4 ?_
    refine rt_iload_n (pc := 21) (k0 := 1) (x := a1) 1 rfl dX10_number__21 ?_
    refine rt_iconst (pc := 22) (n := 1) (v := (1 : Int32)) (by decide) dX10_number__22 ?_
    by_cases c7 : a1 = (1 : Int32)
    · rw [if_pos c7] at hf
      refine rt_icmp_ne_p (pc := 23) (x := a1) (z := (1 : Int32)) (tgt := 33) (by decide) dX10_number__23 c7 ?_
      refine rt_aload_n (pc := 26) (k0 := 0) (x := a0) 0 rfl dX10_number__26 ?_
      obtain ⟨v8, e9, hf⟩ := ob1 hf
      refine rt_gi (pc := 27) fd_X10_388 dX10_number__27 e9 ?_
      refine rt_goto (pc := 30) (tgt := 34) (by decide) dX10_number__30 ?_
      exact rt_locals (rt_sub [] rfl) (rX10_number__34 hf)
    rw [if_neg c7] at hf
    refine rt_icmp_ne_n (pc := 23) (x := a1) (z := (1 : Int32)) (tgt := 33) (by decide) dX10_number__23 c7 ?_
    refine rt_iconst (pc := 33) (n := -1) (v := (-1 : Int32)) (by decide) dX10_number__33 ?_
    exact rt_locals (rt_sub [] rfl) (rX10_number__34 hf)
  rw [if_neg c3] at hf
  refine rt_if_eq_n (pc := 4) (x := v1) (tgt := 10) (by decide) dX10_number__4 c3 ?_
  refine rt_bipush (pc := 7) (n := -4) (v := (-4 : Int32)) (by decide) dX10_number__7 ?_
  cases hf
  exact rt_ret (pc := 9) dX10_number__9 rfl
noncomputable def fX10_number_ (E : ah_E) (a0 : Option Nat) (a1 : Int32) (h : ah_H) : Option (Int32 × ah_H) := if hp_rcv h a0 11 = false then none else bX10_number__0 E a0 a1 h
set_option maxRecDepth 20000 in
set_option maxHeartbeats 4000000 in
theorem sX10_number_ {X : ah_X} (d : Nat) (hd : 0 ≤ d) {a0 : Option Nat} {a1 : Int32} {h : ah_H} {r : Int32} {h2 : ah_H} (hf : fX10_number_ X.2.2.2 a0 a1 h = some (r, h2)) : hp_rcv h a0 11 = true ∧ Rn X yX10_number_ cX10_number_ 2 (some .int) d [va_rf a0, .int a1] h (some (.int r)) h2 := by
  unfold fX10_number_ at hf
  by_cases c0 : hp_rcv h a0 11 = false
  · rw [if_pos c0] at hf; cases hf
  rw [if_neg c0] at hf
  refine ⟨(Bool.not_eq_false _).mp c0, ?_⟩
  exact Rn.of2 me_X10_number_ (by simp [lg_sl, rt_cat, cat_i, cat_l]) (ok_i _) (l := [(0, va_rf a0), (1, .int a1)]) (by simp [lv_args, rt_cat, cat_i, cat_l]) (rX10_number__0 hf)
noncomputable def bX10_page__26 (E : ah_E) (h : ah_H) : Option (Int32 × ah_H) :=
  some ((-1 : Int32), h)
set_option maxRecDepth 20000 in
set_option maxHeartbeats 4000000 in
theorem rX10_page__26 {X : ah_X} {d : Nat} (hd : 48 ≤ d)  {h : ah_H} {r : Int32} {h2 : ah_H} (hf : bX10_page__26 X.2.2.2  h = some (r, h2)) : Rt X yX10_page_ cX10_page_ 4 (d + 1) 26 [] [] h (some (.int r)) h2 := by
  unfold bX10_page__26 at hf
  refine rt_iconst (pc := 26) (n := -1) (v := (-1 : Int32)) (by decide) dX10_page__26 ?_
  cases hf
  exact rt_ret (pc := 27) dX10_page__27 rfl
noncomputable def bX10_page__107 (E : ah_E) (s0 : Int32) (h : ah_H) : Option (Int32 × ah_H) :=
  some (s0, h)
set_option maxRecDepth 20000 in
set_option maxHeartbeats 4000000 in
theorem rX10_page__107 {X : ah_X} {d : Nat} (hd : 48 ≤ d) {s0 : Int32} {h : ah_H} {r : Int32} {h2 : ah_H} (hf : bX10_page__107 X.2.2.2 s0 h = some (r, h2)) : Rt X yX10_page_ cX10_page_ 4 (d + 1) 107 [] [.int s0] h (some (.int r)) h2 := by
  unfold bX10_page__107 at hf
  cases hf
  exact rt_ret (pc := 107) dX10_page__107 rfl
noncomputable def bX10_page__82 (E : ah_E) (s0 : Int32) (h : ah_H) : Option (Int32 × ah_H) :=
  some (s0, h)
set_option maxRecDepth 20000 in
set_option maxHeartbeats 4000000 in
theorem rX10_page__82 {X : ah_X} {d : Nat} (hd : 48 ≤ d) {s0 : Int32} {h : ah_H} {r : Int32} {h2 : ah_H} (hf : bX10_page__82 X.2.2.2 s0 h = some (r, h2)) : Rt X yX10_page_ cX10_page_ 4 (d + 1) 82 [] [.int s0] h (some (.int r)) h2 := by
  unfold bX10_page__82 at hf
  cases hf
  exact rt_ret (pc := 82) dX10_page__82 rfl
noncomputable def bX10_page__0 (E : ah_E) (a0 : Option Nat) (a1 : Int32) (a2 : Int32) (h : ah_H) : Option (Int32 × ah_H) :=
  (hp_gi h a0 11 51).bind fun v1 =>
  if v1 = 0 then
    (fX10_spreadChanges E a0 h).bind fun w5 =>
    if a1 < 0 then
      bX10_page__26 E  w5
    else
    (hp_gi w5 a0 11 50).bind fun v8 =>
    if a1 < v8 then
      (hp_gr w5 a0 11 47).bind fun v11 =>
      (hp_ldi w5 v11 a1).bind fun v13 =>
      if a2 = 0 then
        (hp_gr w5 a0 11 18).bind fun v16 =>
        (hp_ldb w5 v16 v13).bind fun v18 =>
        if v18 = 0 then
          bX10_page__82 E (1 : Int32) w5
        else
        bX10_page__82 E (0 : Int32) w5
      else
      if a2 = 1 then
        (hp_gr w5 a0 11 18).bind fun v22 =>
        (hp_ldb w5 v22 v13).bind fun v24 =>
        if v24 = 0 then
          (hp_gr w5 a0 11 21).bind fun v27 =>
          (hp_ldi w5 v27 v13).bind fun v29 =>
          bX10_page__107 E v29 w5
        else
        (hp_gr w5 a0 11 20).bind fun v31 =>
        (hp_ldi w5 v31 v13).bind fun v33 =>
        bX10_page__107 E v33 w5
      else
      if a2 = 2 then
        (hp_gr w5 a0 11 26).bind fun v36 =>
        (hp_ldi w5 v36 v13).bind fun v38 =>
        some (v38, w5)
      else
      if a2 = 3 then
        (hp_gr w5 a0 11 27).bind fun v41 =>
        (hp_ldi w5 v41 v13).bind fun v43 =>
        some (v43, w5)
      else
      some ((-1 : Int32), w5)
    else
    bX10_page__26 E  w5
  else
  some ((-4 : Int32), h)
set_option maxRecDepth 20000 in
set_option maxHeartbeats 4000000 in
theorem rX10_page__0 {X : ah_X} {d : Nat} (hd : 48 ≤ d) {a0 : Option Nat} {a1 : Int32} {a2 : Int32} {h : ah_H} {r : Int32} {h2 : ah_H} (hf : bX10_page__0 X.2.2.2 a0 a1 a2 h = some (r, h2)) : Rt X yX10_page_ cX10_page_ 4 (d + 1) 0 [(0, va_rf a0), (1, .int a1), (2, .int a2)] [] h (some (.int r)) h2 := by
  unfold bX10_page__0 at hf
  refine rt_aload_n (pc := 0) (k0 := 0) (x := a0) 0 rfl dX10_page__0 ?_
  obtain ⟨v1, e2, hf⟩ := ob1 hf
  refine rt_gi (pc := 1) fd_X10_90 dX10_page__1 e2 ?_
  by_cases c3 : v1 = 0
  · rw [if_pos c3] at hf
    refine rt_if_eq_p (pc := 4) (x := v1) (tgt := 10) (by decide) dX10_page__4 c3 ?_
    refine rt_aload_n (pc := 10) (k0 := 0) (x := a0) 0 rfl dX10_page__10 ?_
    obtain ⟨w5, e4, hf⟩ := ob1 hf
    have g6 := sX10_spreadChanges d (by omega) e4
    refine rt_callV (pc := 11) (As := []) (st := []) me_X10_spreadChanges mi_X10_spreadChanges wl_X10_357 dX10_page__11 rfl (by decide) rfl g6.1 g6.2 ?_
    refine rt_iload_n (pc := 14) (k0 := 1) (x := a1) 1 rfl dX10_page__14 ?_
    by_cases c7 : a1 < 0
    · rw [if_pos c7] at hf
      refine rt_if_lt_p (pc := 15) (x := a1) (tgt := 26) (by decide) dX10_page__15 c7 ?_
      exact rt_locals (rt_sub [] rfl) (rX10_page__26 hd hf)
    rw [if_neg c7] at hf
    refine rt_if_lt_n (pc := 15) (x := a1) (tgt := 26) (by decide) dX10_page__15 c7 ?_
    refine rt_iload_n (pc := 18) (k0 := 1) (x := a1) 1 rfl dX10_page__18 ?_
    refine rt_aload_n (pc := 19) (k0 := 0) (x := a0) 0 rfl dX10_page__19 ?_
    obtain ⟨v8, e9, hf⟩ := ob1 hf
    refine rt_gi (pc := 20) fd_X10_349 dX10_page__20 e9 ?_
    by_cases c10 : a1 < v8
    · rw [if_pos c10] at hf
      refine rt_icmp_lt_p (pc := 23) (x := a1) (z := v8) (tgt := 28) (by decide) dX10_page__23 c10 ?_
      refine rt_aload_n (pc := 28) (k0 := 0) (x := a0) 0 rfl dX10_page__28 ?_
      obtain ⟨v11, e12, hf⟩ := ob1 hf
      refine rt_gr (pc := 29) fd_X10_191 dX10_page__29 e12 ?_
      refine rt_iload_n (pc := 32) (k0 := 1) (x := a1) 1 rfl dX10_page__32 ?_
      obtain ⟨v13, e14, hf⟩ := ob1 hf
      refine rt_iald (pc := 33) dX10_page__33 e14 ?_
      refine rt_istore_n (pc := 34) (k0 := 3) (x := v13) (l2 := [(3, .int v13), (0, va_rf a0), (1, .int a1), (2, .int a2)]) (by decide) (by first | rfl | (simp [rt_cat, cat_i, cat_l]; done) | (simp [rt_cat, cat_i, cat_l]; decide)) dX10_page__34 ?_
      refine rt_iload_n (pc := 35) (k0 := 2) (x := a2) 3 rfl dX10_page__35 ?_
      by_cases c15 : a2 = 0
      · rw [if_pos c15] at hf
        refine rt_tableIn (pc := 36) (x := a2) (off := 32) (tgt := 68) dX10_page__36 (by rw [c15]; decide) (by rw [c15]; decide) (by rw [c15]; rfl) (by decide) ?_
        refine rt_aload_n (pc := 68) (k0 := 0) (x := a0) 1 rfl dX10_page__68 ?_
        obtain ⟨v16, e17, hf⟩ := ob1 hf
        refine rt_gr (pc := 69) fd_X10_119 dX10_page__69 e17 ?_
        refine rt_iload_n (pc := 72) (k0 := 3) (x := v13) 0 rfl dX10_page__72 ?_
        obtain ⟨v18, e19, hf⟩ := ob1 hf
        refine rt_bald (pc := 73) dX10_page__73 e19 ?_
        by_cases c20 : v18 = 0
        · rw [if_pos c20] at hf
          refine rt_if_eq_p (pc := 74) (x := v18) (tgt := 81) (by decide) dX10_page__74 c20 ?_
          refine rt_iconst (pc := 81) (n := 1) (v := (1 : Int32)) (by decide) dX10_page__81 ?_
          exact rt_locals (rt_sub [] rfl) (rX10_page__82 hd hf)
        rw [if_neg c20] at hf
        refine rt_if_eq_n (pc := 74) (x := v18) (tgt := 81) (by decide) dX10_page__74 c20 ?_
        refine rt_iconst (pc := 77) (n := 0) (v := (0 : Int32)) (by decide) dX10_page__77 ?_
        refine rt_goto (pc := 78) (tgt := 82) (by decide) dX10_page__78 ?_
        exact rt_locals (rt_sub [] rfl) (rX10_page__82 hd hf)
      rw [if_neg c15] at hf
      by_cases c21 : a2 = 1
      · rw [if_pos c21] at hf
        refine rt_tableIn (pc := 36) (x := a2) (off := 47) (tgt := 83) dX10_page__36 (by rw [c21]; decide) (by rw [c21]; decide) (by rw [c21]; rfl) (by decide) ?_
        refine rt_aload_n (pc := 83) (k0 := 0) (x := a0) 1 rfl dX10_page__83 ?_
        obtain ⟨v22, e23, hf⟩ := ob1 hf
        refine rt_gr (pc := 84) fd_X10_119 dX10_page__84 e23 ?_
        refine rt_iload_n (pc := 87) (k0 := 3) (x := v13) 0 rfl dX10_page__87 ?_
        obtain ⟨v24, e25, hf⟩ := ob1 hf
        refine rt_bald (pc := 88) dX10_page__88 e25 ?_
        by_cases c26 : v24 = 0
        · rw [if_pos c26] at hf
          refine rt_if_eq_p (pc := 89) (x := v24) (tgt := 101) (by decide) dX10_page__89 c26 ?_
          refine rt_aload_n (pc := 101) (k0 := 0) (x := a0) 1 rfl dX10_page__101 ?_
          obtain ⟨v27, e28, hf⟩ := ob1 hf
          refine rt_gr (pc := 102) fd_X10_129 dX10_page__102 e28 ?_
          refine rt_iload_n (pc := 105) (k0 := 3) (x := v13) 0 rfl dX10_page__105 ?_
          obtain ⟨v29, e30, hf⟩ := ob1 hf
          refine rt_iald (pc := 106) dX10_page__106 e30 ?_
          exact rt_locals (rt_sub [] rfl) (rX10_page__107 hd hf)
        rw [if_neg c26] at hf
        refine rt_if_eq_n (pc := 89) (x := v24) (tgt := 101) (by decide) dX10_page__89 c26 ?_
        refine rt_aload_n (pc := 92) (k0 := 0) (x := a0) 1 rfl dX10_page__92 ?_
        obtain ⟨v31, e32, hf⟩ := ob1 hf
        refine rt_gr (pc := 93) fd_X10_126 dX10_page__93 e32 ?_
        refine rt_iload_n (pc := 96) (k0 := 3) (x := v13) 0 rfl dX10_page__96 ?_
        obtain ⟨v33, e34, hf⟩ := ob1 hf
        refine rt_iald (pc := 97) dX10_page__97 e34 ?_
        refine rt_goto (pc := 98) (tgt := 107) (by decide) dX10_page__98 ?_
        exact rt_locals (rt_sub [] rfl) (rX10_page__107 hd hf)
      rw [if_neg c21] at hf
      by_cases c35 : a2 = 2
      · rw [if_pos c35] at hf
        refine rt_tableIn (pc := 36) (x := a2) (off := 72) (tgt := 108) dX10_page__36 (by rw [c35]; decide) (by rw [c35]; decide) (by rw [c35]; rfl) (by decide) ?_
        refine rt_aload_n (pc := 108) (k0 := 0) (x := a0) 1 rfl dX10_page__108 ?_
        obtain ⟨v36, e37, hf⟩ := ob1 hf
        refine rt_gr (pc := 109) fd_X10_145 dX10_page__109 e37 ?_
        refine rt_iload_n (pc := 112) (k0 := 3) (x := v13) 0 rfl dX10_page__112 ?_
        obtain ⟨v38, e39, hf⟩ := ob1 hf
        refine rt_iald (pc := 113) dX10_page__113 e39 ?_
        cases hf
        exact rt_ret (pc := 114) dX10_page__114 rfl
      rw [if_neg c35] at hf
      by_cases c40 : a2 = 3
      · rw [if_pos c40] at hf
        refine rt_tableIn (pc := 36) (x := a2) (off := 79) (tgt := 115) dX10_page__36 (by rw [c40]; decide) (by rw [c40]; decide) (by rw [c40]; rfl) (by decide) ?_
        refine rt_aload_n (pc := 115) (k0 := 0) (x := a0) 1 rfl dX10_page__115 ?_
        obtain ⟨v41, e42, hf⟩ := ob1 hf
        refine rt_gr (pc := 116) fd_X10_148 dX10_page__116 e42 ?_
        refine rt_iload_n (pc := 119) (k0 := 3) (x := v13) 0 rfl dX10_page__119 ?_
        obtain ⟨v43, e44, hf⟩ := ob1 hf
        refine rt_iald (pc := 120) dX10_page__120 e44 ?_
        cases hf
        exact rt_ret (pc := 121) dX10_page__121 rfl
      rw [if_neg c40] at hf
      refine rt_tableOut (pc := 36) (x := a2) (tgt := 122) (by decide) dX10_page__36 (by have q0 := lv_neT (a := 0) c15 (by decide); have q1 := lv_neT (a := 1) c21 (by decide); have q2 := lv_neT (a := 2) c35 (by decide); have q3 := lv_neT (a := 3) c40 (by decide); omega) ?_
      refine rt_iconst (pc := 122) (n := -1) (v := (-1 : Int32)) (by decide) dX10_page__122 ?_
      cases hf
      exact rt_ret (pc := 123) dX10_page__123 rfl
    rw [if_neg c10] at hf
    refine rt_icmp_lt_n (pc := 23) (x := a1) (z := v8) (tgt := 28) (by decide) dX10_page__23 c10 ?_
    exact rt_locals (rt_sub [] rfl) (rX10_page__26 hd hf)
  rw [if_neg c3] at hf
  refine rt_if_eq_n (pc := 4) (x := v1) (tgt := 10) (by decide) dX10_page__4 c3 ?_
  refine rt_bipush (pc := 7) (n := -4) (v := (-4 : Int32)) (by decide) dX10_page__7 ?_
  cases hf
  exact rt_ret (pc := 9) dX10_page__9 rfl
noncomputable def fX10_page_ (E : ah_E) (a0 : Option Nat) (a1 : Int32) (a2 : Int32) (h : ah_H) : Option (Int32 × ah_H) := if hp_rcv h a0 11 = false then none else bX10_page__0 E a0 a1 a2 h
set_option maxRecDepth 20000 in
set_option maxHeartbeats 4000000 in
theorem sX10_page_ {X : ah_X} (d : Nat) (hd : 49 ≤ d) {a0 : Option Nat} {a1 : Int32} {a2 : Int32} {h : ah_H} {r : Int32} {h2 : ah_H} (hf : fX10_page_ X.2.2.2 a0 a1 a2 h = some (r, h2)) : hp_rcv h a0 11 = true ∧ Rn X yX10_page_ cX10_page_ 4 (some .int) d [va_rf a0, .int a1, .int a2] h (some (.int r)) h2 := by
  unfold fX10_page_ at hf
  by_cases c0 : hp_rcv h a0 11 = false
  · rw [if_pos c0] at hf; cases hf
  rw [if_neg c0] at hf
  refine ⟨(Bool.not_eq_false _).mp c0, ?_⟩
  obtain ⟨d, rfl⟩ : ∃ k, d = k + 1 := ⟨d - 1, by omega⟩
  exact Rn.of2 me_X10_page_ (by simp [lg_sl, rt_cat, cat_i, cat_l]) (ok_i _) (l := [(0, va_rf a0), (1, .int a1), (2, .int a2)]) (by simp [lv_args, rt_cat, cat_i, cat_l]) (rX10_page__0 (by omega) hf)
noncomputable def bX10_pages_0 (E : ah_E) (a0 : Option Nat) (h : ah_H) : Option (Int32 × ah_H) :=
  (hp_gi h a0 11 51).bind fun v1 =>
  if v1 = 0 then
    (fX10_number E a0 h).bind fun w5 =>
    (hp_gi w5 a0 11 50).bind fun v7 =>
    some (v7, w5)
  else
  some ((-4 : Int32), h)
set_option maxRecDepth 20000 in
set_option maxHeartbeats 4000000 in
theorem rX10_pages_0 {X : ah_X} {d : Nat} (hd : 47 ≤ d) {a0 : Option Nat} {h : ah_H} {r : Int32} {h2 : ah_H} (hf : bX10_pages_0 X.2.2.2 a0 h = some (r, h2)) : Rt X yX10_pages cX10_pages 1 (d + 1) 0 [(0, va_rf a0)] [] h (some (.int r)) h2 := by
  unfold bX10_pages_0 at hf
  refine rt_aload_n (pc := 0) (k0 := 0) (x := a0) 0 rfl dX10_pages_0 ?_
  obtain ⟨v1, e2, hf⟩ := ob1 hf
  refine rt_gi (pc := 1) fd_X10_90 dX10_pages_1 e2 ?_
  by_cases c3 : v1 = 0
  · rw [if_pos c3] at hf
    refine rt_if_eq_p (pc := 4) (x := v1) (tgt := 10) (by decide) dX10_pages_4 c3 ?_
    refine rt_aload_n (pc := 10) (k0 := 0) (x := a0) 0 rfl dX10_pages_10 ?_
    obtain ⟨w5, e4, hf⟩ := ob1 hf
    have g6 := sX10_number d (by omega) e4
    refine rt_callV (pc := 11) (As := []) (st := []) me_X10_number mi_X10_number wl_X10_355 dX10_pages_11 rfl (by decide) rfl g6.1 g6.2 ?_
    refine rt_aload_n (pc := 14) (k0 := 0) (x := a0) 0 rfl dX10_pages_14 ?_
    obtain ⟨v7, e8, hf⟩ := ob1 hf
    refine rt_gi (pc := 15) fd_X10_349 dX10_pages_15 e8 ?_
    cases hf
    exact rt_ret (pc := 18) dX10_pages_18 rfl
  rw [if_neg c3] at hf
  refine rt_if_eq_n (pc := 4) (x := v1) (tgt := 10) (by decide) dX10_pages_4 c3 ?_
  refine rt_bipush (pc := 7) (n := -4) (v := (-4 : Int32)) (by decide) dX10_pages_7 ?_
  cases hf
  exact rt_ret (pc := 9) dX10_pages_9 rfl
noncomputable def fX10_pages (E : ah_E) (a0 : Option Nat) (h : ah_H) : Option (Int32 × ah_H) := if hp_rcv h a0 11 = false then none else bX10_pages_0 E a0 h
set_option maxRecDepth 20000 in
set_option maxHeartbeats 4000000 in
theorem sX10_pages {X : ah_X} (d : Nat) (hd : 48 ≤ d) {a0 : Option Nat} {h : ah_H} {r : Int32} {h2 : ah_H} (hf : fX10_pages X.2.2.2 a0 h = some (r, h2)) : hp_rcv h a0 11 = true ∧ Rn X yX10_pages cX10_pages 1 (some .int) d [va_rf a0] h (some (.int r)) h2 := by
  unfold fX10_pages at hf
  by_cases c0 : hp_rcv h a0 11 = false
  · rw [if_pos c0] at hf; cases hf
  rw [if_neg c0] at hf
  refine ⟨(Bool.not_eq_false _).mp c0, ?_⟩
  obtain ⟨d, rfl⟩ : ∃ k, d = k + 1 := ⟨d - 1, by omega⟩
  exact Rn.of2 me_X10_pages (by simp [lg_sl, rt_cat, cat_i, cat_l]) (ok_i _) (l := [(0, va_rf a0)]) (by simp [lv_args, rt_cat, cat_i, cat_l]) (rX10_pages_0 (by omega) hf)
noncomputable def bX10_changedPages_33 (E : ah_E) (k4 : Option Nat → Int32 → Int32 → ah_H → Option (Int32 × ah_H)) (a0 : Option Nat) (a2 : Int32) (s0 : Int32) (s1 : Int32) (h : ah_H) : Option (Int32 × ah_H) :=
  k4 a0 (s0 + s1) (a2 + 1) h
set_option maxRecDepth 20000 in
set_option maxHeartbeats 4000000 in
theorem rX10_changedPages_33 {X : ah_X} {d : Nat} {k4 : Option Nat → Int32 → Int32 → ah_H → Option (Int32 × ah_H)} (hk4 : ∀ (x0 : Option Nat) (x1 : Int32) (x2 : Int32) (h : ah_H) (r : Int32) (h2 : ah_H), k4 x0 x1 x2 h = some (r, h2) → Rt X yX10_changedPages cX10_changedPages 3 d 4 [(0, va_rf x0), (1, .int x1), (2, .int x2)] [] h (some (.int r)) h2) {a0 : Option Nat} {a2 : Int32} {s0 : Int32} {s1 : Int32} {h : ah_H} {r : Int32} {h2 : ah_H} (hf : bX10_changedPages_33 X.2.2.2 k4 a0 a2 s0 s1 h = some (r, h2)) : Rt X yX10_changedPages cX10_changedPages 3 d 33 [(0, va_rf a0), (2, .int a2)] [.int s1, .int s0] h (some (.int r)) h2 := by
  unfold bX10_changedPages_33 at hf
  refine rt_iadd (pc := 33) (x := s0) (z := s1) dX10_changedPages_33 ?_
  refine rt_istore_n (pc := 34) (k0 := 1) (x := (s0 + s1)) (l2 := [(1, .int (s0 + s1)), (0, va_rf a0), (2, .int a2)]) (by decide) (by first | rfl | (simp [rt_cat, cat_i, cat_l]; done) | (simp [rt_cat, cat_i, cat_l]; decide)) dX10_changedPages_34 ?_
  refine rt_iinc (pc := 35) (i := 2) (n := 1) (x := a2) (v := (a2 + 1)) (l2 := [(2, .int (a2 + 1)), (1, .int (s0 + s1)), (0, va_rf a0)]) 2 rfl rfl (by decide) (by first | rfl | (simp [rt_cat, cat_i, cat_l]; done) | (simp [rt_cat, cat_i, cat_l]; decide)) dX10_changedPages_35 ?_
  refine rt_goto (pc := 38) (tgt := 4) (by decide) dX10_changedPages_38 ?_
  exact rt_locals (rt_sub [2, 1, 0] rfl) (hk4 _ _ _ _ _ _ hf)
noncomputable def bX10_changedPages_4 (E : ah_E) : Nat → Option Nat → Int32 → Int32 → ah_H → Option (Int32 × ah_H)
  | 0 => fun _ _ _ _ => none
  | n + 1 => fun a0 a1 a2 h =>
  (hp_gi h a0 11 50).bind fun v1 =>
  if v1 ≤ a2 then
    some (a1, h)
  else
  (hp_gr h a0 11 27).bind fun v4 =>
  (hp_gr h a0 11 47).bind fun v6 =>
  (hp_ldi h v6 a2).bind fun v8 =>
  (hp_ldi h v4 v8).bind fun v10 =>
  if v10 = (-1 : Int32) then
    bX10_changedPages_33 E (bX10_changedPages_4 E n) a0 a2 a1 (1 : Int32) h
  else
  bX10_changedPages_33 E (bX10_changedPages_4 E n) a0 a2 a1 (0 : Int32) h
set_option maxRecDepth 20000 in
set_option maxHeartbeats 4000000 in
theorem rX10_changedPages_4 {X : ah_X} {d : Nat} (n : Nat) : ∀ (a0 : Option Nat) (a1 : Int32) (a2 : Int32) (h : ah_H) (r : Int32) (h2 : ah_H), bX10_changedPages_4 X.2.2.2 n a0 a1 a2 h = some (r, h2) → Rt X yX10_changedPages cX10_changedPages 3 d 4 [(0, va_rf a0), (1, .int a1), (2, .int a2)] [] h (some (.int r)) h2 := by
  induction n with
  | zero => intro a0 a1 a2 h r h2 hf; cases hf
  | succ n ih =>
  intro a0 a1 a2 h r h2 hf
  unfold bX10_changedPages_4 at hf
  refine rt_iload_n (pc := 4) (k0 := 2) (x := a2) 2 rfl dX10_changedPages_4 ?_
  refine rt_aload_n (pc := 5) (k0 := 0) (x := a0) 0 rfl dX10_changedPages_5 ?_
  obtain ⟨v1, e2, hf⟩ := ob1 hf
  refine rt_gi (pc := 6) fd_X10_349 dX10_changedPages_6 e2 ?_
  by_cases c3 : v1 ≤ a2
  · rw [if_pos c3] at hf
    refine rt_icmp_ge_p (pc := 9) (x := a2) (z := v1) (tgt := 41) (by decide) dX10_changedPages_9 c3 ?_
    refine rt_iload_n (pc := 41) (k0 := 1) (x := a1) 1 rfl dX10_changedPages_41 ?_
    cases hf
    exact rt_ret (pc := 42) dX10_changedPages_42 rfl
  rw [if_neg c3] at hf
  refine rt_icmp_ge_n (pc := 9) (x := a2) (z := v1) (tgt := 41) (by decide) dX10_changedPages_9 c3 ?_
  refine rt_iload_n (pc := 12) (k0 := 1) (x := a1) 1 rfl dX10_changedPages_12 ?_
  refine rt_aload_n (pc := 13) (k0 := 0) (x := a0) 0 rfl dX10_changedPages_13 ?_
  obtain ⟨v4, e5, hf⟩ := ob1 hf
  refine rt_gr (pc := 14) fd_X10_148 dX10_changedPages_14 e5 ?_
  refine rt_aload_n (pc := 17) (k0 := 0) (x := a0) 0 rfl dX10_changedPages_17 ?_
  obtain ⟨v6, e7, hf⟩ := ob1 hf
  refine rt_gr (pc := 18) fd_X10_191 dX10_changedPages_18 e7 ?_
  refine rt_iload_n (pc := 21) (k0 := 2) (x := a2) 2 rfl dX10_changedPages_21 ?_
  obtain ⟨v8, e9, hf⟩ := ob1 hf
  refine rt_iald (pc := 22) dX10_changedPages_22 e9 ?_
  obtain ⟨v10, e11, hf⟩ := ob1 hf
  refine rt_iald (pc := 23) dX10_changedPages_23 e11 ?_
  refine rt_iconst (pc := 24) (n := -1) (v := (-1 : Int32)) (by decide) dX10_changedPages_24 ?_
  by_cases c12 : v10 = (-1 : Int32)
  · rw [if_pos c12] at hf
    refine rt_icmp_ne_p (pc := 25) (x := v10) (z := (-1 : Int32)) (tgt := 32) (by decide) dX10_changedPages_25 c12 ?_
    refine rt_iconst (pc := 28) (n := 1) (v := (1 : Int32)) (by decide) dX10_changedPages_28 ?_
    refine rt_goto (pc := 29) (tgt := 33) (by decide) dX10_changedPages_29 ?_
    exact rt_locals (rt_sub [0, 2] rfl) (rX10_changedPages_33 ih hf)
  rw [if_neg c12] at hf
  refine rt_icmp_ne_n (pc := 25) (x := v10) (z := (-1 : Int32)) (tgt := 32) (by decide) dX10_changedPages_25 c12 ?_
  refine rt_iconst (pc := 32) (n := 0) (v := (0 : Int32)) (by decide) dX10_changedPages_32 ?_
  exact rt_locals (rt_sub [0, 2] rfl) (rX10_changedPages_33 ih hf)
noncomputable def bX10_changedPages_0 (E : ah_E) (a0 : Option Nat) (h : ah_H) : Option (Int32 × ah_H) :=
  bX10_changedPages_4 E zf a0 (0 : Int32) (0 : Int32) h
set_option maxRecDepth 20000 in
set_option maxHeartbeats 4000000 in
theorem rX10_changedPages_0 {X : ah_X} {d : Nat} {a0 : Option Nat} {h : ah_H} {r : Int32} {h2 : ah_H} (hf : bX10_changedPages_0 X.2.2.2 a0 h = some (r, h2)) : Rt X yX10_changedPages cX10_changedPages 3 d 0 [(0, va_rf a0)] [] h (some (.int r)) h2 := by
  unfold bX10_changedPages_0 at hf
  refine rt_iconst (pc := 0) (n := 0) (v := (0 : Int32)) (by decide) dX10_changedPages_0 ?_
  refine rt_istore_n (pc := 1) (k0 := 1) (x := (0 : Int32)) (l2 := [(1, .int (0 : Int32)), (0, va_rf a0)]) (by decide) (by first | rfl | (simp [rt_cat, cat_i, cat_l]; done) | (simp [rt_cat, cat_i, cat_l]; decide)) dX10_changedPages_1 ?_
  refine rt_iconst (pc := 2) (n := 0) (v := (0 : Int32)) (by decide) dX10_changedPages_2 ?_
  refine rt_istore_n (pc := 3) (k0 := 2) (x := (0 : Int32)) (l2 := [(2, .int (0 : Int32)), (1, .int (0 : Int32)), (0, va_rf a0)]) (by decide) (by first | rfl | (simp [rt_cat, cat_i, cat_l]; done) | (simp [rt_cat, cat_i, cat_l]; decide)) dX10_changedPages_3 ?_
  exact rt_locals (rt_sub [2, 1, 0] rfl) (rX10_changedPages_4 zf _ _ _ _ _ _ hf)
noncomputable def fX10_changedPages (E : ah_E) (a0 : Option Nat) (h : ah_H) : Option (Int32 × ah_H) := if hp_rcv h a0 11 = false then none else bX10_changedPages_0 E a0 h
set_option maxRecDepth 20000 in
set_option maxHeartbeats 4000000 in
theorem sX10_changedPages {X : ah_X} (d : Nat) (hd : 0 ≤ d) {a0 : Option Nat} {h : ah_H} {r : Int32} {h2 : ah_H} (hf : fX10_changedPages X.2.2.2 a0 h = some (r, h2)) : hp_rcv h a0 11 = true ∧ Rn X yX10_changedPages cX10_changedPages 3 (some .int) d [va_rf a0] h (some (.int r)) h2 := by
  unfold fX10_changedPages at hf
  by_cases c0 : hp_rcv h a0 11 = false
  · rw [if_pos c0] at hf; cases hf
  rw [if_neg c0] at hf
  refine ⟨(Bool.not_eq_false _).mp c0, ?_⟩
  exact Rn.of2 me_X10_changedPages (by simp [lg_sl, rt_cat, cat_i, cat_l]) (ok_i _) (l := [(0, va_rf a0)]) (by simp [lv_args, rt_cat, cat_i, cat_l]) (rX10_changedPages_0 hf)
noncomputable def bX10_falls_0 (E : ah_E) (a0 : Option Nat) (a1 : Int32) (h : ah_H) : Option (Int32 × ah_H) :=
  (hp_gr h a0 11 75).bind fun v1 =>
  (hp_ldi h v1 a1).bind fun v3 =>
  (hp_sti h v1 a1 (v3 + (1 : Int32))).bind fun w5 =>
  (hp_gi w5 a0 11 74).bind fun v7 =>
  if v7 = 0 then
    some ((0 : Int32), w5)
  else
  (hp_gi w5 a0 11 74).bind fun v10 =>
  (hp_pv w5 a0 11 74 (.int (v10 - (1 : Int32)))).bind fun w12 =>
  (hp_gi w12 a0 11 74).bind fun v14 =>
  if v14 ≤ 0 then
    (hp_gr w12 a0 11 75).bind fun v17 =>
    (hp_ldi w12 v17 (3 : Int32)).bind fun v19 =>
    (hp_sti w12 v17 (3 : Int32) (v19 + (1 : Int32))).bind fun w21 =>
    (hp_pv w21 a0 11 51 (.int (1 : Int32))).bind fun w23 =>
    some ((1 : Int32), w23)
  else
  some ((0 : Int32), w12)
set_option maxRecDepth 20000 in
set_option maxHeartbeats 4000000 in
theorem rX10_falls_0 {X : ah_X} {d : Nat} {a0 : Option Nat} {a1 : Int32} {h : ah_H} {r : Int32} {h2 : ah_H} (hf : bX10_falls_0 X.2.2.2 a0 a1 h = some (r, h2)) : Rt X yX10_falls cX10_falls 2 d 0 [(0, va_rf a0), (1, .int a1)] [] h (some (.int r)) h2 := by
  unfold bX10_falls_0 at hf
  refine rt_aload_n (pc := 0) (k0 := 0) (x := a0) 0 rfl dX10_falls_0 ?_
  obtain ⟨v1, e2, hf⟩ := ob1 hf
  refine rt_gr (pc := 1) fd_X10_261 dX10_falls_1 e2 ?_
  refine rt_iload_n (pc := 4) (k0 := 1) (x := a1) 1 rfl dX10_falls_4 ?_
  refine rt_dup2 (pc := 5) rfl (rt_cat _) dX10_falls_5 ?_
  obtain ⟨v3, e4, hf⟩ := ob1 hf
  refine rt_iald (pc := 6) dX10_falls_6 e4 ?_
  refine rt_iconst (pc := 7) (n := 1) (v := (1 : Int32)) (by decide) dX10_falls_7 ?_
  refine rt_iadd (pc := 8) (x := v3) (z := (1 : Int32)) dX10_falls_8 ?_
  obtain ⟨w5, e6, hf⟩ := ob1 hf
  refine rt_iast (pc := 9) dX10_falls_9 e6 ?_
  refine rt_aload_n (pc := 10) (k0 := 0) (x := a0) 0 rfl dX10_falls_10 ?_
  obtain ⟨v7, e8, hf⟩ := ob1 hf
  refine rt_gi (pc := 11) fd_X10_369 dX10_falls_11 e8 ?_
  by_cases c9 : v7 = 0
  · rw [if_pos c9] at hf
    refine rt_if_ne_p (pc := 14) (x := v7) (tgt := 19) (by decide) dX10_falls_14 c9 ?_
    refine rt_iconst (pc := 17) (n := 0) (v := (0 : Int32)) (by decide) dX10_falls_17 ?_
    cases hf
    exact rt_ret (pc := 18) dX10_falls_18 rfl
  rw [if_neg c9] at hf
  refine rt_if_ne_n (pc := 14) (x := v7) (tgt := 19) (by decide) dX10_falls_14 c9 ?_
  refine rt_aload_n (pc := 19) (k0 := 0) (x := a0) 0 rfl dX10_falls_19 ?_
  refine rt_dup (pc := 20) (rt_cat _) dX10_falls_20 ?_
  obtain ⟨v10, e11, hf⟩ := ob1 hf
  refine rt_gi (pc := 21) fd_X10_369 dX10_falls_21 e11 ?_
  refine rt_iconst (pc := 24) (n := 1) (v := (1 : Int32)) (by decide) dX10_falls_24 ?_
  refine rt_isub (pc := 25) (x := v10) (z := (1 : Int32)) dX10_falls_25 ?_
  obtain ⟨w12, e13, hf⟩ := ob1 hf
  refine rt_putf (pc := 26) (x := a0) fw_X10_369 (Or.inl rfl) (pf_i _).1 (pf_i _).2 dX10_falls_26 e13 ?_
  refine rt_aload_n (pc := 29) (k0 := 0) (x := a0) 0 rfl dX10_falls_29 ?_
  obtain ⟨v14, e15, hf⟩ := ob1 hf
  refine rt_gi (pc := 30) fd_X10_369 dX10_falls_30 e15 ?_
  by_cases c16 : v14 ≤ 0
  · rw [if_pos c16] at hf
    refine rt_if_le_p (pc := 33) (x := v14) (tgt := 38) (by decide) dX10_falls_33 c16 ?_
    refine rt_aload_n (pc := 38) (k0 := 0) (x := a0) 0 rfl dX10_falls_38 ?_
    obtain ⟨v17, e18, hf⟩ := ob1 hf
    refine rt_gr (pc := 39) fd_X10_261 dX10_falls_39 e18 ?_
    refine rt_iconst (pc := 42) (n := 3) (v := (3 : Int32)) (by decide) dX10_falls_42 ?_
    refine rt_dup2 (pc := 43) rfl (rt_cat _) dX10_falls_43 ?_
    obtain ⟨v19, e20, hf⟩ := ob1 hf
    refine rt_iald (pc := 44) dX10_falls_44 e20 ?_
    refine rt_iconst (pc := 45) (n := 1) (v := (1 : Int32)) (by decide) dX10_falls_45 ?_
    refine rt_iadd (pc := 46) (x := v19) (z := (1 : Int32)) dX10_falls_46 ?_
    obtain ⟨w21, e22, hf⟩ := ob1 hf
    refine rt_iast (pc := 47) dX10_falls_47 e22 ?_
    refine rt_aload_n (pc := 48) (k0 := 0) (x := a0) 0 rfl dX10_falls_48 ?_
    refine rt_iconst (pc := 49) (n := 1) (v := (1 : Int32)) (by decide) dX10_falls_49 ?_
    obtain ⟨w23, e24, hf⟩ := ob1 hf
    refine rt_putf (pc := 50) (x := a0) fw_X10_90 (Or.inl rfl) (by decide) (by decide) dX10_falls_50 e24 ?_
    refine rt_iconst (pc := 53) (n := 1) (v := (1 : Int32)) (by decide) dX10_falls_53 ?_
    cases hf
    exact rt_ret (pc := 54) dX10_falls_54 rfl
  rw [if_neg c16] at hf
  refine rt_if_le_n (pc := 33) (x := v14) (tgt := 38) (by decide) dX10_falls_33 c16 ?_
  refine rt_iconst (pc := 36) (n := 0) (v := (0 : Int32)) (by decide) dX10_falls_36 ?_
  cases hf
  exact rt_ret (pc := 37) dX10_falls_37 rfl
noncomputable def fX10_falls (E : ah_E) (a0 : Option Nat) (a1 : Int32) (h : ah_H) : Option (Int32 × ah_H) := if hp_rcv h a0 11 = false then none else zb (bX10_falls_0 E a0 a1 h)
set_option maxRecDepth 20000 in
set_option maxHeartbeats 4000000 in
theorem sX10_falls {X : ah_X} (d : Nat) (hd : 0 ≤ d) {a0 : Option Nat} {a1 : Int32} {h : ah_H} {r : Int32} {h2 : ah_H} (hf : fX10_falls X.2.2.2 a0 a1 h = some (r, h2)) : hp_rcv h a0 11 = true ∧ Rn X yX10_falls cX10_falls 2 (some .boolean) d [va_rf a0, .int a1] h (some (.int r)) h2 := by
  unfold fX10_falls at hf
  by_cases c0 : hp_rcv h a0 11 = false
  · rw [if_pos c0] at hf; cases hf
  rw [if_neg c0] at hf
  refine ⟨(Bool.not_eq_false _).mp c0, ?_⟩
  obtain ⟨hf, hz⟩ := zb_of hf
  exact Rn.of2 me_X10_falls (by simp [lg_sl, rt_cat, cat_i, cat_l]) (ok_z hz) (l := [(0, va_rf a0), (1, .int a1)]) (by simp [lv_args, rt_cat, cat_i, cat_l]) (rX10_falls_0 hf)
noncomputable def bX10_lay_83 (E : ah_E) (k38 : Option Nat → Int32 → Int32 → Int32 → ah_H → Option ah_H) : Nat → Option Nat → Int32 → Int32 → Int32 → Int32 → ah_H → Option ah_H
  | 0 => fun _ _ _ _ _ _ => none
  | n + 1 => fun a0 a2 a3 a4 a5 h =>
  if (20 : Int32) ≤ a5 then
    (hp_gr h a0 11 34).bind fun v2 =>
    (hp_ldi h v2 a4).bind fun v4 =>
    k38 a0 a2 (a3 + 1) v4 h
  else
  (hp_gr h a0 11 56).bind fun v6 =>
  (hp_gr h a0 11 33).bind fun v8 =>
  (hp_ldb h v8 (((20 : Int32) * a4) + a5)).bind fun v10 =>
  (hp_stb h v6 (((20 : Int32) * (((6 : Int32) * a2) + a3)) + a5) v10).bind fun w12 =>
  bX10_lay_83 E k38 n a0 a2 a3 a4 (a5 + 1) w12
set_option maxRecDepth 20000 in
set_option maxHeartbeats 4000000 in
theorem rX10_lay_83 {X : ah_X} {d : Nat} {k38 : Option Nat → Int32 → Int32 → Int32 → ah_H → Option ah_H} (hk38 : ∀ (x0 : Option Nat) (x1 : Int32) (x2 : Int32) (x3 : Int32) (h : ah_H) (h2 : ah_H), k38 x0 x1 x2 x3 h = some h2 → Rt X yX10_lay cX10_lay 6 d 38 [(0, va_rf x0), (2, .int x1), (3, .int x2), (4, .int x3)] [] h none h2) (n : Nat) : ∀ (a0 : Option Nat) (a2 : Int32) (a3 : Int32) (a4 : Int32) (a5 : Int32) (h : ah_H) (h2 : ah_H), bX10_lay_83 X.2.2.2 k38 n a0 a2 a3 a4 a5 h = some h2 → Rt X yX10_lay cX10_lay 6 d 83 [(0, va_rf a0), (2, .int a2), (3, .int a3), (4, .int a4), (5, .int a5)] [] h none h2 := by
  induction n with
  | zero => intro a0 a2 a3 a4 a5 h h2 hf; cases hf
  | succ n ih =>
  intro a0 a2 a3 a4 a5 h h2 hf
  unfold bX10_lay_83 at hf
  refine rt_iload (pc := 83) (i := 5) (x := a5) 4 rfl dX10_lay_83 ?_
  refine rt_bipush (pc := 85) (n := 20) (v := (20 : Int32)) (by decide) dX10_lay_85 ?_
  by_cases c1 : (20 : Int32) ≤ a5
  · rw [if_pos c1] at hf
    refine rt_icmp_ge_p (pc := 87) (x := a5) (z := (20 : Int32)) (tgt := 126) (by decide) dX10_lay_87 c1 ?_
    refine rt_iinc (pc := 126) (i := 3) (n := 1) (x := a3) (v := (a3 + 1)) (l2 := [(3, .int (a3 + 1)), (0, va_rf a0), (2, .int a2), (4, .int a4), (5, .int a5)]) 2 rfl rfl (by decide) (by first | rfl | (simp [rt_cat, cat_i, cat_l]; done) | (simp [rt_cat, cat_i, cat_l]; decide)) dX10_lay_126 ?_
    refine rt_aload_n (pc := 129) (k0 := 0) (x := a0) 1 rfl dX10_lay_129 ?_
    obtain ⟨v2, e3, hf⟩ := ob1 hf
    refine rt_gr (pc := 130) fd_X10_164 dX10_lay_130 e3 ?_
    refine rt_iload (pc := 133) (i := 4) (x := a4) 3 rfl dX10_lay_133 ?_
    obtain ⟨v4, e5, hf⟩ := ob1 hf
    refine rt_iald (pc := 135) dX10_lay_135 e5 ?_
    refine rt_istore (pc := 136) (i := 4) (x := v4) (l2 := [(4, .int v4), (3, .int (a3 + 1)), (0, va_rf a0), (2, .int a2), (5, .int a5)]) (by decide) (by first | rfl | (simp [rt_cat, cat_i, cat_l]; done) | (simp [rt_cat, cat_i, cat_l]; decide)) dX10_lay_136 ?_
    refine rt_goto (pc := 138) (tgt := 38) (by decide) dX10_lay_138 ?_
    exact rt_locals (rt_sub [2, 3, 1, 0] rfl) (hk38 _ _ _ _ _ _ hf)
  rw [if_neg c1] at hf
  refine rt_icmp_ge_n (pc := 87) (x := a5) (z := (20 : Int32)) (tgt := 126) (by decide) dX10_lay_87 c1 ?_
  refine rt_aload_n (pc := 90) (k0 := 0) (x := a0) 0 rfl dX10_lay_90 ?_
  obtain ⟨v6, e7, hf⟩ := ob1 hf
  refine rt_gr (pc := 91) fd_X10_213 dX10_lay_91 e7 ?_
  refine rt_bipush (pc := 94) (n := 20) (v := (20 : Int32)) (by decide) dX10_lay_94 ?_
  refine rt_bipush (pc := 96) (n := 6) (v := (6 : Int32)) (by decide) dX10_lay_96 ?_
  refine rt_iload_n (pc := 98) (k0 := 2) (x := a2) 1 rfl dX10_lay_98 ?_
  refine rt_imul (pc := 99) (x := (6 : Int32)) (z := a2) dX10_lay_99 ?_
  refine rt_iload_n (pc := 100) (k0 := 3) (x := a3) 2 rfl dX10_lay_100 ?_
  refine rt_iadd (pc := 101) (x := ((6 : Int32) * a2)) (z := a3) dX10_lay_101 ?_
  refine rt_imul (pc := 102) (x := (20 : Int32)) (z := (((6 : Int32) * a2) + a3)) dX10_lay_102 ?_
  refine rt_iload (pc := 103) (i := 5) (x := a5) 4 rfl dX10_lay_103 ?_
  refine rt_iadd (pc := 105) (x := ((20 : Int32) * (((6 : Int32) * a2) + a3))) (z := a5) dX10_lay_105 ?_
  refine rt_aload_n (pc := 106) (k0 := 0) (x := a0) 0 rfl dX10_lay_106 ?_
  obtain ⟨v8, e9, hf⟩ := ob1 hf
  refine rt_gr (pc := 107) fd_X10_161 dX10_lay_107 e9 ?_
  refine rt_bipush (pc := 110) (n := 20) (v := (20 : Int32)) (by decide) dX10_lay_110 ?_
  refine rt_iload (pc := 112) (i := 4) (x := a4) 3 rfl dX10_lay_112 ?_
  refine rt_imul (pc := 114) (x := (20 : Int32)) (z := a4) dX10_lay_114 ?_
  refine rt_iload (pc := 115) (i := 5) (x := a5) 4 rfl dX10_lay_115 ?_
  refine rt_iadd (pc := 117) (x := ((20 : Int32) * a4)) (z := a5) dX10_lay_117 ?_
  obtain ⟨v10, e11, hf⟩ := ob1 hf
  refine rt_bald (pc := 118) dX10_lay_118 e11 ?_
  obtain ⟨w12, e13, hf⟩ := ob1 hf
  refine rt_bast (pc := 119) dX10_lay_119 e13 ?_
  refine rt_iinc (pc := 120) (i := 5) (n := 1) (x := a5) (v := (a5 + 1)) (l2 := [(5, .int (a5 + 1)), (0, va_rf a0), (2, .int a2), (3, .int a3), (4, .int a4)]) 4 rfl rfl (by decide) (by first | rfl | (simp [rt_cat, cat_i, cat_l]; done) | (simp [rt_cat, cat_i, cat_l]; decide)) dX10_lay_120 ?_
  refine rt_goto (pc := 123) (tgt := 83) (by decide) dX10_lay_123 ?_
  exact rt_locals (rt_sub [1, 2, 3, 4, 0] rfl) (ih _ _ _ _ _ _ _ hf)
noncomputable def bX10_lay_38 (E : ah_E) : Nat → Option Nat → Int32 → Int32 → Int32 → ah_H → Option ah_H
  | 0 => fun _ _ _ _ _ => none
  | n + 1 => fun a0 a2 a3 a4 h =>
  if a4 = (-1 : Int32) then
    (hp_gr h a0 11 53).bind fun v2 =>
    (hp_sti h v2 a2 a3).bind fun w4 =>
    some w4
  else
  (hp_gr h a0 11 54).bind fun v6 =>
  (hp_gr h a0 11 31).bind fun v8 =>
  (hp_ldl h v8 a4).bind fun v10 =>
  (hp_stl h v6 (((6 : Int32) * a2) + a3) v10).bind fun w12 =>
  (hp_gr w12 a0 11 55).bind fun v14 =>
  (hp_gr w12 a0 11 32).bind fun v16 =>
  (hp_ldi w12 v16 a4).bind fun v18 =>
  (hp_sti w12 v14 (((6 : Int32) * a2) + a3) v18).bind fun w20 =>
  bX10_lay_83 E (bX10_lay_38 E n) zf a0 a2 a3 a4 (0 : Int32) w20
set_option maxRecDepth 20000 in
set_option maxHeartbeats 4000000 in
theorem rX10_lay_38 {X : ah_X} {d : Nat} (n : Nat) : ∀ (a0 : Option Nat) (a2 : Int32) (a3 : Int32) (a4 : Int32) (h : ah_H) (h2 : ah_H), bX10_lay_38 X.2.2.2 n a0 a2 a3 a4 h = some h2 → Rt X yX10_lay cX10_lay 6 d 38 [(0, va_rf a0), (2, .int a2), (3, .int a3), (4, .int a4)] [] h none h2 := by
  induction n with
  | zero => intro a0 a2 a3 a4 h h2 hf; cases hf
  | succ n ih =>
  intro a0 a2 a3 a4 h h2 hf
  unfold bX10_lay_38 at hf
  refine rt_iload (pc := 38) (i := 4) (x := a4) 3 rfl dX10_lay_38 ?_
  refine rt_iconst (pc := 40) (n := -1) (v := (-1 : Int32)) (by decide) dX10_lay_40 ?_
  by_cases c1 : a4 = (-1 : Int32)
  · rw [if_pos c1] at hf
    refine rt_icmp_eq_p (pc := 41) (x := a4) (z := (-1 : Int32)) (tgt := 141) (by decide) dX10_lay_41 c1 ?_
    refine rt_aload_n (pc := 141) (k0 := 0) (x := a0) 0 rfl dX10_lay_141 ?_
    obtain ⟨v2, e3, hf⟩ := ob1 hf
    refine rt_gr (pc := 142) fd_X10_203 dX10_lay_142 e3 ?_
    refine rt_iload_n (pc := 145) (k0 := 2) (x := a2) 1 rfl dX10_lay_145 ?_
    refine rt_iload_n (pc := 146) (k0 := 3) (x := a3) 2 rfl dX10_lay_146 ?_
    obtain ⟨w4, e5, hf⟩ := ob1 hf
    refine rt_iast (pc := 147) dX10_lay_147 e5 ?_
    cases hf
    exact rt_ret (pc := 148) dX10_lay_148 rfl
  rw [if_neg c1] at hf
  refine rt_icmp_eq_n (pc := 41) (x := a4) (z := (-1 : Int32)) (tgt := 141) (by decide) dX10_lay_41 c1 ?_
  refine rt_aload_n (pc := 44) (k0 := 0) (x := a0) 0 rfl dX10_lay_44 ?_
  obtain ⟨v6, e7, hf⟩ := ob1 hf
  refine rt_gr (pc := 45) fd_X10_206 dX10_lay_45 e7 ?_
  refine rt_bipush (pc := 48) (n := 6) (v := (6 : Int32)) (by decide) dX10_lay_48 ?_
  refine rt_iload_n (pc := 50) (k0 := 2) (x := a2) 1 rfl dX10_lay_50 ?_
  refine rt_imul (pc := 51) (x := (6 : Int32)) (z := a2) dX10_lay_51 ?_
  refine rt_iload_n (pc := 52) (k0 := 3) (x := a3) 2 rfl dX10_lay_52 ?_
  refine rt_iadd (pc := 53) (x := ((6 : Int32) * a2)) (z := a3) dX10_lay_53 ?_
  refine rt_aload_n (pc := 54) (k0 := 0) (x := a0) 0 rfl dX10_lay_54 ?_
  obtain ⟨v8, e9, hf⟩ := ob1 hf
  refine rt_gr (pc := 55) fd_X10_154 dX10_lay_55 e9 ?_
  refine rt_iload (pc := 58) (i := 4) (x := a4) 3 rfl dX10_lay_58 ?_
  obtain ⟨v10, e11, hf⟩ := ob1 hf
  refine rt_lald (pc := 60) dX10_lay_60 e11 ?_
  obtain ⟨w12, e13, hf⟩ := ob1 hf
  refine rt_last (pc := 61) dX10_lay_61 e13 ?_
  refine rt_aload_n (pc := 62) (k0 := 0) (x := a0) 0 rfl dX10_lay_62 ?_
  obtain ⟨v14, e15, hf⟩ := ob1 hf
  refine rt_gr (pc := 63) fd_X10_209 dX10_lay_63 e15 ?_
  refine rt_bipush (pc := 66) (n := 6) (v := (6 : Int32)) (by decide) dX10_lay_66 ?_
  refine rt_iload_n (pc := 68) (k0 := 2) (x := a2) 1 rfl dX10_lay_68 ?_
  refine rt_imul (pc := 69) (x := (6 : Int32)) (z := a2) dX10_lay_69 ?_
  refine rt_iload_n (pc := 70) (k0 := 3) (x := a3) 2 rfl dX10_lay_70 ?_
  refine rt_iadd (pc := 71) (x := ((6 : Int32) * a2)) (z := a3) dX10_lay_71 ?_
  refine rt_aload_n (pc := 72) (k0 := 0) (x := a0) 0 rfl dX10_lay_72 ?_
  obtain ⟨v16, e17, hf⟩ := ob1 hf
  refine rt_gr (pc := 73) fd_X10_157 dX10_lay_73 e17 ?_
  refine rt_iload (pc := 76) (i := 4) (x := a4) 3 rfl dX10_lay_76 ?_
  obtain ⟨v18, e19, hf⟩ := ob1 hf
  refine rt_iald (pc := 78) dX10_lay_78 e19 ?_
  obtain ⟨w20, e21, hf⟩ := ob1 hf
  refine rt_iast (pc := 79) dX10_lay_79 e21 ?_
  refine rt_iconst (pc := 80) (n := 0) (v := (0 : Int32)) (by decide) dX10_lay_80 ?_
  refine rt_istore (pc := 81) (i := 5) (x := (0 : Int32)) (l2 := [(5, .int (0 : Int32)), (0, va_rf a0), (2, .int a2), (3, .int a3), (4, .int a4)]) (by decide) (by first | rfl | (simp [rt_cat, cat_i, cat_l]; done) | (simp [rt_cat, cat_i, cat_l]; decide)) dX10_lay_81 ?_
  exact rt_locals (rt_sub [1, 2, 3, 4, 0] rfl) (rX10_lay_83 ih zf _ _ _ _ _ _ _ hf)
noncomputable def bX10_lay_244 (E : ah_E) : Nat → Option Nat → Int32 → Int32 → Int32 → ah_H → Option ah_H
  | 0 => fun _ _ _ _ _ => none
  | n + 1 => fun a0 a2 a3 a4 h =>
  if a4 = (-1 : Int32) then
    (hp_gr h a0 11 58).bind fun v2 =>
    (hp_sti h v2 a2 a3).bind fun w4 =>
    some w4
  else
  (hp_gr h a0 11 59).bind fun v6 =>
  (hp_gr h a0 11 36).bind fun v8 =>
  (hp_ldi h v8 a4).bind fun v10 =>
  (hp_sti h v6 (((8 : Int32) * a2) + a3) v10).bind fun w12 =>
  (hp_gr w12 a0 11 60).bind fun v14 =>
  (hp_gr w12 a0 11 37).bind fun v16 =>
  (hp_ldl w12 v16 a4).bind fun v18 =>
  (hp_stl w12 v14 (((8 : Int32) * a2) + a3) v18).bind fun w20 =>
  (hp_gr w20 a0 11 61).bind fun v22 =>
  (hp_gr w20 a0 11 38).bind fun v24 =>
  (hp_ldl w20 v24 a4).bind fun v26 =>
  (hp_stl w20 v22 (((8 : Int32) * a2) + a3) v26).bind fun w28 =>
  (hp_gr w28 a0 11 39).bind fun v30 =>
  (hp_ldi w28 v30 a4).bind fun v32 =>
  bX10_lay_244 E n a0 a2 (a3 + 1) v32 w28
set_option maxRecDepth 20000 in
set_option maxHeartbeats 4000000 in
theorem rX10_lay_244 {X : ah_X} {d : Nat} (n : Nat) : ∀ (a0 : Option Nat) (a2 : Int32) (a3 : Int32) (a4 : Int32) (h : ah_H) (h2 : ah_H), bX10_lay_244 X.2.2.2 n a0 a2 a3 a4 h = some h2 → Rt X yX10_lay cX10_lay 6 d 244 [(0, va_rf a0), (2, .int a2), (3, .int a3), (4, .int a4)] [] h none h2 := by
  induction n with
  | zero => intro a0 a2 a3 a4 h h2 hf; cases hf
  | succ n ih =>
  intro a0 a2 a3 a4 h h2 hf
  unfold bX10_lay_244 at hf
  refine rt_iload (pc := 244) (i := 4) (x := a4) 3 rfl dX10_lay_244 ?_
  refine rt_iconst (pc := 246) (n := -1) (v := (-1 : Int32)) (by decide) dX10_lay_246 ?_
  by_cases c1 : a4 = (-1 : Int32)
  · rw [if_pos c1] at hf
    refine rt_icmp_eq_p (pc := 247) (x := a4) (z := (-1 : Int32)) (tgt := 319) (by decide) dX10_lay_247 c1 ?_
    refine rt_aload_n (pc := 319) (k0 := 0) (x := a0) 0 rfl dX10_lay_319 ?_
    obtain ⟨v2, e3, hf⟩ := ob1 hf
    refine rt_gr (pc := 320) fd_X10_219 dX10_lay_320 e3 ?_
    refine rt_iload_n (pc := 323) (k0 := 2) (x := a2) 1 rfl dX10_lay_323 ?_
    refine rt_iload_n (pc := 324) (k0 := 3) (x := a3) 2 rfl dX10_lay_324 ?_
    obtain ⟨w4, e5, hf⟩ := ob1 hf
    refine rt_iast (pc := 325) dX10_lay_325 e5 ?_
    cases hf
    exact rt_ret (pc := 326) dX10_lay_326 rfl
  rw [if_neg c1] at hf
  refine rt_icmp_eq_n (pc := 247) (x := a4) (z := (-1 : Int32)) (tgt := 319) (by decide) dX10_lay_247 c1 ?_
  refine rt_aload_n (pc := 250) (k0 := 0) (x := a0) 0 rfl dX10_lay_250 ?_
  obtain ⟨v6, e7, hf⟩ := ob1 hf
  refine rt_gr (pc := 251) fd_X10_222 dX10_lay_251 e7 ?_
  refine rt_bipush (pc := 254) (n := 8) (v := (8 : Int32)) (by decide) dX10_lay_254 ?_
  refine rt_iload_n (pc := 256) (k0 := 2) (x := a2) 1 rfl dX10_lay_256 ?_
  refine rt_imul (pc := 257) (x := (8 : Int32)) (z := a2) dX10_lay_257 ?_
  refine rt_iload_n (pc := 258) (k0 := 3) (x := a3) 2 rfl dX10_lay_258 ?_
  refine rt_iadd (pc := 259) (x := ((8 : Int32) * a2)) (z := a3) dX10_lay_259 ?_
  refine rt_aload_n (pc := 260) (k0 := 0) (x := a0) 0 rfl dX10_lay_260 ?_
  obtain ⟨v8, e9, hf⟩ := ob1 hf
  refine rt_gr (pc := 261) fd_X10_167 dX10_lay_261 e9 ?_
  refine rt_iload (pc := 264) (i := 4) (x := a4) 3 rfl dX10_lay_264 ?_
  obtain ⟨v10, e11, hf⟩ := ob1 hf
  refine rt_iald (pc := 266) dX10_lay_266 e11 ?_
  obtain ⟨w12, e13, hf⟩ := ob1 hf
  refine rt_iast (pc := 267) dX10_lay_267 e13 ?_
  refine rt_aload_n (pc := 268) (k0 := 0) (x := a0) 0 rfl dX10_lay_268 ?_
  obtain ⟨v14, e15, hf⟩ := ob1 hf
  refine rt_gr (pc := 269) fd_X10_225 dX10_lay_269 e15 ?_
  refine rt_bipush (pc := 272) (n := 8) (v := (8 : Int32)) (by decide) dX10_lay_272 ?_
  refine rt_iload_n (pc := 274) (k0 := 2) (x := a2) 1 rfl dX10_lay_274 ?_
  refine rt_imul (pc := 275) (x := (8 : Int32)) (z := a2) dX10_lay_275 ?_
  refine rt_iload_n (pc := 276) (k0 := 3) (x := a3) 2 rfl dX10_lay_276 ?_
  refine rt_iadd (pc := 277) (x := ((8 : Int32) * a2)) (z := a3) dX10_lay_277 ?_
  refine rt_aload_n (pc := 278) (k0 := 0) (x := a0) 0 rfl dX10_lay_278 ?_
  obtain ⟨v16, e17, hf⟩ := ob1 hf
  refine rt_gr (pc := 279) fd_X10_170 dX10_lay_279 e17 ?_
  refine rt_iload (pc := 282) (i := 4) (x := a4) 3 rfl dX10_lay_282 ?_
  obtain ⟨v18, e19, hf⟩ := ob1 hf
  refine rt_lald (pc := 284) dX10_lay_284 e19 ?_
  obtain ⟨w20, e21, hf⟩ := ob1 hf
  refine rt_last (pc := 285) dX10_lay_285 e21 ?_
  refine rt_aload_n (pc := 286) (k0 := 0) (x := a0) 0 rfl dX10_lay_286 ?_
  obtain ⟨v22, e23, hf⟩ := ob1 hf
  refine rt_gr (pc := 287) fd_X10_228 dX10_lay_287 e23 ?_
  refine rt_bipush (pc := 290) (n := 8) (v := (8 : Int32)) (by decide) dX10_lay_290 ?_
  refine rt_iload_n (pc := 292) (k0 := 2) (x := a2) 1 rfl dX10_lay_292 ?_
  refine rt_imul (pc := 293) (x := (8 : Int32)) (z := a2) dX10_lay_293 ?_
  refine rt_iload_n (pc := 294) (k0 := 3) (x := a3) 2 rfl dX10_lay_294 ?_
  refine rt_iadd (pc := 295) (x := ((8 : Int32) * a2)) (z := a3) dX10_lay_295 ?_
  refine rt_aload_n (pc := 296) (k0 := 0) (x := a0) 0 rfl dX10_lay_296 ?_
  obtain ⟨v24, e25, hf⟩ := ob1 hf
  refine rt_gr (pc := 297) fd_X10_173 dX10_lay_297 e25 ?_
  refine rt_iload (pc := 300) (i := 4) (x := a4) 3 rfl dX10_lay_300 ?_
  obtain ⟨v26, e27, hf⟩ := ob1 hf
  refine rt_lald (pc := 302) dX10_lay_302 e27 ?_
  obtain ⟨w28, e29, hf⟩ := ob1 hf
  refine rt_last (pc := 303) dX10_lay_303 e29 ?_
  refine rt_iinc (pc := 304) (i := 3) (n := 1) (x := a3) (v := (a3 + 1)) (l2 := [(3, .int (a3 + 1)), (0, va_rf a0), (2, .int a2), (4, .int a4)]) 2 rfl rfl (by decide) (by first | rfl | (simp [rt_cat, cat_i, cat_l]; done) | (simp [rt_cat, cat_i, cat_l]; decide)) dX10_lay_304 ?_
  refine rt_aload_n (pc := 307) (k0 := 0) (x := a0) 1 rfl dX10_lay_307 ?_
  obtain ⟨v30, e31, hf⟩ := ob1 hf
  refine rt_gr (pc := 308) fd_X10_176 dX10_lay_308 e31 ?_
  refine rt_iload (pc := 311) (i := 4) (x := a4) 3 rfl dX10_lay_311 ?_
  obtain ⟨v32, e33, hf⟩ := ob1 hf
  refine rt_iald (pc := 313) dX10_lay_313 e33 ?_
  refine rt_istore (pc := 314) (i := 4) (x := v32) (l2 := [(4, .int v32), (3, .int (a3 + 1)), (0, va_rf a0), (2, .int a2)]) (by decide) (by first | rfl | (simp [rt_cat, cat_i, cat_l]; done) | (simp [rt_cat, cat_i, cat_l]; decide)) dX10_lay_314 ?_
  refine rt_goto (pc := 316) (tgt := 244) (by decide) dX10_lay_316 ?_
  exact rt_locals (rt_sub [2, 3, 1, 0] rfl) (ih _ _ _ _ _ _ hf)
noncomputable def bX10_lay_152 (E : ah_E) : Nat → Option Nat → Int32 → Int32 → Int32 → Int32 → ah_H → Option ah_H
  | 0 => fun _ _ _ _ _ _ => none
  | n + 1 => fun a0 a1 a2 a3 a4 h =>
  (hp_gr h a0 11 21).bind fun v1 =>
  (hp_ldi h v1 a1).bind fun v3 =>
  if v3 ≤ a4 then
    (hp_gr h a0 11 53).bind fun v6 =>
    (hp_gr h a0 11 21).bind fun v8 =>
    (hp_ldi h v8 a1).bind fun v10 =>
    (hp_sti h v6 a2 v10).bind fun w12 =>
    (hp_gr w12 a0 11 24).bind fun v14 =>
    (hp_ldi w12 v14 a1).bind fun v16 =>
    bX10_lay_244 E zf a0 a2 a3 v16 w12
  else
  (hp_gr h a0 11 57).bind fun v18 =>
  (hp_gr h a0 11 27).bind fun v20 =>
  (hp_gr h a0 11 22).bind fun v22 =>
  (hp_ldi h v22 (((128 : Int32) * a1) + a4)).bind fun v24 =>
  (hp_ldi h v20 v24).bind fun v26 =>
  (hp_sti h v18 (((6 : Int32) * a2) + a4) v26).bind fun w28 =>
  (hp_gr w28 a0 11 54).bind fun v30 =>
  (hp_gr w28 a0 11 23).bind fun v32 =>
  (hp_ldl w28 v32 (((128 : Int32) * a1) + a4)).bind fun v34 =>
  (hp_stl w28 v30 (((6 : Int32) * a2) + a4) v34).bind fun w36 =>
  bX10_lay_152 E n a0 a1 a2 a3 (a4 + 1) w36
set_option maxRecDepth 20000 in
set_option maxHeartbeats 4000000 in
theorem rX10_lay_152 {X : ah_X} {d : Nat} (n : Nat) : ∀ (a0 : Option Nat) (a1 : Int32) (a2 : Int32) (a3 : Int32) (a4 : Int32) (h : ah_H) (h2 : ah_H), bX10_lay_152 X.2.2.2 n a0 a1 a2 a3 a4 h = some h2 → Rt X yX10_lay cX10_lay 6 d 152 [(0, va_rf a0), (1, .int a1), (2, .int a2), (3, .int a3), (4, .int a4)] [] h none h2 := by
  induction n with
  | zero => intro a0 a1 a2 a3 a4 h h2 hf; cases hf
  | succ n ih =>
  intro a0 a1 a2 a3 a4 h h2 hf
  unfold bX10_lay_152 at hf
  refine rt_iload (pc := 152) (i := 4) (x := a4) 4 rfl dX10_lay_152 ?_
  refine rt_aload_n (pc := 154) (k0 := 0) (x := a0) 0 rfl dX10_lay_154 ?_
  obtain ⟨v1, e2, hf⟩ := ob1 hf
  refine rt_gr (pc := 155) fd_X10_129 dX10_lay_155 e2 ?_
  refine rt_iload_n (pc := 158) (k0 := 1) (x := a1) 1 rfl dX10_lay_158 ?_
  obtain ⟨v3, e4, hf⟩ := ob1 hf
  refine rt_iald (pc := 159) dX10_lay_159 e4 ?_
  by_cases c5 : v3 ≤ a4
  · rw [if_pos c5] at hf
    refine rt_icmp_ge_p (pc := 160) (x := a4) (z := v3) (tgt := 224) (by decide) dX10_lay_160 c5 ?_
    refine rt_aload_n (pc := 224) (k0 := 0) (x := a0) 0 rfl dX10_lay_224 ?_
    obtain ⟨v6, e7, hf⟩ := ob1 hf
    refine rt_gr (pc := 225) fd_X10_203 dX10_lay_225 e7 ?_
    refine rt_iload_n (pc := 228) (k0 := 2) (x := a2) 2 rfl dX10_lay_228 ?_
    refine rt_aload_n (pc := 229) (k0 := 0) (x := a0) 0 rfl dX10_lay_229 ?_
    obtain ⟨v8, e9, hf⟩ := ob1 hf
    refine rt_gr (pc := 230) fd_X10_129 dX10_lay_230 e9 ?_
    refine rt_iload_n (pc := 233) (k0 := 1) (x := a1) 1 rfl dX10_lay_233 ?_
    obtain ⟨v10, e11, hf⟩ := ob1 hf
    refine rt_iald (pc := 234) dX10_lay_234 e11 ?_
    obtain ⟨w12, e13, hf⟩ := ob1 hf
    refine rt_iast (pc := 235) dX10_lay_235 e13 ?_
    refine rt_aload_n (pc := 236) (k0 := 0) (x := a0) 0 rfl dX10_lay_236 ?_
    obtain ⟨v14, e15, hf⟩ := ob1 hf
    refine rt_gr (pc := 237) fd_X10_139 dX10_lay_237 e15 ?_
    refine rt_iload_n (pc := 240) (k0 := 1) (x := a1) 1 rfl dX10_lay_240 ?_
    obtain ⟨v16, e17, hf⟩ := ob1 hf
    refine rt_iald (pc := 241) dX10_lay_241 e17 ?_
    refine rt_istore (pc := 242) (i := 4) (x := v16) (l2 := [(4, .int v16), (0, va_rf a0), (1, .int a1), (2, .int a2), (3, .int a3)]) (by decide) (by first | rfl | (simp [rt_cat, cat_i, cat_l]; done) | (simp [rt_cat, cat_i, cat_l]; decide)) dX10_lay_242 ?_
    exact rt_locals (rt_sub [1, 3, 4, 0] rfl) (rX10_lay_244 zf _ _ _ _ _ _ hf)
  rw [if_neg c5] at hf
  refine rt_icmp_ge_n (pc := 160) (x := a4) (z := v3) (tgt := 224) (by decide) dX10_lay_160 c5 ?_
  refine rt_aload_n (pc := 163) (k0 := 0) (x := a0) 0 rfl dX10_lay_163 ?_
  obtain ⟨v18, e19, hf⟩ := ob1 hf
  refine rt_gr (pc := 164) fd_X10_216 dX10_lay_164 e19 ?_
  refine rt_bipush (pc := 167) (n := 6) (v := (6 : Int32)) (by decide) dX10_lay_167 ?_
  refine rt_iload_n (pc := 169) (k0 := 2) (x := a2) 2 rfl dX10_lay_169 ?_
  refine rt_imul (pc := 170) (x := (6 : Int32)) (z := a2) dX10_lay_170 ?_
  refine rt_iload (pc := 171) (i := 4) (x := a4) 4 rfl dX10_lay_171 ?_
  refine rt_iadd (pc := 173) (x := ((6 : Int32) * a2)) (z := a4) dX10_lay_173 ?_
  refine rt_aload_n (pc := 174) (k0 := 0) (x := a0) 0 rfl dX10_lay_174 ?_
  obtain ⟨v20, e21, hf⟩ := ob1 hf
  refine rt_gr (pc := 175) fd_X10_148 dX10_lay_175 e21 ?_
  refine rt_aload_n (pc := 178) (k0 := 0) (x := a0) 0 rfl dX10_lay_178 ?_
  obtain ⟨v22, e23, hf⟩ := ob1 hf
  refine rt_gr (pc := 179) fd_X10_133 dX10_lay_179 e23 ?_
  refine rt_sipush (pc := 182) (n := 128) (v := (128 : Int32)) (by decide) dX10_lay_182 ?_
  refine rt_iload_n (pc := 185) (k0 := 1) (x := a1) 1 rfl dX10_lay_185 ?_
  refine rt_imul (pc := 186) (x := (128 : Int32)) (z := a1) dX10_lay_186 ?_
  refine rt_iload (pc := 187) (i := 4) (x := a4) 4 rfl dX10_lay_187 ?_
  refine rt_iadd (pc := 189) (x := ((128 : Int32) * a1)) (z := a4) dX10_lay_189 ?_
  obtain ⟨v24, e25, hf⟩ := ob1 hf
  refine rt_iald (pc := 190) dX10_lay_190 e25 ?_
  obtain ⟨v26, e27, hf⟩ := ob1 hf
  refine rt_iald (pc := 191) dX10_lay_191 e27 ?_
  obtain ⟨w28, e29, hf⟩ := ob1 hf
  refine rt_iast (pc := 192) dX10_lay_192 e29 ?_
  refine rt_aload_n (pc := 193) (k0 := 0) (x := a0) 0 rfl dX10_lay_193 ?_
  obtain ⟨v30, e31, hf⟩ := ob1 hf
  refine rt_gr (pc := 194) fd_X10_206 dX10_lay_194 e31 ?_
  refine rt_bipush (pc := 197) (n := 6) (v := (6 : Int32)) (by decide) dX10_lay_197 ?_
  refine rt_iload_n (pc := 199) (k0 := 2) (x := a2) 2 rfl dX10_lay_199 ?_
  refine rt_imul (pc := 200) (x := (6 : Int32)) (z := a2) dX10_lay_200 ?_
  refine rt_iload (pc := 201) (i := 4) (x := a4) 4 rfl dX10_lay_201 ?_
  refine rt_iadd (pc := 203) (x := ((6 : Int32) * a2)) (z := a4) dX10_lay_203 ?_
  refine rt_aload_n (pc := 204) (k0 := 0) (x := a0) 0 rfl dX10_lay_204 ?_
  obtain ⟨v32, e33, hf⟩ := ob1 hf
  refine rt_gr (pc := 205) fd_X10_136 dX10_lay_205 e33 ?_
  refine rt_sipush (pc := 208) (n := 128) (v := (128 : Int32)) (by decide) dX10_lay_208 ?_
  refine rt_iload_n (pc := 211) (k0 := 1) (x := a1) 1 rfl dX10_lay_211 ?_
  refine rt_imul (pc := 212) (x := (128 : Int32)) (z := a1) dX10_lay_212 ?_
  refine rt_iload (pc := 213) (i := 4) (x := a4) 4 rfl dX10_lay_213 ?_
  refine rt_iadd (pc := 215) (x := ((128 : Int32) * a1)) (z := a4) dX10_lay_215 ?_
  obtain ⟨v34, e35, hf⟩ := ob1 hf
  refine rt_lald (pc := 216) dX10_lay_216 e35 ?_
  obtain ⟨w36, e37, hf⟩ := ob1 hf
  refine rt_last (pc := 217) dX10_lay_217 e37 ?_
  refine rt_iinc (pc := 218) (i := 4) (n := 1) (x := a4) (v := (a4 + 1)) (l2 := [(4, .int (a4 + 1)), (0, va_rf a0), (1, .int a1), (2, .int a2), (3, .int a3)]) 4 rfl rfl (by decide) (by first | rfl | (simp [rt_cat, cat_i, cat_l]; done) | (simp [rt_cat, cat_i, cat_l]; decide)) dX10_lay_218 ?_
  refine rt_goto (pc := 221) (tgt := 152) (by decide) dX10_lay_221 ?_
  exact rt_locals (rt_sub [1, 2, 3, 4, 0] rfl) (ih _ _ _ _ _ _ _ hf)
noncomputable def bX10_lay_0 (E : ah_E) (a0 : Option Nat) (a1 : Int32) (a2 : Int32) (h : ah_H) : Option ah_H :=
  (hp_gr h a0 11 52).bind fun v1 =>
  (hp_gr h a0 11 18).bind fun v3 =>
  (hp_ldb h v3 a1).bind fun v5 =>
  (hp_stb h v1 a2 v5).bind fun w7 =>
  (hp_gr w7 a0 11 58).bind fun v9 =>
  (hp_sti w7 v9 a2 (0 : Int32)).bind fun w11 =>
  (hp_gr w11 a0 11 18).bind fun v13 =>
  (hp_ldb w11 v13 a1).bind fun v15 =>
  if v15 = 0 then
    bX10_lay_152 E zf a0 a1 a2 (0 : Int32) (0 : Int32) w11
  else
  (hp_gr w11 a0 11 19).bind fun v18 =>
  (hp_ldi w11 v18 a1).bind fun v20 =>
  bX10_lay_38 E zf a0 a2 (0 : Int32) v20 w11
set_option maxRecDepth 20000 in
set_option maxHeartbeats 4000000 in
theorem rX10_lay_0 {X : ah_X} {d : Nat} {a0 : Option Nat} {a1 : Int32} {a2 : Int32} {h : ah_H} {h2 : ah_H} (hf : bX10_lay_0 X.2.2.2 a0 a1 a2 h = some h2) : Rt X yX10_lay cX10_lay 6 d 0 [(0, va_rf a0), (1, .int a1), (2, .int a2)] [] h none h2 := by
  unfold bX10_lay_0 at hf
  refine rt_aload_n (pc := 0) (k0 := 0) (x := a0) 0 rfl dX10_lay_0 ?_
  obtain ⟨v1, e2, hf⟩ := ob1 hf
  refine rt_gr (pc := 1) fd_X10_200 dX10_lay_1 e2 ?_
  refine rt_iload_n (pc := 4) (k0 := 2) (x := a2) 2 rfl dX10_lay_4 ?_
  refine rt_aload_n (pc := 5) (k0 := 0) (x := a0) 0 rfl dX10_lay_5 ?_
  obtain ⟨v3, e4, hf⟩ := ob1 hf
  refine rt_gr (pc := 6) fd_X10_119 dX10_lay_6 e4 ?_
  refine rt_iload_n (pc := 9) (k0 := 1) (x := a1) 1 rfl dX10_lay_9 ?_
  obtain ⟨v5, e6, hf⟩ := ob1 hf
  refine rt_bald (pc := 10) dX10_lay_10 e6 ?_
  obtain ⟨w7, e8, hf⟩ := ob1 hf
  refine rt_bast (pc := 11) dX10_lay_11 e8 ?_
  refine rt_aload_n (pc := 12) (k0 := 0) (x := a0) 0 rfl dX10_lay_12 ?_
  obtain ⟨v9, e10, hf⟩ := ob1 hf
  refine rt_gr (pc := 13) fd_X10_219 dX10_lay_13 e10 ?_
  refine rt_iload_n (pc := 16) (k0 := 2) (x := a2) 2 rfl dX10_lay_16 ?_
  refine rt_iconst (pc := 17) (n := 0) (v := (0 : Int32)) (by decide) dX10_lay_17 ?_
  obtain ⟨w11, e12, hf⟩ := ob1 hf
  refine rt_iast (pc := 18) dX10_lay_18 e12 ?_
  refine rt_iconst (pc := 19) (n := 0) (v := (0 : Int32)) (by decide) dX10_lay_19 ?_
  refine rt_istore_n (pc := 20) (k0 := 3) (x := (0 : Int32)) (l2 := [(3, .int (0 : Int32)), (0, va_rf a0), (1, .int a1), (2, .int a2)]) (by decide) (by first | rfl | (simp [rt_cat, cat_i, cat_l]; done) | (simp [rt_cat, cat_i, cat_l]; decide)) dX10_lay_20 ?_
  refine rt_aload_n (pc := 21) (k0 := 0) (x := a0) 1 rfl dX10_lay_21 ?_
  obtain ⟨v13, e14, hf⟩ := ob1 hf
  refine rt_gr (pc := 22) fd_X10_119 dX10_lay_22 e14 ?_
  refine rt_iload_n (pc := 25) (k0 := 1) (x := a1) 2 rfl dX10_lay_25 ?_
  obtain ⟨v15, e16, hf⟩ := ob1 hf
  refine rt_bald (pc := 26) dX10_lay_26 e16 ?_
  by_cases c17 : v15 = 0
  · rw [if_pos c17] at hf
    refine rt_if_eq_p (pc := 27) (x := v15) (tgt := 149) (by decide) dX10_lay_27 c17 ?_
    refine rt_iconst (pc := 149) (n := 0) (v := (0 : Int32)) (by decide) dX10_lay_149 ?_
    refine rt_istore (pc := 150) (i := 4) (x := (0 : Int32)) (l2 := [(4, .int (0 : Int32)), (3, .int (0 : Int32)), (0, va_rf a0), (1, .int a1), (2, .int a2)]) (by decide) (by first | rfl | (simp [rt_cat, cat_i, cat_l]; done) | (simp [rt_cat, cat_i, cat_l]; decide)) dX10_lay_150 ?_
    exact rt_locals (rt_sub [2, 3, 4, 1, 0] rfl) (rX10_lay_152 zf _ _ _ _ _ _ _ hf)
  rw [if_neg c17] at hf
  refine rt_if_eq_n (pc := 27) (x := v15) (tgt := 149) (by decide) dX10_lay_27 c17 ?_
  refine rt_aload_n (pc := 30) (k0 := 0) (x := a0) 1 rfl dX10_lay_30 ?_
  obtain ⟨v18, e19, hf⟩ := ob1 hf
  refine rt_gr (pc := 31) fd_X10_123 dX10_lay_31 e19 ?_
  refine rt_iload_n (pc := 34) (k0 := 1) (x := a1) 2 rfl dX10_lay_34 ?_
  obtain ⟨v20, e21, hf⟩ := ob1 hf
  refine rt_iald (pc := 35) dX10_lay_35 e21 ?_
  refine rt_istore (pc := 36) (i := 4) (x := v20) (l2 := [(4, .int v20), (3, .int (0 : Int32)), (0, va_rf a0), (1, .int a1), (2, .int a2)]) (by decide) (by first | rfl | (simp [rt_cat, cat_i, cat_l]; done) | (simp [rt_cat, cat_i, cat_l]; decide)) dX10_lay_36 ?_
  exact rt_locals (rt_sub [2, 4, 1, 0] rfl) (rX10_lay_38 zf _ _ _ _ _ _ hf)
noncomputable def fX10_lay (E : ah_E) (a0 : Option Nat) (a1 : Int32) (a2 : Int32) (h : ah_H) : Option ah_H := if hp_rcv h a0 11 = false then none else bX10_lay_0 E a0 a1 a2 h
set_option maxRecDepth 20000 in
set_option maxHeartbeats 4000000 in
theorem sX10_lay {X : ah_X} (d : Nat) (hd : 0 ≤ d) {a0 : Option Nat} {a1 : Int32} {a2 : Int32} {h : ah_H} {h2 : ah_H} (hf : fX10_lay X.2.2.2 a0 a1 a2 h = some h2) : hp_rcv h a0 11 = true ∧ Rn X yX10_lay cX10_lay 6 none d [va_rf a0, .int a1, .int a2] h none h2 := by
  unfold fX10_lay at hf
  by_cases c0 : hp_rcv h a0 11 = false
  · rw [if_pos c0] at hf; cases hf
  rw [if_neg c0] at hf
  refine ⟨(Bool.not_eq_false _).mp c0, ?_⟩
  exact Rn.of2 me_X10_lay (by simp [lg_sl, rt_cat, cat_i, cat_l]) rfl (l := [(0, va_rf a0), (1, .int a1), (2, .int a2)]) (by simp [lv_args, rt_cat, cat_i, cat_l]) (rX10_lay_0 hf)
noncomputable def bX10_leastFree_2 (E : ah_E) : Nat → Option Nat → Int32 → ah_H → Option (Int32 × ah_H)
  | 0 => fun _ _ _ => none
  | n + 1 => fun a0 a1 h =>
  (hp_gr h a0 11 76).bind fun v1 =>
  (hp_ldb h v1 a1).bind fun v3 =>
  if v3 = 0 then
    some (a1, h)
  else
  bX10_leastFree_2 E n a0 (a1 + 1) h
set_option maxRecDepth 20000 in
set_option maxHeartbeats 4000000 in
theorem rX10_leastFree_2 {X : ah_X} {d : Nat} (n : Nat) : ∀ (a0 : Option Nat) (a1 : Int32) (h : ah_H) (r : Int32) (h2 : ah_H), bX10_leastFree_2 X.2.2.2 n a0 a1 h = some (r, h2) → Rt X yX10_leastFree cX10_leastFree 2 d 2 [(0, va_rf a0), (1, .int a1)] [] h (some (.int r)) h2 := by
  induction n with
  | zero => intro a0 a1 h r h2 hf; cases hf
  | succ n ih =>
  intro a0 a1 h r h2 hf
  unfold bX10_leastFree_2 at hf
  refine rt_aload_n (pc := 2) (k0 := 0) (x := a0) 0 rfl dX10_leastFree_2 ?_
  obtain ⟨v1, e2, hf⟩ := ob1 hf
  refine rt_gr (pc := 3) fd_X10_264 dX10_leastFree_3 e2 ?_
  refine rt_iload_n (pc := 6) (k0 := 1) (x := a1) 1 rfl dX10_leastFree_6 ?_
  obtain ⟨v3, e4, hf⟩ := ob1 hf
  refine rt_bald (pc := 7) dX10_leastFree_7 e4 ?_
  by_cases c5 : v3 = 0
  · rw [if_pos c5] at hf
    refine rt_if_eq_p (pc := 8) (x := v3) (tgt := 17) (by decide) dX10_leastFree_8 c5 ?_
    refine rt_iload_n (pc := 17) (k0 := 1) (x := a1) 1 rfl dX10_leastFree_17 ?_
    cases hf
    exact rt_ret (pc := 18) dX10_leastFree_18 rfl
  rw [if_neg c5] at hf
  refine rt_if_eq_n (pc := 8) (x := v3) (tgt := 17) (by decide) dX10_leastFree_8 c5 ?_
  refine rt_iinc (pc := 11) (i := 1) (n := 1) (x := a1) (v := (a1 + 1)) (l2 := [(1, .int (a1 + 1)), (0, va_rf a0)]) 1 rfl rfl (by decide) (by first | rfl | (simp [rt_cat, cat_i, cat_l]; done) | (simp [rt_cat, cat_i, cat_l]; decide)) dX10_leastFree_11 ?_
  refine rt_goto (pc := 14) (tgt := 2) (by decide) dX10_leastFree_14 ?_
  exact rt_locals (rt_sub [1, 0] rfl) (ih _ _ _ _ _ hf)
noncomputable def bX10_leastFree_0 (E : ah_E) (a0 : Option Nat) (h : ah_H) : Option (Int32 × ah_H) :=
  bX10_leastFree_2 E zf a0 (0 : Int32) h
set_option maxRecDepth 20000 in
set_option maxHeartbeats 4000000 in
theorem rX10_leastFree_0 {X : ah_X} {d : Nat} {a0 : Option Nat} {h : ah_H} {r : Int32} {h2 : ah_H} (hf : bX10_leastFree_0 X.2.2.2 a0 h = some (r, h2)) : Rt X yX10_leastFree cX10_leastFree 2 d 0 [(0, va_rf a0)] [] h (some (.int r)) h2 := by
  unfold bX10_leastFree_0 at hf
  refine rt_iconst (pc := 0) (n := 0) (v := (0 : Int32)) (by decide) dX10_leastFree_0 ?_
  refine rt_istore_n (pc := 1) (k0 := 1) (x := (0 : Int32)) (l2 := [(1, .int (0 : Int32)), (0, va_rf a0)]) (by decide) (by first | rfl | (simp [rt_cat, cat_i, cat_l]; done) | (simp [rt_cat, cat_i, cat_l]; decide)) dX10_leastFree_1 ?_
  exact rt_locals (rt_sub [1, 0] rfl) (rX10_leastFree_2 zf _ _ _ _ _ hf)
noncomputable def fX10_leastFree (E : ah_E) (a0 : Option Nat) (h : ah_H) : Option (Int32 × ah_H) := if hp_rcv h a0 11 = false then none else bX10_leastFree_0 E a0 h
set_option maxRecDepth 20000 in
set_option maxHeartbeats 4000000 in
theorem sX10_leastFree {X : ah_X} (d : Nat) (hd : 0 ≤ d) {a0 : Option Nat} {h : ah_H} {r : Int32} {h2 : ah_H} (hf : fX10_leastFree X.2.2.2 a0 h = some (r, h2)) : hp_rcv h a0 11 = true ∧ Rn X yX10_leastFree cX10_leastFree 2 (some .int) d [va_rf a0] h (some (.int r)) h2 := by
  unfold fX10_leastFree at hf
  by_cases c0 : hp_rcv h a0 11 = false
  · rw [if_pos c0] at hf; cases hf
  rw [if_neg c0] at hf
  refine ⟨(Bool.not_eq_false _).mp c0, ?_⟩
  exact Rn.of2 me_X10_leastFree (by simp [lg_sl, rt_cat, cat_i, cat_l]) (ok_i _) (l := [(0, va_rf a0)]) (by simp [lv_args, rt_cat, cat_i, cat_l]) (rX10_leastFree_0 hf)
noncomputable def bX10_laysAll_75 (E : ah_E) (kr : Option Nat → Int32 → ah_H → Option (Int32 × ah_H)) (a0 : Option Nat) (a1 : Int32) (s0 : Option Nat) (s1 : Int32) (h : ah_H) : Option (Int32 × ah_H) :=
  ob2 (fX10_falls E s0 s1 h) fun v3 w2 =>
  if v3 = 0 then
    ob2 (fX10_leastFree E a0 w2) fun v8 w7 =>
    (fX10_lay E a0 a1 v8 w7).bind fun w11 =>
    (hp_gr w11 a0 11 76).bind fun v13 =>
    (hp_stb w11 v13 v8 (1 : Int32)).bind fun w15 =>
    (hp_gr w15 a0 11 27).bind fun v17 =>
    (hp_sti w15 v17 a1 v8).bind fun w19 =>
    some ((1 : Int32), w19)
  else
  some ((0 : Int32), w2)
set_option maxRecDepth 20000 in
set_option maxHeartbeats 4000000 in
theorem rX10_laysAll_75 {X : ah_X} {d : Nat} {dk : Nat} {kr : Option Nat → Int32 → ah_H → Option (Int32 × ah_H)} (hkr : ∀ (d : Nat), dk ≤ d → ∀ (x0 : Option Nat) (x1 : Int32) (h : ah_H) (r : Int32) (h2 : ah_H), kr x0 x1 h = some (r, h2) → hp_rcv h x0 11 = true ∧ Rn X yX10_laysAll cX10_laysAll 3 (some .boolean) d [va_rf x0, .int x1] h (some (.int r)) h2) (hd : 0 ≤ d) (hdk : dk + 0 ≤ d) {a0 : Option Nat} {a1 : Int32} {s0 : Option Nat} {s1 : Int32} {h : ah_H} {r : Int32} {h2 : ah_H} (hf : bX10_laysAll_75 X.2.2.2 kr a0 a1 s0 s1 h = some (r, h2)) : Rt X yX10_laysAll cX10_laysAll 3 (d + 1) 75 [(0, va_rf a0), (1, .int a1)] [.int s1, va_rf s0] h (some (.int r)) h2 := by
  unfold bX10_laysAll_75 at hf
  obtain ⟨v3, w2, e1, hf⟩ := ob2_of hf
  have g4 := sX10_falls d (by omega) e1
  refine rt_callV (pc := 75) (As := [.int s1]) (st := []) me_X10_falls mi_X10_falls wl_X10_375 dX10_laysAll_75 rfl (by decide) rfl g4.1 g4.2 ?_
  by_cases c5 : v3 = 0
  · rw [if_pos c5] at hf
    refine rt_if_eq_p (pc := 78) (x := v3) (tgt := 83) (by decide) dX10_laysAll_78 c5 ?_
    refine rt_aload_n (pc := 83) (k0 := 0) (x := a0) 0 rfl dX10_laysAll_83 ?_
    obtain ⟨v8, w7, e6, hf⟩ := ob2_of hf
    have g9 := sX10_leastFree d (by omega) e6
    refine rt_callV (pc := 84) (As := []) (st := []) me_X10_leastFree mi_X10_leastFree wl_X10_378 dX10_laysAll_84 rfl (by decide) rfl g9.1 g9.2 ?_
    refine rt_istore_n (pc := 87) (k0 := 2) (x := v8) (l2 := [(2, .int v8), (0, va_rf a0), (1, .int a1)]) (by decide) (by first | rfl | (simp [rt_cat, cat_i, cat_l]; done) | (simp [rt_cat, cat_i, cat_l]; decide)) dX10_laysAll_87 ?_
    refine rt_aload_n (pc := 88) (k0 := 0) (x := a0) 1 rfl dX10_laysAll_88 ?_
    refine rt_iload_n (pc := 89) (k0 := 1) (x := a1) 2 rfl dX10_laysAll_89 ?_
    refine rt_iload_n (pc := 90) (k0 := 2) (x := v8) 0 rfl dX10_laysAll_90 ?_
    obtain ⟨w11, e10, hf⟩ := ob1 hf
    have g12 := sX10_lay d (by omega) e10
    refine rt_callV (pc := 91) (As := [.int a1, .int v8]) (st := []) me_X10_lay mi_X10_lay wl_X10_382 dX10_laysAll_91 rfl (by decide) rfl g12.1 g12.2 ?_
    refine rt_aload_n (pc := 94) (k0 := 0) (x := a0) 1 rfl dX10_laysAll_94 ?_
    obtain ⟨v13, e14, hf⟩ := ob1 hf
    refine rt_gr (pc := 95) fd_X10_264 dX10_laysAll_95 e14 ?_
    refine rt_iload_n (pc := 98) (k0 := 2) (x := v8) 0 rfl dX10_laysAll_98 ?_
    refine rt_iconst (pc := 99) (n := 1) (v := (1 : Int32)) (by decide) dX10_laysAll_99 ?_
    obtain ⟨w15, e16, hf⟩ := ob1 hf
    refine rt_bast (pc := 100) dX10_laysAll_100 e16 ?_
    refine rt_aload_n (pc := 101) (k0 := 0) (x := a0) 1 rfl dX10_laysAll_101 ?_
    obtain ⟨v17, e18, hf⟩ := ob1 hf
    refine rt_gr (pc := 102) fd_X10_148 dX10_laysAll_102 e18 ?_
    refine rt_iload_n (pc := 105) (k0 := 1) (x := a1) 2 rfl dX10_laysAll_105 ?_
    refine rt_iload_n (pc := 106) (k0 := 2) (x := v8) 0 rfl dX10_laysAll_106 ?_
    obtain ⟨w19, e20, hf⟩ := ob1 hf
    refine rt_iast (pc := 107) dX10_laysAll_107 e20 ?_
    refine rt_iconst (pc := 108) (n := 1) (v := (1 : Int32)) (by decide) dX10_laysAll_108 ?_
    cases hf
    exact rt_ret (pc := 109) dX10_laysAll_109 rfl
  rw [if_neg c5] at hf
  refine rt_if_eq_n (pc := 78) (x := v3) (tgt := 83) (by decide) dX10_laysAll_78 c5 ?_
  refine rt_iconst (pc := 81) (n := 0) (v := (0 : Int32)) (by decide) dX10_laysAll_81 ?_
  cases hf
  exact rt_ret (pc := 82) dX10_laysAll_82 rfl
noncomputable def bX10_laysAll_60 (E : ah_E) (kr : Option Nat → Int32 → ah_H → Option (Int32 × ah_H)) (a0 : Option Nat) (a1 : Int32) (h : ah_H) : Option (Int32 × ah_H) :=
  (hp_gr h a0 11 18).bind fun v1 =>
  (hp_ldb h v1 a1).bind fun v3 =>
  if v3 = 0 then
    bX10_laysAll_75 E kr a0 a1 a0 (1 : Int32) h
  else
  bX10_laysAll_75 E kr a0 a1 a0 (0 : Int32) h
set_option maxRecDepth 20000 in
set_option maxHeartbeats 4000000 in
theorem rX10_laysAll_60 {X : ah_X} {d : Nat} {dk : Nat} {kr : Option Nat → Int32 → ah_H → Option (Int32 × ah_H)} (hkr : ∀ (d : Nat), dk ≤ d → ∀ (x0 : Option Nat) (x1 : Int32) (h : ah_H) (r : Int32) (h2 : ah_H), kr x0 x1 h = some (r, h2) → hp_rcv h x0 11 = true ∧ Rn X yX10_laysAll cX10_laysAll 3 (some .boolean) d [va_rf x0, .int x1] h (some (.int r)) h2) (hd : 0 ≤ d) (hdk : dk + 0 ≤ d) {a0 : Option Nat} {a1 : Int32} {h : ah_H} {r : Int32} {h2 : ah_H} (hf : bX10_laysAll_60 X.2.2.2 kr a0 a1 h = some (r, h2)) : Rt X yX10_laysAll cX10_laysAll 3 (d + 1) 60 [(0, va_rf a0), (1, .int a1)] [] h (some (.int r)) h2 := by
  unfold bX10_laysAll_60 at hf
  refine rt_aload_n (pc := 60) (k0 := 0) (x := a0) 0 rfl dX10_laysAll_60 ?_
  refine rt_aload_n (pc := 61) (k0 := 0) (x := a0) 0 rfl dX10_laysAll_61 ?_
  obtain ⟨v1, e2, hf⟩ := ob1 hf
  refine rt_gr (pc := 62) fd_X10_119 dX10_laysAll_62 e2 ?_
  refine rt_iload_n (pc := 65) (k0 := 1) (x := a1) 1 rfl dX10_laysAll_65 ?_
  obtain ⟨v3, e4, hf⟩ := ob1 hf
  refine rt_bald (pc := 66) dX10_laysAll_66 e4 ?_
  by_cases c5 : v3 = 0
  · rw [if_pos c5] at hf
    refine rt_if_eq_p (pc := 67) (x := v3) (tgt := 74) (by decide) dX10_laysAll_67 c5 ?_
    refine rt_iconst (pc := 74) (n := 1) (v := (1 : Int32)) (by decide) dX10_laysAll_74 ?_
    exact rX10_laysAll_75 hkr hd hdk hf
  rw [if_neg c5] at hf
  refine rt_if_eq_n (pc := 67) (x := v3) (tgt := 74) (by decide) dX10_laysAll_67 c5 ?_
  refine rt_iconst (pc := 70) (n := 0) (v := (0 : Int32)) (by decide) dX10_laysAll_70 ?_
  refine rt_goto (pc := 71) (tgt := 75) (by decide) dX10_laysAll_71 ?_
  exact rX10_laysAll_75 hkr hd hdk hf
noncomputable def bX10_laysAll_14 (E : ah_E) (kr : Option Nat → Int32 → ah_H → Option (Int32 × ah_H)) : Nat → Option Nat → Int32 → Int32 → ah_H → Option (Int32 × ah_H)
  | 0 => fun _ _ _ _ => none
  | n + 1 => fun a0 a1 a2 h =>
  (hp_gr h a0 11 21).bind fun v1 =>
  (hp_ldi h v1 a1).bind fun v3 =>
  if v3 ≤ a2 then
    bX10_laysAll_60 E kr a0 a1 h
  else
  (hp_gr h a0 11 18).bind fun v6 =>
  (hp_ldb h v6 a1).bind fun v8 =>
  if v8 = 0 then
    (hp_gr h a0 11 22).bind fun v11 =>
    (hp_ldi h v11 (((128 : Int32) * a1) + a2)).bind fun v13 =>
    ob2 (kr a0 v13 h) fun v17 w16 =>
    if v17 = 0 then
      some ((0 : Int32), w16)
    else
    bX10_laysAll_14 E kr n a0 a1 (a2 + 1) w16
  else
  bX10_laysAll_60 E kr a0 a1 h
set_option maxRecDepth 20000 in
set_option maxHeartbeats 4000000 in
theorem rX10_laysAll_14 {X : ah_X} {d : Nat} {dk : Nat} {kr : Option Nat → Int32 → ah_H → Option (Int32 × ah_H)} (hkr : ∀ (d : Nat), dk ≤ d → ∀ (x0 : Option Nat) (x1 : Int32) (h : ah_H) (r : Int32) (h2 : ah_H), kr x0 x1 h = some (r, h2) → hp_rcv h x0 11 = true ∧ Rn X yX10_laysAll cX10_laysAll 3 (some .boolean) d [va_rf x0, .int x1] h (some (.int r)) h2) (hd : 0 ≤ d) (hdk : dk + 0 ≤ d) (n : Nat) : ∀ (a0 : Option Nat) (a1 : Int32) (a2 : Int32) (h : ah_H) (r : Int32) (h2 : ah_H), bX10_laysAll_14 X.2.2.2 kr n a0 a1 a2 h = some (r, h2) → Rt X yX10_laysAll cX10_laysAll 3 (d + 1) 14 [(0, va_rf a0), (1, .int a1), (2, .int a2)] [] h (some (.int r)) h2 := by
  induction n with
  | zero => intro a0 a1 a2 h r h2 hf; cases hf
  | succ n ih =>
  intro a0 a1 a2 h r h2 hf
  unfold bX10_laysAll_14 at hf
  refine rt_iload_n (pc := 14) (k0 := 2) (x := a2) 2 rfl dX10_laysAll_14 ?_
  refine rt_aload_n (pc := 15) (k0 := 0) (x := a0) 0 rfl dX10_laysAll_15 ?_
  obtain ⟨v1, e2, hf⟩ := ob1 hf
  refine rt_gr (pc := 16) fd_X10_129 dX10_laysAll_16 e2 ?_
  refine rt_iload_n (pc := 19) (k0 := 1) (x := a1) 1 rfl dX10_laysAll_19 ?_
  obtain ⟨v3, e4, hf⟩ := ob1 hf
  refine rt_iald (pc := 20) dX10_laysAll_20 e4 ?_
  by_cases c5 : v3 ≤ a2
  · rw [if_pos c5] at hf
    refine rt_icmp_ge_p (pc := 21) (x := a2) (z := v3) (tgt := 60) (by decide) dX10_laysAll_21 c5 ?_
    exact rt_locals (rt_sub [0, 1] rfl) (rX10_laysAll_60 hkr hd hdk hf)
  rw [if_neg c5] at hf
  refine rt_icmp_ge_n (pc := 21) (x := a2) (z := v3) (tgt := 60) (by decide) dX10_laysAll_21 c5 ?_
  refine rt_aload_n (pc := 24) (k0 := 0) (x := a0) 0 rfl dX10_laysAll_24 ?_
  obtain ⟨v6, e7, hf⟩ := ob1 hf
  refine rt_gr (pc := 25) fd_X10_119 dX10_laysAll_25 e7 ?_
  refine rt_iload_n (pc := 28) (k0 := 1) (x := a1) 1 rfl dX10_laysAll_28 ?_
  obtain ⟨v8, e9, hf⟩ := ob1 hf
  refine rt_bald (pc := 29) dX10_laysAll_29 e9 ?_
  by_cases c10 : v8 = 0
  · rw [if_pos c10] at hf
    refine rt_if_ne_p (pc := 30) (x := v8) (tgt := 60) (by decide) dX10_laysAll_30 c10 ?_
    refine rt_aload_n (pc := 33) (k0 := 0) (x := a0) 0 rfl dX10_laysAll_33 ?_
    refine rt_aload_n (pc := 34) (k0 := 0) (x := a0) 0 rfl dX10_laysAll_34 ?_
    obtain ⟨v11, e12, hf⟩ := ob1 hf
    refine rt_gr (pc := 35) fd_X10_133 dX10_laysAll_35 e12 ?_
    refine rt_sipush (pc := 38) (n := 128) (v := (128 : Int32)) (by decide) dX10_laysAll_38 ?_
    refine rt_iload_n (pc := 41) (k0 := 1) (x := a1) 1 rfl dX10_laysAll_41 ?_
    refine rt_imul (pc := 42) (x := (128 : Int32)) (z := a1) dX10_laysAll_42 ?_
    refine rt_iload_n (pc := 43) (k0 := 2) (x := a2) 2 rfl dX10_laysAll_43 ?_
    refine rt_iadd (pc := 44) (x := ((128 : Int32) * a1)) (z := a2) dX10_laysAll_44 ?_
    obtain ⟨v13, e14, hf⟩ := ob1 hf
    refine rt_iald (pc := 45) dX10_laysAll_45 e14 ?_
    obtain ⟨v17, w16, e15, hf⟩ := ob2_of hf
    have g18 := hkr d (by omega) _ _ _ _ _ e15
    refine rt_callV (pc := 46) (As := [.int v13]) (st := []) me_X10_laysAll mi_X10_laysAll wl_X10_372 dX10_laysAll_46 rfl (by decide) rfl g18.1 g18.2 ?_
    by_cases c19 : v17 = 0
    · rw [if_pos c19] at hf
      refine rt_if_ne_p (pc := 49) (x := v17) (tgt := 54) (by decide) dX10_laysAll_49 c19 ?_
      refine rt_iconst (pc := 52) (n := 0) (v := (0 : Int32)) (by decide) dX10_laysAll_52 ?_
      cases hf
      exact rt_ret (pc := 53) dX10_laysAll_53 rfl
    rw [if_neg c19] at hf
    refine rt_if_ne_n (pc := 49) (x := v17) (tgt := 54) (by decide) dX10_laysAll_49 c19 ?_
    refine rt_iinc (pc := 54) (i := 2) (n := 1) (x := a2) (v := (a2 + 1)) (l2 := [(2, .int (a2 + 1)), (0, va_rf a0), (1, .int a1)]) 2 rfl rfl (by decide) (by first | rfl | (simp [rt_cat, cat_i, cat_l]; done) | (simp [rt_cat, cat_i, cat_l]; decide)) dX10_laysAll_54 ?_
    refine rt_goto (pc := 57) (tgt := 14) (by decide) dX10_laysAll_57 ?_
    exact rt_locals (rt_sub [1, 2, 0] rfl) (ih _ _ _ _ _ _ hf)
  rw [if_neg c10] at hf
  refine rt_if_ne_n (pc := 30) (x := v8) (tgt := 60) (by decide) dX10_laysAll_30 c10 ?_
  exact rt_locals (rt_sub [0, 1] rfl) (rX10_laysAll_60 hkr hd hdk hf)
noncomputable def bX10_laysAll_0 (E : ah_E) (kr : Option Nat → Int32 → ah_H → Option (Int32 × ah_H)) (a0 : Option Nat) (a1 : Int32) (h : ah_H) : Option (Int32 × ah_H) :=
  (hp_gr h a0 11 27).bind fun v1 =>
  (hp_ldi h v1 a1).bind fun v3 =>
  if v3 = (-1 : Int32) then
    bX10_laysAll_14 E kr zf a0 a1 (0 : Int32) h
  else
  some ((1 : Int32), h)
set_option maxRecDepth 20000 in
set_option maxHeartbeats 4000000 in
theorem rX10_laysAll_0 {X : ah_X} {d : Nat} {dk : Nat} {kr : Option Nat → Int32 → ah_H → Option (Int32 × ah_H)} (hkr : ∀ (d : Nat), dk ≤ d → ∀ (x0 : Option Nat) (x1 : Int32) (h : ah_H) (r : Int32) (h2 : ah_H), kr x0 x1 h = some (r, h2) → hp_rcv h x0 11 = true ∧ Rn X yX10_laysAll cX10_laysAll 3 (some .boolean) d [va_rf x0, .int x1] h (some (.int r)) h2) (hd : 0 ≤ d) (hdk : dk + 0 ≤ d) {a0 : Option Nat} {a1 : Int32} {h : ah_H} {r : Int32} {h2 : ah_H} (hf : bX10_laysAll_0 X.2.2.2 kr a0 a1 h = some (r, h2)) : Rt X yX10_laysAll cX10_laysAll 3 (d + 1) 0 [(0, va_rf a0), (1, .int a1)] [] h (some (.int r)) h2 := by
  unfold bX10_laysAll_0 at hf
  refine rt_aload_n (pc := 0) (k0 := 0) (x := a0) 0 rfl dX10_laysAll_0 ?_
  obtain ⟨v1, e2, hf⟩ := ob1 hf
  refine rt_gr (pc := 1) fd_X10_148 dX10_laysAll_1 e2 ?_
  refine rt_iload_n (pc := 4) (k0 := 1) (x := a1) 1 rfl dX10_laysAll_4 ?_
  obtain ⟨v3, e4, hf⟩ := ob1 hf
  refine rt_iald (pc := 5) dX10_laysAll_5 e4 ?_
  refine rt_iconst (pc := 6) (n := -1) (v := (-1 : Int32)) (by decide) dX10_laysAll_6 ?_
  by_cases c5 : v3 = (-1 : Int32)
  · rw [if_pos c5] at hf
    refine rt_icmp_eq_p (pc := 7) (x := v3) (z := (-1 : Int32)) (tgt := 12) (by decide) dX10_laysAll_7 c5 ?_
    refine rt_iconst (pc := 12) (n := 0) (v := (0 : Int32)) (by decide) dX10_laysAll_12 ?_
    refine rt_istore_n (pc := 13) (k0 := 2) (x := (0 : Int32)) (l2 := [(2, .int (0 : Int32)), (0, va_rf a0), (1, .int a1)]) (by decide) (by first | rfl | (simp [rt_cat, cat_i, cat_l]; done) | (simp [rt_cat, cat_i, cat_l]; decide)) dX10_laysAll_13 ?_
    exact rt_locals (rt_sub [1, 2, 0] rfl) (rX10_laysAll_14 hkr hd hdk zf _ _ _ _ _ _ hf)
  rw [if_neg c5] at hf
  refine rt_icmp_eq_n (pc := 7) (x := v3) (z := (-1 : Int32)) (tgt := 12) (by decide) dX10_laysAll_7 c5 ?_
  refine rt_iconst (pc := 10) (n := 1) (v := (1 : Int32)) (by decide) dX10_laysAll_10 ?_
  cases hf
  exact rt_ret (pc := 11) dX10_laysAll_11 rfl
noncomputable def gX10_laysAll (E : ah_E) (kr : Option Nat → Int32 → ah_H → Option (Int32 × ah_H)) (a0 : Option Nat) (a1 : Int32) (h : ah_H) : Option (Int32 × ah_H) := if hp_rcv h a0 11 = false then none else zb (bX10_laysAll_0 E kr a0 a1 h)
set_option maxRecDepth 20000 in
set_option maxHeartbeats 4000000 in
theorem tX10_laysAll {X : ah_X} {dk : Nat} {kr : Option Nat → Int32 → ah_H → Option (Int32 × ah_H)} (hkr : ∀ (d : Nat), dk ≤ d → ∀ (x0 : Option Nat) (x1 : Int32) (h : ah_H) (r : Int32) (h2 : ah_H), kr x0 x1 h = some (r, h2) → hp_rcv h x0 11 = true ∧ Rn X yX10_laysAll cX10_laysAll 3 (some .boolean) d [va_rf x0, .int x1] h (some (.int r)) h2) (d : Nat) (hdk : dk + 1 ≤ d) (hd : 1 ≤ d) {a0 : Option Nat} {a1 : Int32} {h : ah_H} {r : Int32} {h2 : ah_H} (hf : gX10_laysAll X.2.2.2 kr a0 a1 h = some (r, h2)) : hp_rcv h a0 11 = true ∧ Rn X yX10_laysAll cX10_laysAll 3 (some .boolean) d [va_rf a0, .int a1] h (some (.int r)) h2 := by
  unfold gX10_laysAll at hf
  by_cases c0 : hp_rcv h a0 11 = false
  · rw [if_pos c0] at hf; cases hf
  rw [if_neg c0] at hf
  refine ⟨(Bool.not_eq_false _).mp c0, ?_⟩
  obtain ⟨hf, hz⟩ := zb_of hf
  obtain ⟨d, rfl⟩ : ∃ k, d = k + 1 := ⟨d - 1, by omega⟩
  exact Rn.of2 me_X10_laysAll (by simp [lg_sl, rt_cat, cat_i, cat_l]) (ok_z hz) (l := [(0, va_rf a0), (1, .int a1)]) (by simp [lv_args, rt_cat, cat_i, cat_l]) (rX10_laysAll_0 hkr (by omega) (by omega) hf)
noncomputable def fX10_laysAll (E : ah_E) : Nat → Option Nat → Int32 → ah_H → Option (Int32 × ah_H)
  | 0 => fun _ _ _ => none
  | n + 1 => fun a0 a1 h => gX10_laysAll E (fX10_laysAll E n) a0 a1 h
set_option maxRecDepth 20000 in
set_option maxHeartbeats 4000000 in
theorem sX10_laysAll {X : ah_X} (n : Nat) : ∀ (d : Nat), 1 + 1 * n ≤ d → ∀ (a0 : Option Nat) (a1 : Int32) (h : ah_H) (r : Int32) (h2 : ah_H), fX10_laysAll X.2.2.2 n a0 a1 h = some (r, h2) → hp_rcv h a0 11 = true ∧ Rn X yX10_laysAll cX10_laysAll 3 (some .boolean) d [va_rf a0, .int a1] h (some (.int r)) h2 := by
  induction n with
  | zero => intro d hd a0 a1 h r h2 hf; cases hf
  | succ n ih =>
    intro d hd a0 a1 h r h2 hf
    exact tX10_laysAll (dk := 1 + 1 * n) ih d (by omega) (by omega) hf
noncomputable def bX10_writeAll_155 (E : ah_E) : Nat → Option Nat → Int32 → Int32 → Int32 → ah_H → Option (Int32 × ah_H)
  | 0 => fun _ _ _ _ _ => none
  | n + 1 => fun a0 a1 a2 a3 h =>
  (hp_gi h a0 11 71).bind fun v1 =>
  if v1 ≤ a3 then
    some ((a1 + (1 : Int32)), h)
  else
  (hp_gr h a0 11 67).bind fun v4 =>
  (hp_gr h a0 11 69).bind fun v6 =>
  (hp_ldi h v6 a3).bind fun v8 =>
  (hp_sti h v4 (((12 : Int32) * a2) + a3) v8).bind fun w10 =>
  (hp_gr w10 a0 11 68).bind fun v12 =>
  (hp_gr w10 a0 11 70).bind fun v14 =>
  (hp_ldi w10 v14 a3).bind fun v16 =>
  (hp_sti w10 v12 (((12 : Int32) * a2) + a3) v16).bind fun w18 =>
  bX10_writeAll_155 E n a0 a1 a2 (a3 + 1) w18
set_option maxRecDepth 20000 in
set_option maxHeartbeats 4000000 in
theorem rX10_writeAll_155 {X : ah_X} {d : Nat} (hd : 46 ≤ d) (n : Nat) : ∀ (a0 : Option Nat) (a1 : Int32) (a2 : Int32) (a3 : Int32) (h : ah_H) (r : Int32) (h2 : ah_H), bX10_writeAll_155 X.2.2.2 n a0 a1 a2 a3 h = some (r, h2) → Rt X yX10_writeAll cX10_writeAll 4 (d + 1) 155 [(0, va_rf a0), (1, .int a1), (2, .int a2), (3, .int a3)] [] h (some (.int r)) h2 := by
  induction n with
  | zero => intro a0 a1 a2 a3 h r h2 hf; cases hf
  | succ n ih =>
  intro a0 a1 a2 a3 h r h2 hf
  unfold bX10_writeAll_155 at hf
  refine rt_iload_n (pc := 155) (k0 := 3) (x := a3) 3 rfl dX10_writeAll_155 ?_
  refine rt_aload_n (pc := 156) (k0 := 0) (x := a0) 0 rfl dX10_writeAll_156 ?_
  obtain ⟨v1, e2, hf⟩ := ob1 hf
  refine rt_gi (pc := 157) fd_X10_363 dX10_writeAll_157 e2 ?_
  by_cases c3 : v1 ≤ a3
  · rw [if_pos c3] at hf
    refine rt_icmp_ge_p (pc := 160) (x := a3) (z := v1) (tgt := 203) (by decide) dX10_writeAll_160 c3 ?_
    refine rt_iload_n (pc := 203) (k0 := 1) (x := a1) 1 rfl dX10_writeAll_203 ?_
    refine rt_iconst (pc := 204) (n := 1) (v := (1 : Int32)) (by decide) dX10_writeAll_204 ?_
    refine rt_iadd (pc := 205) (x := a1) (z := (1 : Int32)) dX10_writeAll_205 ?_
    cases hf
    exact rt_ret (pc := 206) dX10_writeAll_206 rfl
  rw [if_neg c3] at hf
  refine rt_icmp_ge_n (pc := 160) (x := a3) (z := v1) (tgt := 203) (by decide) dX10_writeAll_160 c3 ?_
  refine rt_aload_n (pc := 163) (k0 := 0) (x := a0) 0 rfl dX10_writeAll_163 ?_
  obtain ⟨v4, e5, hf⟩ := ob1 hf
  refine rt_gr (pc := 164) fd_X10_246 dX10_writeAll_164 e5 ?_
  refine rt_bipush (pc := 167) (n := 12) (v := (12 : Int32)) (by decide) dX10_writeAll_167 ?_
  refine rt_iload_n (pc := 169) (k0 := 2) (x := a2) 2 rfl dX10_writeAll_169 ?_
  refine rt_imul (pc := 170) (x := (12 : Int32)) (z := a2) dX10_writeAll_170 ?_
  refine rt_iload_n (pc := 171) (k0 := 3) (x := a3) 3 rfl dX10_writeAll_171 ?_
  refine rt_iadd (pc := 172) (x := ((12 : Int32) * a2)) (z := a3) dX10_writeAll_172 ?_
  refine rt_aload_n (pc := 173) (k0 := 0) (x := a0) 0 rfl dX10_writeAll_173 ?_
  obtain ⟨v6, e7, hf⟩ := ob1 hf
  refine rt_gr (pc := 174) fd_X10_252 dX10_writeAll_174 e7 ?_
  refine rt_iload_n (pc := 177) (k0 := 3) (x := a3) 3 rfl dX10_writeAll_177 ?_
  obtain ⟨v8, e9, hf⟩ := ob1 hf
  refine rt_iald (pc := 178) dX10_writeAll_178 e9 ?_
  obtain ⟨w10, e11, hf⟩ := ob1 hf
  refine rt_iast (pc := 179) dX10_writeAll_179 e11 ?_
  refine rt_aload_n (pc := 180) (k0 := 0) (x := a0) 0 rfl dX10_writeAll_180 ?_
  obtain ⟨v12, e13, hf⟩ := ob1 hf
  refine rt_gr (pc := 181) fd_X10_249 dX10_writeAll_181 e13 ?_
  refine rt_bipush (pc := 184) (n := 12) (v := (12 : Int32)) (by decide) dX10_writeAll_184 ?_
  refine rt_iload_n (pc := 186) (k0 := 2) (x := a2) 2 rfl dX10_writeAll_186 ?_
  refine rt_imul (pc := 187) (x := (12 : Int32)) (z := a2) dX10_writeAll_187 ?_
  refine rt_iload_n (pc := 188) (k0 := 3) (x := a3) 3 rfl dX10_writeAll_188 ?_
  refine rt_iadd (pc := 189) (x := ((12 : Int32) * a2)) (z := a3) dX10_writeAll_189 ?_
  refine rt_aload_n (pc := 190) (k0 := 0) (x := a0) 0 rfl dX10_writeAll_190 ?_
  obtain ⟨v14, e15, hf⟩ := ob1 hf
  refine rt_gr (pc := 191) fd_X10_255 dX10_writeAll_191 e15 ?_
  refine rt_iload_n (pc := 194) (k0 := 3) (x := a3) 3 rfl dX10_writeAll_194 ?_
  obtain ⟨v16, e17, hf⟩ := ob1 hf
  refine rt_iald (pc := 195) dX10_writeAll_195 e17 ?_
  obtain ⟨w18, e19, hf⟩ := ob1 hf
  refine rt_iast (pc := 196) dX10_writeAll_196 e19 ?_
  refine rt_iinc (pc := 197) (i := 3) (n := 1) (x := a3) (v := (a3 + 1)) (l2 := [(3, .int (a3 + 1)), (0, va_rf a0), (1, .int a1), (2, .int a2)]) 3 rfl rfl (by decide) (by first | rfl | (simp [rt_cat, cat_i, cat_l]; done) | (simp [rt_cat, cat_i, cat_l]; decide)) dX10_writeAll_197 ?_
  refine rt_goto (pc := 200) (tgt := 155) (by decide) dX10_writeAll_200 ?_
  exact rt_locals (rt_sub [1, 2, 3, 0] rfl) (ih _ _ _ _ _ _ _ hf)
noncomputable def bX10_writeAll_61 (E : ah_E) (a0 : Option Nat) (a1 : Int32) (h : ah_H) : Option (Int32 × ah_H) :=
  (hp_gi h a0 11 73).bind fun v1 =>
  (hp_pv h a0 11 73 (.int (v1 + (1 : Int32)))).bind fun w3 =>
  (hp_gi w3 a0 11 73).bind fun v5 =>
  ob2 (fX10_falls E a0 (2 : Int32) w3) fun v10 w9 =>
  if v10 = 0 then
    (hp_gr w9 a0 11 62).bind fun v13 =>
    (hp_gi w9 a0 11 73).bind fun v15 =>
    (hp_sti w9 v13 (v5 - v5 / (2 : Int32) * (2 : Int32)) v15).bind fun w17 =>
    (hp_gr w17 a0 11 63).bind fun v19 =>
    (hp_gr w17 a0 11 27).bind fun v21 =>
    (hp_gi w17 a0 11 30).bind fun v23 =>
    (hp_ldi w17 v21 v23).bind fun v25 =>
    (hp_sti w17 v19 (v5 - v5 / (2 : Int32) * (2 : Int32)) v25).bind fun w27 =>
    (hp_gr w27 a0 11 64).bind fun v29 =>
    (hp_gi w27 a0 11 15).bind fun v31 =>
    (hp_sti w27 v29 (v5 - v5 / (2 : Int32) * (2 : Int32)) v31).bind fun w33 =>
    (hp_gr w33 a0 11 66).bind fun v35 =>
    (hp_gi w33 a0 11 72).bind fun v37 =>
    (hp_sti w33 v35 (v5 - v5 / (2 : Int32) * (2 : Int32)) (v37 - (1 : Int32))).bind fun w39 =>
    (hp_gr w39 a0 11 65).bind fun v41 =>
    (hp_gi w39 a0 11 71).bind fun v43 =>
    (hp_sti w39 v41 (v5 - v5 / (2 : Int32) * (2 : Int32)) v43).bind fun w45 =>
    bX10_writeAll_155 E zf a0 a1 (v5 - v5 / (2 : Int32) * (2 : Int32)) (0 : Int32) w45
  else
  (hp_gr w9 a0 11 62).bind fun v47 =>
  (hp_sti w9 v47 (v5 - v5 / (2 : Int32) * (2 : Int32)) (0 : Int32)).bind fun w49 =>
  some ((-5 : Int32), w49)
set_option maxRecDepth 20000 in
set_option maxHeartbeats 4000000 in
theorem rX10_writeAll_61 {X : ah_X} {d : Nat} (hd : 46 ≤ d) {a0 : Option Nat} {a1 : Int32} {h : ah_H} {r : Int32} {h2 : ah_H} (hf : bX10_writeAll_61 X.2.2.2 a0 a1 h = some (r, h2)) : Rt X yX10_writeAll cX10_writeAll 4 (d + 1) 61 [(0, va_rf a0), (1, .int a1)] [] h (some (.int r)) h2 := by
  unfold bX10_writeAll_61 at hf
  refine rt_aload_n (pc := 61) (k0 := 0) (x := a0) 0 rfl dX10_writeAll_61 ?_
  refine rt_dup (pc := 62) (rt_cat _) dX10_writeAll_62 ?_
  obtain ⟨v1, e2, hf⟩ := ob1 hf
  refine rt_gi (pc := 63) fd_X10_388 dX10_writeAll_63 e2 ?_
  refine rt_iconst (pc := 66) (n := 1) (v := (1 : Int32)) (by decide) dX10_writeAll_66 ?_
  refine rt_iadd (pc := 67) (x := v1) (z := (1 : Int32)) dX10_writeAll_67 ?_
  obtain ⟨w3, e4, hf⟩ := ob1 hf
  refine rt_putf (pc := 68) (x := a0) fw_X10_388 (Or.inl rfl) (pf_i _).1 (pf_i _).2 dX10_writeAll_68 e4 ?_
  refine rt_aload_n (pc := 71) (k0 := 0) (x := a0) 0 rfl dX10_writeAll_71 ?_
  obtain ⟨v5, e6, hf⟩ := ob1 hf
  refine rt_gi (pc := 72) fd_X10_388 dX10_writeAll_72 e6 ?_
  refine rt_iconst (pc := 75) (n := 2) (v := (2 : Int32)) (by decide) dX10_writeAll_75 ?_
  refine rt_irem (pc := 76) (x := v5) (z := (2 : Int32)) (by decide) dX10_writeAll_76 ?_
  refine rt_istore_n (pc := 77) (k0 := 2) (x := (v5 - v5 / (2 : Int32) * (2 : Int32))) (l2 := [(2, .int (v5 - v5 / (2 : Int32) * (2 : Int32))), (0, va_rf a0), (1, .int a1)]) (by decide) (by first | rfl | (simp [rt_cat, cat_i, cat_l]; done) | (simp [rt_cat, cat_i, cat_l]; decide)) dX10_writeAll_77 ?_
  refine rt_aload_n (pc := 78) (k0 := 0) (x := a0) 1 rfl dX10_writeAll_78 ?_
  refine rt_iconst (pc := 79) (n := 2) (v := (2 : Int32)) (by decide) dX10_writeAll_79 ?_
  obtain ⟨v10, w9, e8, hf⟩ := ob2_of hf
  have g11 := sX10_falls d (by omega) e8
  refine rt_callV (pc := 80) (As := [.int (2 : Int32)]) (st := []) me_X10_falls mi_X10_falls wl_X10_375 dX10_writeAll_80 rfl (by decide) rfl g11.1 g11.2 ?_
  by_cases c12 : v10 = 0
  · rw [if_pos c12] at hf
    refine rt_if_eq_p (pc := 83) (x := v10) (tgt := 96) (by decide) dX10_writeAll_83 c12 ?_
    refine rt_aload_n (pc := 96) (k0 := 0) (x := a0) 1 rfl dX10_writeAll_96 ?_
    obtain ⟨v13, e14, hf⟩ := ob1 hf
    refine rt_gr (pc := 97) fd_X10_231 dX10_writeAll_97 e14 ?_
    refine rt_iload_n (pc := 100) (k0 := 2) (x := (v5 - v5 / (2 : Int32) * (2 : Int32))) 0 rfl dX10_writeAll_100 ?_
    refine rt_aload_n (pc := 101) (k0 := 0) (x := a0) 1 rfl dX10_writeAll_101 ?_
    obtain ⟨v15, e16, hf⟩ := ob1 hf
    refine rt_gi (pc := 102) fd_X10_388 dX10_writeAll_102 e16 ?_
    obtain ⟨w17, e18, hf⟩ := ob1 hf
    refine rt_iast (pc := 105) dX10_writeAll_105 e18 ?_
    refine rt_aload_n (pc := 106) (k0 := 0) (x := a0) 1 rfl dX10_writeAll_106 ?_
    obtain ⟨v19, e20, hf⟩ := ob1 hf
    refine rt_gr (pc := 107) fd_X10_234 dX10_writeAll_107 e20 ?_
    refine rt_iload_n (pc := 110) (k0 := 2) (x := (v5 - v5 / (2 : Int32) * (2 : Int32))) 0 rfl dX10_writeAll_110 ?_
    refine rt_aload_n (pc := 111) (k0 := 0) (x := a0) 1 rfl dX10_writeAll_111 ?_
    obtain ⟨v21, e22, hf⟩ := ob1 hf
    refine rt_gr (pc := 112) fd_X10_148 dX10_writeAll_112 e22 ?_
    refine rt_aload_n (pc := 115) (k0 := 0) (x := a0) 1 rfl dX10_writeAll_115 ?_
    obtain ⟨v23, e24, hf⟩ := ob1 hf
    refine rt_gi (pc := 116) fd_X10_277 dX10_writeAll_116 e24 ?_
    obtain ⟨v25, e26, hf⟩ := ob1 hf
    refine rt_iald (pc := 119) dX10_writeAll_119 e26 ?_
    obtain ⟨w27, e28, hf⟩ := ob1 hf
    refine rt_iast (pc := 120) dX10_writeAll_120 e28 ?_
    refine rt_aload_n (pc := 121) (k0 := 0) (x := a0) 1 rfl dX10_writeAll_121 ?_
    obtain ⟨v29, e30, hf⟩ := ob1 hf
    refine rt_gr (pc := 122) fd_X10_237 dX10_writeAll_122 e30 ?_
    refine rt_iload_n (pc := 125) (k0 := 2) (x := (v5 - v5 / (2 : Int32) * (2 : Int32))) 0 rfl dX10_writeAll_125 ?_
    refine rt_aload_n (pc := 126) (k0 := 0) (x := a0) 1 rfl dX10_writeAll_126 ?_
    obtain ⟨v31, e32, hf⟩ := ob1 hf
    refine rt_gi (pc := 127) fd_X10_63 dX10_writeAll_127 e32 ?_
    obtain ⟨w33, e34, hf⟩ := ob1 hf
    refine rt_iast (pc := 130) dX10_writeAll_130 e34 ?_
    refine rt_aload_n (pc := 131) (k0 := 0) (x := a0) 1 rfl dX10_writeAll_131 ?_
    obtain ⟨v35, e36, hf⟩ := ob1 hf
    refine rt_gr (pc := 132) fd_X10_243 dX10_writeAll_132 e36 ?_
    refine rt_iload_n (pc := 135) (k0 := 2) (x := (v5 - v5 / (2 : Int32) * (2 : Int32))) 0 rfl dX10_writeAll_135 ?_
    refine rt_aload_n (pc := 136) (k0 := 0) (x := a0) 1 rfl dX10_writeAll_136 ?_
    obtain ⟨v37, e38, hf⟩ := ob1 hf
    refine rt_gi (pc := 137) fd_X10_258 dX10_writeAll_137 e38 ?_
    refine rt_iconst (pc := 140) (n := 1) (v := (1 : Int32)) (by decide) dX10_writeAll_140 ?_
    refine rt_isub (pc := 141) (x := v37) (z := (1 : Int32)) dX10_writeAll_141 ?_
    obtain ⟨w39, e40, hf⟩ := ob1 hf
    refine rt_iast (pc := 142) dX10_writeAll_142 e40 ?_
    refine rt_aload_n (pc := 143) (k0 := 0) (x := a0) 1 rfl dX10_writeAll_143 ?_
    obtain ⟨v41, e42, hf⟩ := ob1 hf
    refine rt_gr (pc := 144) fd_X10_240 dX10_writeAll_144 e42 ?_
    refine rt_iload_n (pc := 147) (k0 := 2) (x := (v5 - v5 / (2 : Int32) * (2 : Int32))) 0 rfl dX10_writeAll_147 ?_
    refine rt_aload_n (pc := 148) (k0 := 0) (x := a0) 1 rfl dX10_writeAll_148 ?_
    obtain ⟨v43, e44, hf⟩ := ob1 hf
    refine rt_gi (pc := 149) fd_X10_363 dX10_writeAll_149 e44 ?_
    obtain ⟨w45, e46, hf⟩ := ob1 hf
    refine rt_iast (pc := 152) dX10_writeAll_152 e46 ?_
    refine rt_iconst (pc := 153) (n := 0) (v := (0 : Int32)) (by decide) dX10_writeAll_153 ?_
    refine rt_istore_n (pc := 154) (k0 := 3) (x := (0 : Int32)) (l2 := [(3, .int (0 : Int32)), (2, .int (v5 - v5 / (2 : Int32) * (2 : Int32))), (0, va_rf a0), (1, .int a1)]) (by decide) (by first | rfl | (simp [rt_cat, cat_i, cat_l]; done) | (simp [rt_cat, cat_i, cat_l]; decide)) dX10_writeAll_154 ?_
    exact rt_locals (rt_sub [2, 3, 1, 0] rfl) (rX10_writeAll_155 hd zf _ _ _ _ _ _ _ hf)
  rw [if_neg c12] at hf
  refine rt_if_eq_n (pc := 83) (x := v10) (tgt := 96) (by decide) dX10_writeAll_83 c12 ?_
  refine rt_aload_n (pc := 86) (k0 := 0) (x := a0) 1 rfl dX10_writeAll_86 ?_
  obtain ⟨v47, e48, hf⟩ := ob1 hf
  refine rt_gr (pc := 87) fd_X10_231 dX10_writeAll_87 e48 ?_
  refine rt_iload_n (pc := 90) (k0 := 2) (x := (v5 - v5 / (2 : Int32) * (2 : Int32))) 0 rfl dX10_writeAll_90 ?_
  refine rt_iconst (pc := 91) (n := 0) (v := (0 : Int32)) (by decide) dX10_writeAll_91 ?_
  obtain ⟨w49, e50, hf⟩ := ob1 hf
  refine rt_iast (pc := 92) dX10_writeAll_92 e50 ?_
  refine rt_bipush (pc := 93) (n := -5) (v := (-5 : Int32)) (by decide) dX10_writeAll_93 ?_
  cases hf
  exact rt_ret (pc := 95) dX10_writeAll_95 rfl
noncomputable def bX10_writeAll_0 (E : ah_E) (a0 : Option Nat) (h : ah_H) : Option (Int32 × ah_H) :=
  ob2 (fX10_changedPages E a0 h) fun v3 w2 =>
  (hp_gi w2 a0 11 30).bind fun v5 =>
  ob2 (fX10_laysAll E zd a0 v5 w2) fun v9 w8 =>
  if v9 = 0 then
    some ((-5 : Int32), w8)
  else
  (hp_gi w8 a0 11 71).bind fun v12 =>
  if v12 ≤ 0 then
    bX10_writeAll_61 E a0 v3 w8
  else
  (hp_gr w8 a0 11 70).bind fun v15 =>
  (hp_gi w8 a0 11 71).bind fun v17 =>
  (hp_ldi w8 v15 (v17 - (1 : Int32))).bind fun v19 =>
  if v19 = (-1 : Int32) then
    (hp_gr w8 a0 11 70).bind fun v22 =>
    (hp_gi w8 a0 11 71).bind fun v24 =>
    (hp_gr w8 a0 11 27).bind fun v26 =>
    (hp_gi w8 a0 11 30).bind fun v28 =>
    (hp_ldi w8 v26 v28).bind fun v30 =>
    (hp_sti w8 v22 (v24 - (1 : Int32)) v30).bind fun w32 =>
    bX10_writeAll_61 E a0 v3 w32
  else
  bX10_writeAll_61 E a0 v3 w8
set_option maxRecDepth 20000 in
set_option maxHeartbeats 4000000 in
theorem rX10_writeAll_0 {X : ah_X} {d : Nat} (hd : 46 ≤ d) {a0 : Option Nat} {h : ah_H} {r : Int32} {h2 : ah_H} (hf : bX10_writeAll_0 X.2.2.2 a0 h = some (r, h2)) : Rt X yX10_writeAll cX10_writeAll 4 (d + 1) 0 [(0, va_rf a0)] [] h (some (.int r)) h2 := by
  unfold bX10_writeAll_0 at hf
  refine rt_aload_n (pc := 0) (k0 := 0) (x := a0) 0 rfl dX10_writeAll_0 ?_
  obtain ⟨v3, w2, e1, hf⟩ := ob2_of hf
  have g4 := sX10_changedPages d (by omega) e1
  refine rt_callV (pc := 1) (As := []) (st := []) me_X10_changedPages mi_X10_changedPages wl_X10_385 dX10_writeAll_1 rfl (by decide) rfl g4.1 g4.2 ?_
  refine rt_istore_n (pc := 4) (k0 := 1) (x := v3) (l2 := [(1, .int v3), (0, va_rf a0)]) (by decide) (by first | rfl | (simp [rt_cat, cat_i, cat_l]; done) | (simp [rt_cat, cat_i, cat_l]; decide)) dX10_writeAll_4 ?_
  refine rt_aload_n (pc := 5) (k0 := 0) (x := a0) 1 rfl dX10_writeAll_5 ?_
  refine rt_aload_n (pc := 6) (k0 := 0) (x := a0) 1 rfl dX10_writeAll_6 ?_
  obtain ⟨v5, e6, hf⟩ := ob1 hf
  refine rt_gi (pc := 7) fd_X10_277 dX10_writeAll_7 e6 ?_
  obtain ⟨v9, w8, e7, hf⟩ := ob2_of hf
  have g10 := sX10_laysAll zd d (by unfold zd; omega) _ _ _ _ _ e7
  refine rt_callV (pc := 10) (As := [.int v5]) (st := []) me_X10_laysAll mi_X10_laysAll wl_X10_372 dX10_writeAll_10 rfl (by decide) rfl g10.1 g10.2 ?_
  by_cases c11 : v9 = 0
  · rw [if_pos c11] at hf
    refine rt_if_ne_p (pc := 13) (x := v9) (tgt := 19) (by decide) dX10_writeAll_13 c11 ?_
    refine rt_bipush (pc := 16) (n := -5) (v := (-5 : Int32)) (by decide) dX10_writeAll_16 ?_
    cases hf
    exact rt_ret (pc := 18) dX10_writeAll_18 rfl
  rw [if_neg c11] at hf
  refine rt_if_ne_n (pc := 13) (x := v9) (tgt := 19) (by decide) dX10_writeAll_13 c11 ?_
  refine rt_aload_n (pc := 19) (k0 := 0) (x := a0) 1 rfl dX10_writeAll_19 ?_
  obtain ⟨v12, e13, hf⟩ := ob1 hf
  refine rt_gi (pc := 20) fd_X10_363 dX10_writeAll_20 e13 ?_
  by_cases c14 : v12 ≤ 0
  · rw [if_pos c14] at hf
    refine rt_if_le_p (pc := 23) (x := v12) (tgt := 61) (by decide) dX10_writeAll_23 c14 ?_
    exact rt_locals (rt_sub [1, 0] rfl) (rX10_writeAll_61 hd hf)
  rw [if_neg c14] at hf
  refine rt_if_le_n (pc := 23) (x := v12) (tgt := 61) (by decide) dX10_writeAll_23 c14 ?_
  refine rt_aload_n (pc := 26) (k0 := 0) (x := a0) 1 rfl dX10_writeAll_26 ?_
  obtain ⟨v15, e16, hf⟩ := ob1 hf
  refine rt_gr (pc := 27) fd_X10_255 dX10_writeAll_27 e16 ?_
  refine rt_aload_n (pc := 30) (k0 := 0) (x := a0) 1 rfl dX10_writeAll_30 ?_
  obtain ⟨v17, e18, hf⟩ := ob1 hf
  refine rt_gi (pc := 31) fd_X10_363 dX10_writeAll_31 e18 ?_
  refine rt_iconst (pc := 34) (n := 1) (v := (1 : Int32)) (by decide) dX10_writeAll_34 ?_
  refine rt_isub (pc := 35) (x := v17) (z := (1 : Int32)) dX10_writeAll_35 ?_
  obtain ⟨v19, e20, hf⟩ := ob1 hf
  refine rt_iald (pc := 36) dX10_writeAll_36 e20 ?_
  refine rt_iconst (pc := 37) (n := -1) (v := (-1 : Int32)) (by decide) dX10_writeAll_37 ?_
  by_cases c21 : v19 = (-1 : Int32)
  · rw [if_pos c21] at hf
    refine rt_icmp_ne_p (pc := 38) (x := v19) (z := (-1 : Int32)) (tgt := 61) (by decide) dX10_writeAll_38 c21 ?_
    refine rt_aload_n (pc := 41) (k0 := 0) (x := a0) 1 rfl dX10_writeAll_41 ?_
    obtain ⟨v22, e23, hf⟩ := ob1 hf
    refine rt_gr (pc := 42) fd_X10_255 dX10_writeAll_42 e23 ?_
    refine rt_aload_n (pc := 45) (k0 := 0) (x := a0) 1 rfl dX10_writeAll_45 ?_
    obtain ⟨v24, e25, hf⟩ := ob1 hf
    refine rt_gi (pc := 46) fd_X10_363 dX10_writeAll_46 e25 ?_
    refine rt_iconst (pc := 49) (n := 1) (v := (1 : Int32)) (by decide) dX10_writeAll_49 ?_
    refine rt_isub (pc := 50) (x := v24) (z := (1 : Int32)) dX10_writeAll_50 ?_
    refine rt_aload_n (pc := 51) (k0 := 0) (x := a0) 1 rfl dX10_writeAll_51 ?_
    obtain ⟨v26, e27, hf⟩ := ob1 hf
    refine rt_gr (pc := 52) fd_X10_148 dX10_writeAll_52 e27 ?_
    refine rt_aload_n (pc := 55) (k0 := 0) (x := a0) 1 rfl dX10_writeAll_55 ?_
    obtain ⟨v28, e29, hf⟩ := ob1 hf
    refine rt_gi (pc := 56) fd_X10_277 dX10_writeAll_56 e29 ?_
    obtain ⟨v30, e31, hf⟩ := ob1 hf
    refine rt_iald (pc := 59) dX10_writeAll_59 e31 ?_
    obtain ⟨w32, e33, hf⟩ := ob1 hf
    refine rt_iast (pc := 60) dX10_writeAll_60 e33 ?_
    exact rt_locals (rt_sub [1, 0] rfl) (rX10_writeAll_61 hd hf)
  rw [if_neg c21] at hf
  refine rt_icmp_ne_n (pc := 38) (x := v19) (z := (-1 : Int32)) (tgt := 61) (by decide) dX10_writeAll_38 c21 ?_
  exact rt_locals (rt_sub [1, 0] rfl) (rX10_writeAll_61 hd hf)
noncomputable def fX10_writeAll (E : ah_E) (a0 : Option Nat) (h : ah_H) : Option (Int32 × ah_H) := if hp_rcv h a0 11 = false then none else bX10_writeAll_0 E a0 h
set_option maxRecDepth 20000 in
set_option maxHeartbeats 4000000 in
theorem sX10_writeAll {X : ah_X} (d : Nat) (hd : 47 ≤ d) {a0 : Option Nat} {h : ah_H} {r : Int32} {h2 : ah_H} (hf : fX10_writeAll X.2.2.2 a0 h = some (r, h2)) : hp_rcv h a0 11 = true ∧ Rn X yX10_writeAll cX10_writeAll 4 (some .int) d [va_rf a0] h (some (.int r)) h2 := by
  unfold fX10_writeAll at hf
  by_cases c0 : hp_rcv h a0 11 = false
  · rw [if_pos c0] at hf; cases hf
  rw [if_neg c0] at hf
  refine ⟨(Bool.not_eq_false _).mp c0, ?_⟩
  obtain ⟨d, rfl⟩ : ∃ k, d = k + 1 := ⟨d - 1, by omega⟩
  exact Rn.of2 me_X10_writeAll (by simp [lg_sl, rt_cat, cat_i, cat_l]) (ok_i _) (l := [(0, va_rf a0)]) (by simp [lv_args, rt_cat, cat_i, cat_l]) (rX10_writeAll_0 (by omega) hf)
noncomputable def bX10_picture_32 (E : ah_E) (h : ah_H) : Option (Int32 × ah_H) :=
  some ((-3 : Int32), h)
set_option maxRecDepth 20000 in
set_option maxHeartbeats 4000000 in
theorem rX10_picture_32 {X : ah_X} {d : Nat} (hd : 50 ≤ d)  {h : ah_H} {r : Int32} {h2 : ah_H} (hf : bX10_picture_32 X.2.2.2  h = some (r, h2)) : Rt X yX10_picture cX10_picture 3 (d + 1) 32 [] [] h (some (.int r)) h2 := by
  unfold bX10_picture_32 at hf
  refine rt_bipush (pc := 32) (n := -3) (v := (-3 : Int32)) (by decide) dX10_picture_32 ?_
  cases hf
  exact rt_ret (pc := 34) dX10_picture_34 rfl
noncomputable def bX10_picture_100 (E : ah_E) (s0 : Int32) (h : ah_H) : Option (Int32 × ah_H) :=
  some (s0, h)
set_option maxRecDepth 20000 in
set_option maxHeartbeats 4000000 in
theorem rX10_picture_100 {X : ah_X} {d : Nat} (hd : 50 ≤ d) {s0 : Int32} {h : ah_H} {r : Int32} {h2 : ah_H} (hf : bX10_picture_100 X.2.2.2 s0 h = some (r, h2)) : Rt X yX10_picture cX10_picture 3 (d + 1) 100 [] [.int s0] h (some (.int r)) h2 := by
  unfold bX10_picture_100 at hf
  cases hf
  exact rt_ret (pc := 100) dX10_picture_100 rfl
noncomputable def bX10_picture_0 (E : ah_E) (a0 : Option Nat) (h : ah_H) : Option (Int32 × ah_H) :=
  (hp_gi h a0 11 51).bind fun v1 =>
  if v1 = 0 then
    ob2 (fX10_freePlaces E a0 h) fun v6 w5 =>
    (hp_gi w5 a0 11 71).bind fun v8 =>
    if v8 = (12 : Int32) then
      bX10_picture_32 E  w5
    else
    ob2 (fX10_changedPages E a0 w5) fun v13 w12 =>
    if v13 ≤ v6 then
      (hp_gr w12 a0 11 69).bind fun v16 =>
      (hp_gi w12 a0 11 71).bind fun v18 =>
      (hp_gi w12 a0 11 72).bind fun v20 =>
      (hp_sti w12 v16 v18 v20).bind fun w22 =>
      (hp_gr w22 a0 11 70).bind fun v24 =>
      (hp_gi w22 a0 11 71).bind fun v26 =>
      (hp_sti w22 v24 v26 (-1 : Int32)).bind fun w28 =>
      (hp_gi w28 a0 11 71).bind fun v30 =>
      (hp_pv w28 a0 11 71 (.int (v30 + (1 : Int32)))).bind fun w32 =>
      (hp_gi w32 a0 11 72).bind fun v34 =>
      (hp_pv w32 a0 11 72 (.int (v34 + (1 : Int32)))).bind fun w36 =>
      ob2 (fX10_writeAll E a0 w36) fun v40 w39 =>
      if v40 = (-5 : Int32) then
        bX10_picture_100 E (-5 : Int32) w39
      else
      (hp_gi w39 a0 11 72).bind fun v43 =>
      bX10_picture_100 E (v43 - (1 : Int32)) w39
    else
    bX10_picture_32 E  w12
  else
  some ((-4 : Int32), h)
set_option maxRecDepth 20000 in
set_option maxHeartbeats 4000000 in
theorem rX10_picture_0 {X : ah_X} {d : Nat} (hd : 50 ≤ d) {a0 : Option Nat} {h : ah_H} {r : Int32} {h2 : ah_H} (hf : bX10_picture_0 X.2.2.2 a0 h = some (r, h2)) : Rt X yX10_picture cX10_picture 3 (d + 1) 0 [(0, va_rf a0)] [] h (some (.int r)) h2 := by
  unfold bX10_picture_0 at hf
  refine rt_aload_n (pc := 0) (k0 := 0) (x := a0) 0 rfl dX10_picture_0 ?_
  obtain ⟨v1, e2, hf⟩ := ob1 hf
  refine rt_gi (pc := 1) fd_X10_90 dX10_picture_1 e2 ?_
  by_cases c3 : v1 = 0
  · rw [if_pos c3] at hf
    refine rt_if_eq_p (pc := 4) (x := v1) (tgt := 10) (by decide) dX10_picture_4 c3 ?_
    refine rt_aload_n (pc := 10) (k0 := 0) (x := a0) 0 rfl dX10_picture_10 ?_
    obtain ⟨v6, w5, e4, hf⟩ := ob2_of hf
    have g7 := sX10_freePlaces d (by omega) e4
    refine rt_callV (pc := 11) (As := []) (st := []) me_X10_freePlaces mi_X10_freePlaces wl_X10_391 dX10_picture_11 rfl (by decide) rfl g7.1 g7.2 ?_
    refine rt_istore_n (pc := 14) (k0 := 1) (x := v6) (l2 := [(1, .int v6), (0, va_rf a0)]) (by decide) (by first | rfl | (simp [rt_cat, cat_i, cat_l]; done) | (simp [rt_cat, cat_i, cat_l]; decide)) dX10_picture_14 ?_
    refine rt_aload_n (pc := 15) (k0 := 0) (x := a0) 1 rfl dX10_picture_15 ?_
    obtain ⟨v8, e9, hf⟩ := ob1 hf
    refine rt_gi (pc := 16) fd_X10_363 dX10_picture_16 e9 ?_
    refine rt_bipush (pc := 19) (n := 12) (v := (12 : Int32)) (by decide) dX10_picture_19 ?_
    by_cases c10 : v8 = (12 : Int32)
    · rw [if_pos c10] at hf
      refine rt_icmp_eq_p (pc := 21) (x := v8) (z := (12 : Int32)) (tgt := 32) (by decide) dX10_picture_21 c10 ?_
      exact rt_locals (rt_sub [] rfl) (rX10_picture_32 hd hf)
    rw [if_neg c10] at hf
    refine rt_icmp_eq_n (pc := 21) (x := v8) (z := (12 : Int32)) (tgt := 32) (by decide) dX10_picture_21 c10 ?_
    refine rt_iload_n (pc := 24) (k0 := 1) (x := v6) 0 rfl dX10_picture_24 ?_
    refine rt_aload_n (pc := 25) (k0 := 0) (x := a0) 1 rfl dX10_picture_25 ?_
    obtain ⟨v13, w12, e11, hf⟩ := ob2_of hf
    have g14 := sX10_changedPages d (by omega) e11
    refine rt_callV (pc := 26) (As := []) (st := [.int v6]) me_X10_changedPages mi_X10_changedPages wl_X10_385 dX10_picture_26 rfl (by simp [rt_cat, cat_i, cat_l]) rfl g14.1 g14.2 ?_
    by_cases c15 : v13 ≤ v6
    · rw [if_pos c15] at hf
      refine rt_icmp_ge_p (pc := 29) (x := v6) (z := v13) (tgt := 35) (by decide) dX10_picture_29 c15 ?_
      refine rt_aload_n (pc := 35) (k0 := 0) (x := a0) 1 rfl dX10_picture_35 ?_
      obtain ⟨v16, e17, hf⟩ := ob1 hf
      refine rt_gr (pc := 36) fd_X10_252 dX10_picture_36 e17 ?_
      refine rt_aload_n (pc := 39) (k0 := 0) (x := a0) 1 rfl dX10_picture_39 ?_
      obtain ⟨v18, e19, hf⟩ := ob1 hf
      refine rt_gi (pc := 40) fd_X10_363 dX10_picture_40 e19 ?_
      refine rt_aload_n (pc := 43) (k0 := 0) (x := a0) 1 rfl dX10_picture_43 ?_
      obtain ⟨v20, e21, hf⟩ := ob1 hf
      refine rt_gi (pc := 44) fd_X10_258 dX10_picture_44 e21 ?_
      obtain ⟨w22, e23, hf⟩ := ob1 hf
      refine rt_iast (pc := 47) dX10_picture_47 e23 ?_
      refine rt_aload_n (pc := 48) (k0 := 0) (x := a0) 1 rfl dX10_picture_48 ?_
      obtain ⟨v24, e25, hf⟩ := ob1 hf
      refine rt_gr (pc := 49) fd_X10_255 dX10_picture_49 e25 ?_
      refine rt_aload_n (pc := 52) (k0 := 0) (x := a0) 1 rfl dX10_picture_52 ?_
      obtain ⟨v26, e27, hf⟩ := ob1 hf
      refine rt_gi (pc := 53) fd_X10_363 dX10_picture_53 e27 ?_
      refine rt_iconst (pc := 56) (n := -1) (v := (-1 : Int32)) (by decide) dX10_picture_56 ?_
      obtain ⟨w28, e29, hf⟩ := ob1 hf
      refine rt_iast (pc := 57) dX10_picture_57 e29 ?_
      refine rt_aload_n (pc := 58) (k0 := 0) (x := a0) 1 rfl dX10_picture_58 ?_
      refine rt_dup (pc := 59) (rt_cat _) dX10_picture_59 ?_
      obtain ⟨v30, e31, hf⟩ := ob1 hf
      refine rt_gi (pc := 60) fd_X10_363 dX10_picture_60 e31 ?_
      refine rt_iconst (pc := 63) (n := 1) (v := (1 : Int32)) (by decide) dX10_picture_63 ?_
      refine rt_iadd (pc := 64) (x := v30) (z := (1 : Int32)) dX10_picture_64 ?_
      obtain ⟨w32, e33, hf⟩ := ob1 hf
      refine rt_putf (pc := 65) (x := a0) fw_X10_363 (Or.inl rfl) (pf_i _).1 (pf_i _).2 dX10_picture_65 e33 ?_
      refine rt_aload_n (pc := 68) (k0 := 0) (x := a0) 1 rfl dX10_picture_68 ?_
      refine rt_dup (pc := 69) (rt_cat _) dX10_picture_69 ?_
      obtain ⟨v34, e35, hf⟩ := ob1 hf
      refine rt_gi (pc := 70) fd_X10_258 dX10_picture_70 e35 ?_
      refine rt_iconst (pc := 73) (n := 1) (v := (1 : Int32)) (by decide) dX10_picture_73 ?_
      refine rt_iadd (pc := 74) (x := v34) (z := (1 : Int32)) dX10_picture_74 ?_
      obtain ⟨w36, e37, hf⟩ := ob1 hf
      refine rt_putf (pc := 75) (x := a0) fw_X10_258 (Or.inl rfl) (pf_i _).1 (pf_i _).2 dX10_picture_75 e37 ?_
      refine rt_aload_n (pc := 78) (k0 := 0) (x := a0) 1 rfl dX10_picture_78 ?_
      obtain ⟨v40, w39, e38, hf⟩ := ob2_of hf
      have g41 := sX10_writeAll d (by omega) e38
      refine rt_callV (pc := 79) (As := []) (st := []) me_X10_writeAll mi_X10_writeAll wl_X10_394 dX10_picture_79 rfl (by decide) rfl g41.1 g41.2 ?_
      refine rt_istore_n (pc := 82) (k0 := 2) (x := v40) (l2 := [(2, .int v40), (1, .int v6), (0, va_rf a0)]) (by decide) (by first | rfl | (simp [rt_cat, cat_i, cat_l]; done) | (simp [rt_cat, cat_i, cat_l]; decide)) dX10_picture_82 ?_
      refine rt_iload_n (pc := 83) (k0 := 2) (x := v40) 0 rfl dX10_picture_83 ?_
      refine rt_bipush (pc := 84) (n := -5) (v := (-5 : Int32)) (by decide) dX10_picture_84 ?_
      by_cases c42 : v40 = (-5 : Int32)
      · rw [if_pos c42] at hf
        refine rt_icmp_ne_p (pc := 86) (x := v40) (z := (-5 : Int32)) (tgt := 94) (by decide) dX10_picture_86 c42 ?_
        refine rt_bipush (pc := 89) (n := -5) (v := (-5 : Int32)) (by decide) dX10_picture_89 ?_
        refine rt_goto (pc := 91) (tgt := 100) (by decide) dX10_picture_91 ?_
        exact rt_locals (rt_sub [] rfl) (rX10_picture_100 hd hf)
      rw [if_neg c42] at hf
      refine rt_icmp_ne_n (pc := 86) (x := v40) (z := (-5 : Int32)) (tgt := 94) (by decide) dX10_picture_86 c42 ?_
      refine rt_aload_n (pc := 94) (k0 := 0) (x := a0) 2 rfl dX10_picture_94 ?_
      obtain ⟨v43, e44, hf⟩ := ob1 hf
      refine rt_gi (pc := 95) fd_X10_258 dX10_picture_95 e44 ?_
      refine rt_iconst (pc := 98) (n := 1) (v := (1 : Int32)) (by decide) dX10_picture_98 ?_
      refine rt_isub (pc := 99) (x := v43) (z := (1 : Int32)) dX10_picture_99 ?_
      exact rt_locals (rt_sub [] rfl) (rX10_picture_100 hd hf)
    rw [if_neg c15] at hf
    refine rt_icmp_ge_n (pc := 29) (x := v6) (z := v13) (tgt := 35) (by decide) dX10_picture_29 c15 ?_
    exact rt_locals (rt_sub [] rfl) (rX10_picture_32 hd hf)
  rw [if_neg c3] at hf
  refine rt_if_eq_n (pc := 4) (x := v1) (tgt := 10) (by decide) dX10_picture_4 c3 ?_
  refine rt_bipush (pc := 7) (n := -4) (v := (-4 : Int32)) (by decide) dX10_picture_7 ?_
  cases hf
  exact rt_ret (pc := 9) dX10_picture_9 rfl
noncomputable def fX10_picture (E : ah_E) (a0 : Option Nat) (h : ah_H) : Option (Int32 × ah_H) := if hp_rcv h a0 11 = false then none else bX10_picture_0 E a0 h
set_option maxRecDepth 20000 in
set_option maxHeartbeats 4000000 in
theorem sX10_picture {X : ah_X} (d : Nat) (hd : 51 ≤ d) {a0 : Option Nat} {h : ah_H} {r : Int32} {h2 : ah_H} (hf : fX10_picture X.2.2.2 a0 h = some (r, h2)) : hp_rcv h a0 11 = true ∧ Rn X yX10_picture cX10_picture 3 (some .int) d [va_rf a0] h (some (.int r)) h2 := by
  unfold fX10_picture at hf
  by_cases c0 : hp_rcv h a0 11 = false
  · rw [if_pos c0] at hf; cases hf
  rw [if_neg c0] at hf
  refine ⟨(Bool.not_eq_false _).mp c0, ?_⟩
  obtain ⟨d, rfl⟩ : ∃ k, d = k + 1 := ⟨d - 1, by omega⟩
  exact Rn.of2 me_X10_picture (by simp [lg_sl, rt_cat, cat_i, cat_l]) (ok_i _) (l := [(0, va_rf a0)]) (by simp [lv_args, rt_cat, cat_i, cat_l]) (rX10_picture_0 (by omega) hf)
noncomputable def bX10_pictured_32 (E : ah_E) (s0 : Int32) (h : ah_H) : Option (Int32 × ah_H) :=
  some (s0, h)
set_option maxRecDepth 20000 in
set_option maxHeartbeats 4000000 in
theorem rX10_pictured_32 {X : ah_X} {d : Nat} {s0 : Int32} {h : ah_H} {r : Int32} {h2 : ah_H} (hf : bX10_pictured_32 X.2.2.2 s0 h = some (r, h2)) : Rt X yX10_pictured cX10_pictured 2 d 32 [] [.int s0] h (some (.int r)) h2 := by
  unfold bX10_pictured_32 at hf
  cases hf
  exact rt_ret (pc := 32) dX10_pictured_32 rfl
noncomputable def bX10_pictured_31 (E : ah_E) (h : ah_H) : Option (Int32 × ah_H) :=
  bX10_pictured_32 E (-1 : Int32) h
set_option maxRecDepth 20000 in
set_option maxHeartbeats 4000000 in
theorem rX10_pictured_31 {X : ah_X} {d : Nat}  {h : ah_H} {r : Int32} {h2 : ah_H} (hf : bX10_pictured_31 X.2.2.2  h = some (r, h2)) : Rt X yX10_pictured cX10_pictured 2 d 31 [] [] h (some (.int r)) h2 := by
  unfold bX10_pictured_31 at hf
  refine rt_iconst (pc := 31) (n := -1) (v := (-1 : Int32)) (by decide) dX10_pictured_31 ?_
  exact rX10_pictured_32 hf
noncomputable def bX10_pictured_0 (E : ah_E) (a0 : Option Nat) (a1 : Int32) (h : ah_H) : Option (Int32 × ah_H) :=
  (hp_gi h a0 11 51).bind fun v1 =>
  if v1 = 0 then
    if a1 < 0 then
      bX10_pictured_31 E  h
    else
    (hp_gi h a0 11 71).bind fun v5 =>
    if v5 ≤ a1 then
      bX10_pictured_31 E  h
    else
    (hp_gr h a0 11 69).bind fun v8 =>
    (hp_ldi h v8 a1).bind fun v10 =>
    bX10_pictured_32 E v10 h
  else
  some ((-4 : Int32), h)
set_option maxRecDepth 20000 in
set_option maxHeartbeats 4000000 in
theorem rX10_pictured_0 {X : ah_X} {d : Nat} {a0 : Option Nat} {a1 : Int32} {h : ah_H} {r : Int32} {h2 : ah_H} (hf : bX10_pictured_0 X.2.2.2 a0 a1 h = some (r, h2)) : Rt X yX10_pictured cX10_pictured 2 d 0 [(0, va_rf a0), (1, .int a1)] [] h (some (.int r)) h2 := by
  unfold bX10_pictured_0 at hf
  refine rt_aload_n (pc := 0) (k0 := 0) (x := a0) 0 rfl dX10_pictured_0 ?_
  obtain ⟨v1, e2, hf⟩ := ob1 hf
  refine rt_gi (pc := 1) fd_X10_90 dX10_pictured_1 e2 ?_
  by_cases c3 : v1 = 0
  · rw [if_pos c3] at hf
    refine rt_if_eq_p (pc := 4) (x := v1) (tgt := 10) (by decide) dX10_pictured_4 c3 ?_
    refine rt_iload_n (pc := 10) (k0 := 1) (x := a1) 1 rfl dX10_pictured_10 ?_
    by_cases c4 : a1 < 0
    · rw [if_pos c4] at hf
      refine rt_if_lt_p (pc := 11) (x := a1) (tgt := 31) (by decide) dX10_pictured_11 c4 ?_
      exact rt_locals (rt_sub [] rfl) (rX10_pictured_31 hf)
    rw [if_neg c4] at hf
    refine rt_if_lt_n (pc := 11) (x := a1) (tgt := 31) (by decide) dX10_pictured_11 c4 ?_
    refine rt_iload_n (pc := 14) (k0 := 1) (x := a1) 1 rfl dX10_pictured_14 ?_
    refine rt_aload_n (pc := 15) (k0 := 0) (x := a0) 0 rfl dX10_pictured_15 ?_
    obtain ⟨v5, e6, hf⟩ := ob1 hf
    refine rt_gi (pc := 16) fd_X10_363 dX10_pictured_16 e6 ?_
    by_cases c7 : v5 ≤ a1
    · rw [if_pos c7] at hf
      refine rt_icmp_ge_p (pc := 19) (x := a1) (z := v5) (tgt := 31) (by decide) dX10_pictured_19 c7 ?_
      exact rt_locals (rt_sub [] rfl) (rX10_pictured_31 hf)
    rw [if_neg c7] at hf
    refine rt_icmp_ge_n (pc := 19) (x := a1) (z := v5) (tgt := 31) (by decide) dX10_pictured_19 c7 ?_
    refine rt_aload_n (pc := 22) (k0 := 0) (x := a0) 0 rfl dX10_pictured_22 ?_
    obtain ⟨v8, e9, hf⟩ := ob1 hf
    refine rt_gr (pc := 23) fd_X10_252 dX10_pictured_23 e9 ?_
    refine rt_iload_n (pc := 26) (k0 := 1) (x := a1) 1 rfl dX10_pictured_26 ?_
    obtain ⟨v10, e11, hf⟩ := ob1 hf
    refine rt_iald (pc := 27) dX10_pictured_27 e11 ?_
    refine rt_goto (pc := 28) (tgt := 32) (by decide) dX10_pictured_28 ?_
    exact rt_locals (rt_sub [] rfl) (rX10_pictured_32 hf)
  rw [if_neg c3] at hf
  refine rt_if_eq_n (pc := 4) (x := v1) (tgt := 10) (by decide) dX10_pictured_4 c3 ?_
  refine rt_bipush (pc := 7) (n := -4) (v := (-4 : Int32)) (by decide) dX10_pictured_7 ?_
  cases hf
  exact rt_ret (pc := 9) dX10_pictured_9 rfl
noncomputable def fX10_pictured (E : ah_E) (a0 : Option Nat) (a1 : Int32) (h : ah_H) : Option (Int32 × ah_H) := if hp_rcv h a0 11 = false then none else bX10_pictured_0 E a0 a1 h
set_option maxRecDepth 20000 in
set_option maxHeartbeats 4000000 in
theorem sX10_pictured {X : ah_X} (d : Nat) (hd : 0 ≤ d) {a0 : Option Nat} {a1 : Int32} {h : ah_H} {r : Int32} {h2 : ah_H} (hf : fX10_pictured X.2.2.2 a0 a1 h = some (r, h2)) : hp_rcv h a0 11 = true ∧ Rn X yX10_pictured cX10_pictured 2 (some .int) d [va_rf a0, .int a1] h (some (.int r)) h2 := by
  unfold fX10_pictured at hf
  by_cases c0 : hp_rcv h a0 11 = false
  · rw [if_pos c0] at hf; cases hf
  rw [if_neg c0] at hf
  refine ⟨(Bool.not_eq_false _).mp c0, ?_⟩
  exact Rn.of2 me_X10_pictured (by simp [lg_sl, rt_cat, cat_i, cat_l]) (ok_i _) (l := [(0, va_rf a0), (1, .int a1)]) (by simp [lv_args, rt_cat, cat_i, cat_l]) (rX10_pictured_0 hf)
noncomputable def bX10_prior_28 (E : ah_E) (a0 : Option Nat) (a3 : Int32) (h : ah_H) : Option (Int32 × ah_H) :=
  if 0 ≤ a3 then
    (hp_gr h a0 11 3).bind fun v2 =>
    (hp_ldl h v2 a3).bind fun v4 =>
    (hp_pv h a0 11 7 (.long v4)).bind fun w6 =>
    some ((1 : Int32), w6)
  else
  some ((0 : Int32), h)
set_option maxRecDepth 20000 in
set_option maxHeartbeats 4000000 in
theorem rX10_prior_28 {X : ah_X} {d : Nat} (hd : 0 ≤ d) {a0 : Option Nat} {a3 : Int32} {h : ah_H} {r : Int32} {h2 : ah_H} (hf : bX10_prior_28 X.2.2.2 a0 a3 h = some (r, h2)) : Rt X yX10_prior cX10_prior 4 (d + 1) 28 [(0, va_rf a0), (3, .int a3)] [] h (some (.int r)) h2 := by
  unfold bX10_prior_28 at hf
  refine rt_iload_n (pc := 28) (k0 := 3) (x := a3) 1 rfl dX10_prior_28 ?_
  by_cases c1 : 0 ≤ a3
  · rw [if_pos c1] at hf
    refine rt_if_ge_p (pc := 29) (x := a3) (tgt := 34) (by decide) dX10_prior_29 c1 ?_
    refine rt_aload_n (pc := 34) (k0 := 0) (x := a0) 0 rfl dX10_prior_34 ?_
    refine rt_aload_n (pc := 35) (k0 := 0) (x := a0) 0 rfl dX10_prior_35 ?_
    obtain ⟨v2, e3, hf⟩ := ob1 hf
    refine rt_gr (pc := 36) fd_X10_19 dX10_prior_36 e3 ?_
    refine rt_iload_n (pc := 39) (k0 := 3) (x := a3) 1 rfl dX10_prior_39 ?_
    obtain ⟨v4, e5, hf⟩ := ob1 hf
    refine rt_lald (pc := 40) dX10_prior_40 e5 ?_
    obtain ⟨w6, e7, hf⟩ := ob1 hf
    refine rt_putf (pc := 41) (x := a0) fw_X10_107 (Or.inl rfl) (pf_l _).1 (pf_l _).2 dX10_prior_41 e7 ?_
    refine rt_iconst (pc := 44) (n := 1) (v := (1 : Int32)) (by decide) dX10_prior_44 ?_
    cases hf
    exact rt_ret (pc := 45) dX10_prior_45 rfl
  rw [if_neg c1] at hf
  refine rt_if_ge_n (pc := 29) (x := a3) (tgt := 34) (by decide) dX10_prior_29 c1 ?_
  refine rt_iconst (pc := 32) (n := 0) (v := (0 : Int32)) (by decide) dX10_prior_32 ?_
  cases hf
  exact rt_ret (pc := 33) dX10_prior_33 rfl
noncomputable def bX10_prior_0 (E : ah_E) (a0 : Option Nat) (a1 : Int64) (h : ah_H) : Option (Int32 × ah_H) :=
  (hp_gi h a0 11 51).bind fun v1 =>
  if v1 = 0 then
    ob2 (fX10_place E a0 a1 h) fun v6 w5 =>
    ob2 (fX10_isAt E a0 v6 a1 w5) fun v10 w9 =>
    if v10 = 0 then
      bX10_prior_28 E a0 (v6 + (-1)) w9
    else
    bX10_prior_28 E a0 v6 w9
  else
  some ((-4 : Int32), h)
set_option maxRecDepth 20000 in
set_option maxHeartbeats 4000000 in
theorem rX10_prior_0 {X : ah_X} {d : Nat} (hd : 0 ≤ d) {a0 : Option Nat} {a1 : Int64} {h : ah_H} {r : Int32} {h2 : ah_H} (hf : bX10_prior_0 X.2.2.2 a0 a1 h = some (r, h2)) : Rt X yX10_prior cX10_prior 4 (d + 1) 0 [(0, va_rf a0), (1, .long a1)] [] h (some (.int r)) h2 := by
  unfold bX10_prior_0 at hf
  refine rt_aload_n (pc := 0) (k0 := 0) (x := a0) 0 rfl dX10_prior_0 ?_
  obtain ⟨v1, e2, hf⟩ := ob1 hf
  refine rt_gi (pc := 1) fd_X10_90 dX10_prior_1 e2 ?_
  by_cases c3 : v1 = 0
  · rw [if_pos c3] at hf
    refine rt_if_eq_p (pc := 4) (x := v1) (tgt := 10) (by decide) dX10_prior_4 c3 ?_
    refine rt_aload_n (pc := 10) (k0 := 0) (x := a0) 0 rfl dX10_prior_10 ?_
    refine rt_lload_n (pc := 11) (k0 := 1) (x := a1) 1 rfl dX10_prior_11 ?_
    obtain ⟨v6, w5, e4, hf⟩ := ob2_of hf
    have g7 := sX10_place d (by omega) e4
    refine rt_callV (pc := 12) (As := [.long a1]) (st := []) me_X10_place mi_X10_place wl_X10_72 dX10_prior_12 rfl (by decide) rfl g7.1 g7.2 ?_
    refine rt_istore_n (pc := 15) (k0 := 3) (x := v6) (l2 := [(3, .int v6), (0, va_rf a0), (1, .long a1)]) (by decide) (by first | rfl | (simp [rt_cat, cat_i, cat_l]; done) | (simp [rt_cat, cat_i, cat_l]; decide)) dX10_prior_15 ?_
    refine rt_aload_n (pc := 16) (k0 := 0) (x := a0) 1 rfl dX10_prior_16 ?_
    refine rt_iload_n (pc := 17) (k0 := 3) (x := v6) 0 rfl dX10_prior_17 ?_
    refine rt_lload_n (pc := 18) (k0 := 1) (x := a1) 2 rfl dX10_prior_18 ?_
    obtain ⟨v10, w9, e8, hf⟩ := ob2_of hf
    have g11 := sX10_isAt d (by omega) e8
    refine rt_callV (pc := 19) (As := [.int v6, .long a1]) (st := []) me_X10_isAt mi_X10_isAt wl_X10_76 dX10_prior_19 rfl (by decide) rfl g11.1 g11.2 ?_
    by_cases c12 : v10 = 0
    · rw [if_pos c12] at hf
      refine rt_if_ne_p (pc := 22) (x := v10) (tgt := 28) (by decide) dX10_prior_22 c12 ?_
      refine rt_iinc (pc := 25) (i := 3) (n := -1) (x := v6) (v := (v6 + (-1))) (l2 := [(3, .int (v6 + (-1))), (0, va_rf a0), (1, .long a1)]) 0 rfl rfl (by decide) (by first | rfl | (simp [rt_cat, cat_i, cat_l]; done) | (simp [rt_cat, cat_i, cat_l]; decide)) dX10_prior_25 ?_
      exact rt_locals (rt_sub [1, 0] rfl) (rX10_prior_28 hd hf)
    rw [if_neg c12] at hf
    refine rt_if_ne_n (pc := 22) (x := v10) (tgt := 28) (by decide) dX10_prior_22 c12 ?_
    exact rt_locals (rt_sub [1, 0] rfl) (rX10_prior_28 hd hf)
  rw [if_neg c3] at hf
  refine rt_if_eq_n (pc := 4) (x := v1) (tgt := 10) (by decide) dX10_prior_4 c3 ?_
  refine rt_bipush (pc := 7) (n := -4) (v := (-4 : Int32)) (by decide) dX10_prior_7 ?_
  cases hf
  exact rt_ret (pc := 9) dX10_prior_9 rfl
noncomputable def fX10_prior (E : ah_E) (a0 : Option Nat) (a1 : Int64) (h : ah_H) : Option (Int32 × ah_H) := if hp_rcv h a0 11 = false then none else bX10_prior_0 E a0 a1 h
set_option maxRecDepth 20000 in
set_option maxHeartbeats 4000000 in
theorem sX10_prior {X : ah_X} (d : Nat) (hd : 1 ≤ d) {a0 : Option Nat} {a1 : Int64} {h : ah_H} {r : Int32} {h2 : ah_H} (hf : fX10_prior X.2.2.2 a0 a1 h = some (r, h2)) : hp_rcv h a0 11 = true ∧ Rn X yX10_prior cX10_prior 4 (some .int) d [va_rf a0, .long a1] h (some (.int r)) h2 := by
  unfold fX10_prior at hf
  by_cases c0 : hp_rcv h a0 11 = false
  · rw [if_pos c0] at hf; cases hf
  rw [if_neg c0] at hf
  refine ⟨(Bool.not_eq_false _).mp c0, ?_⟩
  obtain ⟨d, rfl⟩ : ∃ k, d = k + 1 := ⟨d - 1, by omega⟩
  exact Rn.of2 me_X10_prior (by simp [lg_sl, rt_cat, cat_i, cat_l]) (ok_i _) (l := [(0, va_rf a0), (1, .long a1)]) (by simp [lv_args, rt_cat, cat_i, cat_l]) (rX10_prior_0 (by omega) hf)
noncomputable def bX10_put_40 (E : ah_E) (a0 : Option Nat) (a1 : Int64) (s0 : Int32) (h : ah_H) : Option (Int32 × ah_H) :=
  ob2 (fX10_write E a0 (1 : Int32) a1 (0 : Int32) h) fun v3 w2 =>
  ob2 (fX10_actsOnMap E a0 v3 w2) fun v7 w6 =>
  (fX10_giveRoot E a0 v3 a1 a1 w6).bind fun w10 =>
  some (s0, w10)
set_option maxRecDepth 20000 in
set_option maxHeartbeats 4000000 in
theorem rX10_put_40 {X : ah_X} {d : Nat} (hd : 141 ≤ d) {a0 : Option Nat} {a1 : Int64} {s0 : Int32} {h : ah_H} {r : Int32} {h2 : ah_H} (hf : bX10_put_40 X.2.2.2 a0 a1 s0 h = some (r, h2)) : Rt X yX10_put cX10_put 6 (d + 1) 40 [(0, va_rf a0), (1, .long a1)] [.int s0] h (some (.int r)) h2 := by
  unfold bX10_put_40 at hf
  refine rt_istore_n (pc := 40) (k0 := 3) (x := s0) (l2 := [(3, .int s0), (0, va_rf a0), (1, .long a1)]) (by decide) (by first | rfl | (simp [rt_cat, cat_i, cat_l]; done) | (simp [rt_cat, cat_i, cat_l]; decide)) dX10_put_40 ?_
  refine rt_aload_n (pc := 41) (k0 := 0) (x := a0) 1 rfl dX10_put_41 ?_
  refine rt_iconst (pc := 42) (n := 1) (v := (1 : Int32)) (by decide) dX10_put_42 ?_
  refine rt_lload_n (pc := 43) (k0 := 1) (x := a1) 2 rfl dX10_put_43 ?_
  refine rt_iconst (pc := 44) (n := 0) (v := (0 : Int32)) (by decide) dX10_put_44 ?_
  obtain ⟨v3, w2, e1, hf⟩ := ob2_of hf
  have g4 := sX10_write d (by omega) e1
  refine rt_callV (pc := 45) (As := [.int (1 : Int32), .long a1, .int (0 : Int32)]) (st := []) me_X10_write mi_X10_write wl_X10_94 dX10_put_45 rfl (by decide) rfl g4.1 g4.2 ?_
  refine rt_istore (pc := 48) (i := 4) (x := v3) (l2 := [(4, .int v3), (3, .int s0), (0, va_rf a0), (1, .long a1)]) (by decide) (by first | rfl | (simp [rt_cat, cat_i, cat_l]; done) | (simp [rt_cat, cat_i, cat_l]; decide)) dX10_put_48 ?_
  refine rt_aload_n (pc := 50) (k0 := 0) (x := a0) 2 rfl dX10_put_50 ?_
  refine rt_iload (pc := 51) (i := 4) (x := v3) 0 rfl dX10_put_51 ?_
  obtain ⟨v7, w6, e5, hf⟩ := ob2_of hf
  have g8 := sX10_actsOnMap d (by omega) e5
  refine rt_callV (pc := 53) (As := [.int v3]) (st := []) me_X10_actsOnMap mi_X10_actsOnMap wl_X10_98 dX10_put_53 rfl (by decide) rfl g8.1 g8.2 ?_
  refine rt_istore (pc := 56) (i := 5) (x := v7) (l2 := [(5, .int v7), (4, .int v3), (3, .int s0), (0, va_rf a0), (1, .long a1)]) (by decide) (by first | rfl | (simp [rt_cat, cat_i, cat_l]; done) | (simp [rt_cat, cat_i, cat_l]; decide)) dX10_put_56 ?_
  refine rt_aload_n (pc := 58) (k0 := 0) (x := a0) 3 rfl dX10_put_58 ?_
  refine rt_iload (pc := 59) (i := 4) (x := v3) 1 rfl dX10_put_59 ?_
  refine rt_lload_n (pc := 61) (k0 := 1) (x := a1) 4 rfl dX10_put_61 ?_
  refine rt_lload_n (pc := 62) (k0 := 1) (x := a1) 4 rfl dX10_put_62 ?_
  obtain ⟨w10, e9, hf⟩ := ob1 hf
  have g11 := sX10_giveRoot d (by omega) e9
  refine rt_callV (pc := 63) (As := [.int v3, .long a1, .long a1]) (st := []) me_X10_giveRoot mi_X10_giveRoot wl_X10_101 dX10_put_63 rfl (by decide) rfl g11.1 g11.2 ?_
  refine rt_iload_n (pc := 66) (k0 := 3) (x := s0) 2 rfl dX10_put_66 ?_
  cases hf
  exact rt_ret (pc := 67) dX10_put_67 rfl
noncomputable def bX10_put_0 (E : ah_E) (a0 : Option Nat) (a1 : Int64) (h : ah_H) : Option (Int32 × ah_H) :=
  (hp_gi h a0 11 51).bind fun v1 =>
  if v1 = 0 then
    (hp_gi h a0 11 2).bind fun v4 =>
    if v4 ≤ (20 : Int32) then
      ob2 (fX10_place E a0 a1 h) fun v9 w8 =>
      ob2 (fX10_isAt E a0 v9 a1 w8) fun v13 w12 =>
      if v13 = 0 then
        bX10_put_40 E a0 a1 (0 : Int32) w12
      else
      bX10_put_40 E a0 a1 (1 : Int32) w12
    else
    some ((-2 : Int32), h)
  else
  some ((-4 : Int32), h)
set_option maxRecDepth 20000 in
set_option maxHeartbeats 4000000 in
theorem rX10_put_0 {X : ah_X} {d : Nat} (hd : 141 ≤ d) {a0 : Option Nat} {a1 : Int64} {h : ah_H} {r : Int32} {h2 : ah_H} (hf : bX10_put_0 X.2.2.2 a0 a1 h = some (r, h2)) : Rt X yX10_put cX10_put 6 (d + 1) 0 [(0, va_rf a0), (1, .long a1)] [] h (some (.int r)) h2 := by
  unfold bX10_put_0 at hf
  refine rt_aload_n (pc := 0) (k0 := 0) (x := a0) 0 rfl dX10_put_0 ?_
  obtain ⟨v1, e2, hf⟩ := ob1 hf
  refine rt_gi (pc := 1) fd_X10_90 dX10_put_1 e2 ?_
  by_cases c3 : v1 = 0
  · rw [if_pos c3] at hf
    refine rt_if_eq_p (pc := 4) (x := v1) (tgt := 10) (by decide) dX10_put_4 c3 ?_
    refine rt_aload_n (pc := 10) (k0 := 0) (x := a0) 0 rfl dX10_put_10 ?_
    obtain ⟨v4, e5, hf⟩ := ob1 hf
    refine rt_gi (pc := 11) fd_X10_9 dX10_put_11 e5 ?_
    refine rt_bipush (pc := 14) (n := 20) (v := (20 : Int32)) (by decide) dX10_put_14 ?_
    by_cases c6 : v4 ≤ (20 : Int32)
    · rw [if_pos c6] at hf
      refine rt_icmp_le_p (pc := 16) (x := v4) (z := (20 : Int32)) (tgt := 22) (by decide) dX10_put_16 c6 ?_
      refine rt_aload_n (pc := 22) (k0 := 0) (x := a0) 0 rfl dX10_put_22 ?_
      refine rt_aload_n (pc := 23) (k0 := 0) (x := a0) 0 rfl dX10_put_23 ?_
      refine rt_lload_n (pc := 24) (k0 := 1) (x := a1) 1 rfl dX10_put_24 ?_
      obtain ⟨v9, w8, e7, hf⟩ := ob2_of hf
      have g10 := sX10_place d (by omega) e7
      refine rt_callV (pc := 25) (As := [.long a1]) (st := [va_rf a0]) me_X10_place mi_X10_place wl_X10_72 dX10_put_25 rfl (by simp [rt_cat, cat_i, cat_l]) rfl g10.1 g10.2 ?_
      refine rt_lload_n (pc := 28) (k0 := 1) (x := a1) 1 rfl dX10_put_28 ?_
      obtain ⟨v13, w12, e11, hf⟩ := ob2_of hf
      have g14 := sX10_isAt d (by omega) e11
      refine rt_callV (pc := 29) (As := [.int v9, .long a1]) (st := []) me_X10_isAt mi_X10_isAt wl_X10_76 dX10_put_29 rfl (by decide) rfl g14.1 g14.2 ?_
      by_cases c15 : v13 = 0
      · rw [if_pos c15] at hf
        refine rt_if_eq_p (pc := 32) (x := v13) (tgt := 39) (by decide) dX10_put_32 c15 ?_
        refine rt_iconst (pc := 39) (n := 0) (v := (0 : Int32)) (by decide) dX10_put_39 ?_
        exact rX10_put_40 hd hf
      rw [if_neg c15] at hf
      refine rt_if_eq_n (pc := 32) (x := v13) (tgt := 39) (by decide) dX10_put_32 c15 ?_
      refine rt_iconst (pc := 35) (n := 1) (v := (1 : Int32)) (by decide) dX10_put_35 ?_
      refine rt_goto (pc := 36) (tgt := 40) (by decide) dX10_put_36 ?_
      exact rX10_put_40 hd hf
    rw [if_neg c6] at hf
    refine rt_icmp_le_n (pc := 16) (x := v4) (z := (20 : Int32)) (tgt := 22) (by decide) dX10_put_16 c6 ?_
    refine rt_bipush (pc := 19) (n := -2) (v := (-2 : Int32)) (by decide) dX10_put_19 ?_
    cases hf
    exact rt_ret (pc := 21) dX10_put_21 rfl
  rw [if_neg c3] at hf
  refine rt_if_eq_n (pc := 4) (x := v1) (tgt := 10) (by decide) dX10_put_4 c3 ?_
  refine rt_bipush (pc := 7) (n := -4) (v := (-4 : Int32)) (by decide) dX10_put_7 ?_
  cases hf
  exact rt_ret (pc := 9) dX10_put_9 rfl
noncomputable def fX10_put (E : ah_E) (a0 : Option Nat) (a1 : Int64) (h : ah_H) : Option (Int32 × ah_H) := if hp_rcv h a0 11 = false then none else bX10_put_0 E a0 a1 h
set_option maxRecDepth 20000 in
set_option maxHeartbeats 4000000 in
theorem sX10_put {X : ah_X} (d : Nat) (hd : 142 ≤ d) {a0 : Option Nat} {a1 : Int64} {h : ah_H} {r : Int32} {h2 : ah_H} (hf : fX10_put X.2.2.2 a0 a1 h = some (r, h2)) : hp_rcv h a0 11 = true ∧ Rn X yX10_put cX10_put 6 (some .int) d [va_rf a0, .long a1] h (some (.int r)) h2 := by
  unfold fX10_put at hf
  by_cases c0 : hp_rcv h a0 11 = false
  · rw [if_pos c0] at hf; cases hf
  rw [if_neg c0] at hf
  refine ⟨(Bool.not_eq_false _).mp c0, ?_⟩
  obtain ⟨d, rfl⟩ : ∃ k, d = k + 1 := ⟨d - 1, by omega⟩
  exact Rn.of2 me_X10_put (by simp [lg_sl, rt_cat, cat_i, cat_l]) (ok_i _) (l := [(0, va_rf a0), (1, .long a1)]) (by simp [lv_args, rt_cat, cat_i, cat_l]) (rX10_put_0 (by omega) hf)
noncomputable def bX10_release_25 (E : ah_E) : Nat → Option Nat → Int32 → ah_H → Option (Int32 × ah_H)
  | 0 => fun _ _ _ => none
  | n + 1 => fun a0 a3 h =>
  (hp_gi h a0 11 71).bind fun v1 =>
  if v1 ≤ (a3 + (1 : Int32)) then
    (hp_gi h a0 11 71).bind fun v4 =>
    (hp_pv h a0 11 71 (.int (v4 - (1 : Int32)))).bind fun w6 =>
    (hp_gi w6 a0 11 71).bind fun v8 =>
    some (v8, w6)
  else
  (hp_gr h a0 11 69).bind fun v10 =>
  (hp_gr h a0 11 69).bind fun v12 =>
  (hp_ldi h v12 (a3 + (1 : Int32))).bind fun v14 =>
  (hp_sti h v10 a3 v14).bind fun w16 =>
  (hp_gr w16 a0 11 70).bind fun v18 =>
  (hp_gr w16 a0 11 70).bind fun v20 =>
  (hp_ldi w16 v20 (a3 + (1 : Int32))).bind fun v22 =>
  (hp_sti w16 v18 a3 v22).bind fun w24 =>
  bX10_release_25 E n a0 (a3 + 1) w24
set_option maxRecDepth 20000 in
set_option maxHeartbeats 4000000 in
theorem rX10_release_25 {X : ah_X} {d : Nat} (hd : 0 ≤ d) (n : Nat) : ∀ (a0 : Option Nat) (a3 : Int32) (h : ah_H) (r : Int32) (h2 : ah_H), bX10_release_25 X.2.2.2 n a0 a3 h = some (r, h2) → Rt X yX10_release cX10_release 4 (d + 1) 25 [(0, va_rf a0), (3, .int a3)] [] h (some (.int r)) h2 := by
  induction n with
  | zero => intro a0 a3 h r h2 hf; cases hf
  | succ n ih =>
  intro a0 a3 h r h2 hf
  unfold bX10_release_25 at hf
  refine rt_iload_n (pc := 25) (k0 := 3) (x := a3) 1 rfl dX10_release_25 ?_
  refine rt_iconst (pc := 26) (n := 1) (v := (1 : Int32)) (by decide) dX10_release_26 ?_
  refine rt_iadd (pc := 27) (x := a3) (z := (1 : Int32)) dX10_release_27 ?_
  refine rt_aload_n (pc := 28) (k0 := 0) (x := a0) 0 rfl dX10_release_28 ?_
  obtain ⟨v1, e2, hf⟩ := ob1 hf
  refine rt_gi (pc := 29) fd_X10_363 dX10_release_29 e2 ?_
  by_cases c3 : v1 ≤ (a3 + (1 : Int32))
  · rw [if_pos c3] at hf
    refine rt_icmp_ge_p (pc := 32) (x := (a3 + (1 : Int32))) (z := v1) (tgt := 69) (by decide) dX10_release_32 c3 ?_
    refine rt_aload_n (pc := 69) (k0 := 0) (x := a0) 0 rfl dX10_release_69 ?_
    refine rt_dup (pc := 70) (rt_cat _) dX10_release_70 ?_
    obtain ⟨v4, e5, hf⟩ := ob1 hf
    refine rt_gi (pc := 71) fd_X10_363 dX10_release_71 e5 ?_
    refine rt_iconst (pc := 74) (n := 1) (v := (1 : Int32)) (by decide) dX10_release_74 ?_
    refine rt_isub (pc := 75) (x := v4) (z := (1 : Int32)) dX10_release_75 ?_
    obtain ⟨w6, e7, hf⟩ := ob1 hf
    refine rt_putf (pc := 76) (x := a0) fw_X10_363 (Or.inl rfl) (pf_i _).1 (pf_i _).2 dX10_release_76 e7 ?_
    refine rt_aload_n (pc := 79) (k0 := 0) (x := a0) 0 rfl dX10_release_79 ?_
    obtain ⟨v8, e9, hf⟩ := ob1 hf
    refine rt_gi (pc := 80) fd_X10_363 dX10_release_80 e9 ?_
    cases hf
    exact rt_ret (pc := 83) dX10_release_83 rfl
  rw [if_neg c3] at hf
  refine rt_icmp_ge_n (pc := 32) (x := (a3 + (1 : Int32))) (z := v1) (tgt := 69) (by decide) dX10_release_32 c3 ?_
  refine rt_aload_n (pc := 35) (k0 := 0) (x := a0) 0 rfl dX10_release_35 ?_
  obtain ⟨v10, e11, hf⟩ := ob1 hf
  refine rt_gr (pc := 36) fd_X10_252 dX10_release_36 e11 ?_
  refine rt_iload_n (pc := 39) (k0 := 3) (x := a3) 1 rfl dX10_release_39 ?_
  refine rt_aload_n (pc := 40) (k0 := 0) (x := a0) 0 rfl dX10_release_40 ?_
  obtain ⟨v12, e13, hf⟩ := ob1 hf
  refine rt_gr (pc := 41) fd_X10_252 dX10_release_41 e13 ?_
  refine rt_iload_n (pc := 44) (k0 := 3) (x := a3) 1 rfl dX10_release_44 ?_
  refine rt_iconst (pc := 45) (n := 1) (v := (1 : Int32)) (by decide) dX10_release_45 ?_
  refine rt_iadd (pc := 46) (x := a3) (z := (1 : Int32)) dX10_release_46 ?_
  obtain ⟨v14, e15, hf⟩ := ob1 hf
  refine rt_iald (pc := 47) dX10_release_47 e15 ?_
  obtain ⟨w16, e17, hf⟩ := ob1 hf
  refine rt_iast (pc := 48) dX10_release_48 e17 ?_
  refine rt_aload_n (pc := 49) (k0 := 0) (x := a0) 0 rfl dX10_release_49 ?_
  obtain ⟨v18, e19, hf⟩ := ob1 hf
  refine rt_gr (pc := 50) fd_X10_255 dX10_release_50 e19 ?_
  refine rt_iload_n (pc := 53) (k0 := 3) (x := a3) 1 rfl dX10_release_53 ?_
  refine rt_aload_n (pc := 54) (k0 := 0) (x := a0) 0 rfl dX10_release_54 ?_
  obtain ⟨v20, e21, hf⟩ := ob1 hf
  refine rt_gr (pc := 55) fd_X10_255 dX10_release_55 e21 ?_
  refine rt_iload_n (pc := 58) (k0 := 3) (x := a3) 1 rfl dX10_release_58 ?_
  refine rt_iconst (pc := 59) (n := 1) (v := (1 : Int32)) (by decide) dX10_release_59 ?_
  refine rt_iadd (pc := 60) (x := a3) (z := (1 : Int32)) dX10_release_60 ?_
  obtain ⟨v22, e23, hf⟩ := ob1 hf
  refine rt_iald (pc := 61) dX10_release_61 e23 ?_
  obtain ⟨w24, e25, hf⟩ := ob1 hf
  refine rt_iast (pc := 62) dX10_release_62 e25 ?_
  refine rt_iinc (pc := 63) (i := 3) (n := 1) (x := a3) (v := (a3 + 1)) (l2 := [(3, .int (a3 + 1)), (0, va_rf a0)]) 1 rfl rfl (by decide) (by first | rfl | (simp [rt_cat, cat_i, cat_l]; done) | (simp [rt_cat, cat_i, cat_l]; decide)) dX10_release_63 ?_
  refine rt_goto (pc := 66) (tgt := 25) (by decide) dX10_release_66 ?_
  exact rt_locals (rt_sub [1, 0] rfl) (ih _ _ _ _ _ hf)
noncomputable def bX10_release_0 (E : ah_E) (a0 : Option Nat) (a1 : Int32) (h : ah_H) : Option (Int32 × ah_H) :=
  (hp_gi h a0 11 51).bind fun v1 =>
  if v1 = 0 then
    ob2 (fX10_pictureAt E a0 a1 h) fun v6 w5 =>
    if v6 = (-1 : Int32) then
      some ((-1 : Int32), w5)
    else
    bX10_release_25 E zf a0 v6 w5
  else
  some ((-4 : Int32), h)
set_option maxRecDepth 20000 in
set_option maxHeartbeats 4000000 in
theorem rX10_release_0 {X : ah_X} {d : Nat} (hd : 0 ≤ d) {a0 : Option Nat} {a1 : Int32} {h : ah_H} {r : Int32} {h2 : ah_H} (hf : bX10_release_0 X.2.2.2 a0 a1 h = some (r, h2)) : Rt X yX10_release cX10_release 4 (d + 1) 0 [(0, va_rf a0), (1, .int a1)] [] h (some (.int r)) h2 := by
  unfold bX10_release_0 at hf
  refine rt_aload_n (pc := 0) (k0 := 0) (x := a0) 0 rfl dX10_release_0 ?_
  obtain ⟨v1, e2, hf⟩ := ob1 hf
  refine rt_gi (pc := 1) fd_X10_90 dX10_release_1 e2 ?_
  by_cases c3 : v1 = 0
  · rw [if_pos c3] at hf
    refine rt_if_eq_p (pc := 4) (x := v1) (tgt := 10) (by decide) dX10_release_4 c3 ?_
    refine rt_aload_n (pc := 10) (k0 := 0) (x := a0) 0 rfl dX10_release_10 ?_
    refine rt_iload_n (pc := 11) (k0 := 1) (x := a1) 1 rfl dX10_release_11 ?_
    obtain ⟨v6, w5, e4, hf⟩ := ob2_of hf
    have g7 := sX10_pictureAt d (by omega) e4
    refine rt_callV (pc := 12) (As := [.int a1]) (st := []) me_X10_pictureAt mi_X10_pictureAt wl_X10_397 dX10_release_12 rfl (by decide) rfl g7.1 g7.2 ?_
    refine rt_istore_n (pc := 15) (k0 := 2) (x := v6) (l2 := [(2, .int v6), (0, va_rf a0), (1, .int a1)]) (by decide) (by first | rfl | (simp [rt_cat, cat_i, cat_l]; done) | (simp [rt_cat, cat_i, cat_l]; decide)) dX10_release_15 ?_
    refine rt_iload_n (pc := 16) (k0 := 2) (x := v6) 0 rfl dX10_release_16 ?_
    refine rt_iconst (pc := 17) (n := -1) (v := (-1 : Int32)) (by decide) dX10_release_17 ?_
    by_cases c8 : v6 = (-1 : Int32)
    · rw [if_pos c8] at hf
      refine rt_icmp_ne_p (pc := 18) (x := v6) (z := (-1 : Int32)) (tgt := 23) (by decide) dX10_release_18 c8 ?_
      refine rt_iconst (pc := 21) (n := -1) (v := (-1 : Int32)) (by decide) dX10_release_21 ?_
      cases hf
      exact rt_ret (pc := 22) dX10_release_22 rfl
    rw [if_neg c8] at hf
    refine rt_icmp_ne_n (pc := 18) (x := v6) (z := (-1 : Int32)) (tgt := 23) (by decide) dX10_release_18 c8 ?_
    refine rt_iload_n (pc := 23) (k0 := 2) (x := v6) 0 rfl dX10_release_23 ?_
    refine rt_istore_n (pc := 24) (k0 := 3) (x := v6) (l2 := [(3, .int v6), (2, .int v6), (0, va_rf a0), (1, .int a1)]) (by decide) (by first | rfl | (simp [rt_cat, cat_i, cat_l]; done) | (simp [rt_cat, cat_i, cat_l]; decide)) dX10_release_24 ?_
    exact rt_locals (rt_sub [2, 0] rfl) (rX10_release_25 hd zf _ _ _ _ _ hf)
  rw [if_neg c3] at hf
  refine rt_if_eq_n (pc := 4) (x := v1) (tgt := 10) (by decide) dX10_release_4 c3 ?_
  refine rt_bipush (pc := 7) (n := -4) (v := (-4 : Int32)) (by decide) dX10_release_7 ?_
  cases hf
  exact rt_ret (pc := 9) dX10_release_9 rfl
noncomputable def fX10_release (E : ah_E) (a0 : Option Nat) (a1 : Int32) (h : ah_H) : Option (Int32 × ah_H) := if hp_rcv h a0 11 = false then none else bX10_release_0 E a0 a1 h
set_option maxRecDepth 20000 in
set_option maxHeartbeats 4000000 in
theorem sX10_release {X : ah_X} (d : Nat) (hd : 1 ≤ d) {a0 : Option Nat} {a1 : Int32} {h : ah_H} {r : Int32} {h2 : ah_H} (hf : fX10_release X.2.2.2 a0 a1 h = some (r, h2)) : hp_rcv h a0 11 = true ∧ Rn X yX10_release cX10_release 4 (some .int) d [va_rf a0, .int a1] h (some (.int r)) h2 := by
  unfold fX10_release at hf
  by_cases c0 : hp_rcv h a0 11 = false
  · rw [if_pos c0] at hf; cases hf
  rw [if_neg c0] at hf
  refine ⟨(Bool.not_eq_false _).mp c0, ?_⟩
  obtain ⟨d, rfl⟩ : ∃ k, d = k + 1 := ⟨d - 1, by omega⟩
  exact Rn.of2 me_X10_release (by simp [lg_sl, rt_cat, cat_i, cat_l]) (ok_i _) (l := [(0, va_rf a0), (1, .int a1)]) (by simp [lv_args, rt_cat, cat_i, cat_l]) (rX10_release_0 (by omega) hf)
noncomputable def bX10_load_81 (E : ah_E) (kr : Option Nat → Int32 → ah_H → Option (Int32 × ah_H)) (k35 : Option Nat → Int32 → Int32 → Int32 → Int32 → ah_H → Option (Int32 × ah_H)) : Nat → Option Nat → Int32 → Int32 → Int32 → Int32 → Int32 → ah_H → Option (Int32 × ah_H)
  | 0 => fun _ _ _ _ _ _ _ => none
  | n + 1 => fun a0 a1 a2 a3 a4 a5 h =>
  if (20 : Int32) ≤ a5 then
    k35 a0 a1 a2 a3 (a4 + 1) h
  else
  (hp_gr h a0 11 33).bind fun v2 =>
  (hp_gr h a0 11 56).bind fun v4 =>
  (hp_ldb h v4 (((20 : Int32) * a4) + a5)).bind fun v6 =>
  (hp_stb h v2 (((20 : Int32) * a3) + a5) v6).bind fun w8 =>
  bX10_load_81 E kr k35 n a0 a1 a2 a3 a4 (a5 + 1) w8
set_option maxRecDepth 20000 in
set_option maxHeartbeats 4000000 in
theorem rX10_load_81 {X : ah_X} {d : Nat} {dk : Nat} {kr : Option Nat → Int32 → ah_H → Option (Int32 × ah_H)} (hkr : ∀ (d : Nat), dk ≤ d → ∀ (x0 : Option Nat) (x1 : Int32) (h : ah_H) (r : Int32) (h2 : ah_H), kr x0 x1 h = some (r, h2) → hp_rcv h x0 11 = true ∧ Rn X yX10_load cX10_load 6 (some .int) d [va_rf x0, .int x1] h (some (.int r)) h2) (hd : 1 ≤ d) (hdk : dk + 0 ≤ d) {k35 : Option Nat → Int32 → Int32 → Int32 → Int32 → ah_H → Option (Int32 × ah_H)} (hk35 : ∀ (x0 : Option Nat) (x1 : Int32) (x2 : Int32) (x3 : Int32) (x4 : Int32) (h : ah_H) (r : Int32) (h2 : ah_H), k35 x0 x1 x2 x3 x4 h = some (r, h2) → Rt X yX10_load cX10_load 6 (d + 1) 35 [(0, va_rf x0), (1, .int x1), (2, .int x2), (3, .int x3), (4, .int x4)] [] h (some (.int r)) h2) (n : Nat) : ∀ (a0 : Option Nat) (a1 : Int32) (a2 : Int32) (a3 : Int32) (a4 : Int32) (a5 : Int32) (h : ah_H) (r : Int32) (h2 : ah_H), bX10_load_81 X.2.2.2 kr k35 n a0 a1 a2 a3 a4 a5 h = some (r, h2) → Rt X yX10_load cX10_load 6 (d + 1) 81 [(0, va_rf a0), (1, .int a1), (2, .int a2), (3, .int a3), (4, .int a4), (5, .int a5)] [] h (some (.int r)) h2 := by
  induction n with
  | zero => intro a0 a1 a2 a3 a4 a5 h r h2 hf; cases hf
  | succ n ih =>
  intro a0 a1 a2 a3 a4 a5 h r h2 hf
  unfold bX10_load_81 at hf
  refine rt_iload (pc := 81) (i := 5) (x := a5) 5 rfl dX10_load_81 ?_
  refine rt_bipush (pc := 83) (n := 20) (v := (20 : Int32)) (by decide) dX10_load_83 ?_
  by_cases c1 : (20 : Int32) ≤ a5
  · rw [if_pos c1] at hf
    refine rt_icmp_ge_p (pc := 85) (x := a5) (z := (20 : Int32)) (tgt := 119) (by decide) dX10_load_85 c1 ?_
    refine rt_iinc (pc := 119) (i := 4) (n := 1) (x := a4) (v := (a4 + 1)) (l2 := [(4, .int (a4 + 1)), (0, va_rf a0), (1, .int a1), (2, .int a2), (3, .int a3), (5, .int a5)]) 4 rfl rfl (by decide) (by first | rfl | (simp [rt_cat, cat_i, cat_l]; done) | (simp [rt_cat, cat_i, cat_l]; decide)) dX10_load_119 ?_
    refine rt_goto (pc := 122) (tgt := 35) (by decide) dX10_load_122 ?_
    exact rt_locals (rt_sub [1, 2, 3, 4, 0] rfl) (hk35 _ _ _ _ _ _ _ _ hf)
  rw [if_neg c1] at hf
  refine rt_icmp_ge_n (pc := 85) (x := a5) (z := (20 : Int32)) (tgt := 119) (by decide) dX10_load_85 c1 ?_
  refine rt_aload_n (pc := 88) (k0 := 0) (x := a0) 0 rfl dX10_load_88 ?_
  obtain ⟨v2, e3, hf⟩ := ob1 hf
  refine rt_gr (pc := 89) fd_X10_161 dX10_load_89 e3 ?_
  refine rt_bipush (pc := 92) (n := 20) (v := (20 : Int32)) (by decide) dX10_load_92 ?_
  refine rt_iload_n (pc := 94) (k0 := 3) (x := a3) 3 rfl dX10_load_94 ?_
  refine rt_imul (pc := 95) (x := (20 : Int32)) (z := a3) dX10_load_95 ?_
  refine rt_iload (pc := 96) (i := 5) (x := a5) 5 rfl dX10_load_96 ?_
  refine rt_iadd (pc := 98) (x := ((20 : Int32) * a3)) (z := a5) dX10_load_98 ?_
  refine rt_aload_n (pc := 99) (k0 := 0) (x := a0) 0 rfl dX10_load_99 ?_
  obtain ⟨v4, e5, hf⟩ := ob1 hf
  refine rt_gr (pc := 100) fd_X10_213 dX10_load_100 e5 ?_
  refine rt_bipush (pc := 103) (n := 20) (v := (20 : Int32)) (by decide) dX10_load_103 ?_
  refine rt_iload (pc := 105) (i := 4) (x := a4) 4 rfl dX10_load_105 ?_
  refine rt_imul (pc := 107) (x := (20 : Int32)) (z := a4) dX10_load_107 ?_
  refine rt_iload (pc := 108) (i := 5) (x := a5) 5 rfl dX10_load_108 ?_
  refine rt_iadd (pc := 110) (x := ((20 : Int32) * a4)) (z := a5) dX10_load_110 ?_
  obtain ⟨v6, e7, hf⟩ := ob1 hf
  refine rt_bald (pc := 111) dX10_load_111 e7 ?_
  obtain ⟨w8, e9, hf⟩ := ob1 hf
  refine rt_bast (pc := 112) dX10_load_112 e9 ?_
  refine rt_iinc (pc := 113) (i := 5) (n := 1) (x := a5) (v := (a5 + 1)) (l2 := [(5, .int (a5 + 1)), (0, va_rf a0), (1, .int a1), (2, .int a2), (3, .int a3), (4, .int a4)]) 5 rfl rfl (by decide) (by first | rfl | (simp [rt_cat, cat_i, cat_l]; done) | (simp [rt_cat, cat_i, cat_l]; decide)) dX10_load_113 ?_
  refine rt_goto (pc := 116) (tgt := 81) (by decide) dX10_load_116 ?_
  exact rt_locals (rt_sub [1, 2, 3, 4, 5, 0] rfl) (ih _ _ _ _ _ _ _ _ _ hf)
noncomputable def bX10_load_35 (E : ah_E) (kr : Option Nat → Int32 → ah_H → Option (Int32 × ah_H)) : Nat → Option Nat → Int32 → Int32 → Int32 → Int32 → ah_H → Option (Int32 × ah_H)
  | 0 => fun _ _ _ _ _ _ => none
  | n + 1 => fun a0 a1 a2 a3 a4 h =>
  (hp_gr h a0 11 53).bind fun v1 =>
  (hp_ldi h v1 a1).bind fun v3 =>
  if (((6 : Int32) * a1) + v3) ≤ a4 then
    some (a2, h)
  else
  (hp_gr h a0 11 54).bind fun v6 =>
  (hp_ldl h v6 a4).bind fun v8 =>
  ob2 (fX10_entry E a0 a2 a3 v8 h) fun v12 w11 =>
  (hp_gr w11 a0 11 32).bind fun v14 =>
  (hp_gr w11 a0 11 55).bind fun v16 =>
  (hp_ldi w11 v16 a4).bind fun v18 =>
  (hp_sti w11 v14 v12 v18).bind fun w20 =>
  bX10_load_81 E kr (bX10_load_35 E kr n) zf a0 a1 a2 v12 a4 (0 : Int32) w20
set_option maxRecDepth 20000 in
set_option maxHeartbeats 4000000 in
theorem rX10_load_35 {X : ah_X} {d : Nat} {dk : Nat} {kr : Option Nat → Int32 → ah_H → Option (Int32 × ah_H)} (hkr : ∀ (d : Nat), dk ≤ d → ∀ (x0 : Option Nat) (x1 : Int32) (h : ah_H) (r : Int32) (h2 : ah_H), kr x0 x1 h = some (r, h2) → hp_rcv h x0 11 = true ∧ Rn X yX10_load cX10_load 6 (some .int) d [va_rf x0, .int x1] h (some (.int r)) h2) (hd : 1 ≤ d) (hdk : dk + 0 ≤ d) (n : Nat) : ∀ (a0 : Option Nat) (a1 : Int32) (a2 : Int32) (a3 : Int32) (a4 : Int32) (h : ah_H) (r : Int32) (h2 : ah_H), bX10_load_35 X.2.2.2 kr n a0 a1 a2 a3 a4 h = some (r, h2) → Rt X yX10_load cX10_load 6 (d + 1) 35 [(0, va_rf a0), (1, .int a1), (2, .int a2), (3, .int a3), (4, .int a4)] [] h (some (.int r)) h2 := by
  induction n with
  | zero => intro a0 a1 a2 a3 a4 h r h2 hf; cases hf
  | succ n ih =>
  intro a0 a1 a2 a3 a4 h r h2 hf
  unfold bX10_load_35 at hf
  refine rt_iload (pc := 35) (i := 4) (x := a4) 4 rfl dX10_load_35 ?_
  refine rt_bipush (pc := 37) (n := 6) (v := (6 : Int32)) (by decide) dX10_load_37 ?_
  refine rt_iload_n (pc := 39) (k0 := 1) (x := a1) 1 rfl dX10_load_39 ?_
  refine rt_imul (pc := 40) (x := (6 : Int32)) (z := a1) dX10_load_40 ?_
  refine rt_aload_n (pc := 41) (k0 := 0) (x := a0) 0 rfl dX10_load_41 ?_
  obtain ⟨v1, e2, hf⟩ := ob1 hf
  refine rt_gr (pc := 42) fd_X10_203 dX10_load_42 e2 ?_
  refine rt_iload_n (pc := 45) (k0 := 1) (x := a1) 1 rfl dX10_load_45 ?_
  obtain ⟨v3, e4, hf⟩ := ob1 hf
  refine rt_iald (pc := 46) dX10_load_46 e4 ?_
  refine rt_iadd (pc := 47) (x := ((6 : Int32) * a1)) (z := v3) dX10_load_47 ?_
  by_cases c5 : (((6 : Int32) * a1) + v3) ≤ a4
  · rw [if_pos c5] at hf
    refine rt_icmp_ge_p (pc := 48) (x := a4) (z := (((6 : Int32) * a1) + v3)) (tgt := 125) (by decide) dX10_load_48 c5 ?_
    refine rt_iload_n (pc := 125) (k0 := 2) (x := a2) 2 rfl dX10_load_125 ?_
    cases hf
    exact rt_ret (pc := 126) dX10_load_126 rfl
  rw [if_neg c5] at hf
  refine rt_icmp_ge_n (pc := 48) (x := a4) (z := (((6 : Int32) * a1) + v3)) (tgt := 125) (by decide) dX10_load_48 c5 ?_
  refine rt_aload_n (pc := 51) (k0 := 0) (x := a0) 0 rfl dX10_load_51 ?_
  refine rt_iload_n (pc := 52) (k0 := 2) (x := a2) 2 rfl dX10_load_52 ?_
  refine rt_iload_n (pc := 53) (k0 := 3) (x := a3) 3 rfl dX10_load_53 ?_
  refine rt_aload_n (pc := 54) (k0 := 0) (x := a0) 0 rfl dX10_load_54 ?_
  obtain ⟨v6, e7, hf⟩ := ob1 hf
  refine rt_gr (pc := 55) fd_X10_206 dX10_load_55 e7 ?_
  refine rt_iload (pc := 58) (i := 4) (x := a4) 4 rfl dX10_load_58 ?_
  obtain ⟨v8, e9, hf⟩ := ob1 hf
  refine rt_lald (pc := 60) dX10_load_60 e9 ?_
  obtain ⟨v12, w11, e10, hf⟩ := ob2_of hf
  have g13 := sX10_entry d (by omega) e10
  refine rt_callV (pc := 61) (As := [.int a2, .int a3, .long v8]) (st := []) me_X10_entry mi_X10_entry wl_X10_299 dX10_load_61 rfl (by decide) rfl g13.1 g13.2 ?_
  refine rt_istore_n (pc := 64) (k0 := 3) (x := v12) (l2 := [(3, .int v12), (0, va_rf a0), (1, .int a1), (2, .int a2), (4, .int a4)]) (by decide) (by first | rfl | (simp [rt_cat, cat_i, cat_l]; done) | (simp [rt_cat, cat_i, cat_l]; decide)) dX10_load_64 ?_
  refine rt_aload_n (pc := 65) (k0 := 0) (x := a0) 1 rfl dX10_load_65 ?_
  obtain ⟨v14, e15, hf⟩ := ob1 hf
  refine rt_gr (pc := 66) fd_X10_157 dX10_load_66 e15 ?_
  refine rt_iload_n (pc := 69) (k0 := 3) (x := v12) 0 rfl dX10_load_69 ?_
  refine rt_aload_n (pc := 70) (k0 := 0) (x := a0) 1 rfl dX10_load_70 ?_
  obtain ⟨v16, e17, hf⟩ := ob1 hf
  refine rt_gr (pc := 71) fd_X10_209 dX10_load_71 e17 ?_
  refine rt_iload (pc := 74) (i := 4) (x := a4) 4 rfl dX10_load_74 ?_
  obtain ⟨v18, e19, hf⟩ := ob1 hf
  refine rt_iald (pc := 76) dX10_load_76 e19 ?_
  obtain ⟨w20, e21, hf⟩ := ob1 hf
  refine rt_iast (pc := 77) dX10_load_77 e21 ?_
  refine rt_iconst (pc := 78) (n := 0) (v := (0 : Int32)) (by decide) dX10_load_78 ?_
  refine rt_istore (pc := 79) (i := 5) (x := (0 : Int32)) (l2 := [(5, .int (0 : Int32)), (3, .int v12), (0, va_rf a0), (1, .int a1), (2, .int a2), (4, .int a4)]) (by decide) (by first | rfl | (simp [rt_cat, cat_i, cat_l]; done) | (simp [rt_cat, cat_i, cat_l]; decide)) dX10_load_79 ?_
  exact rt_locals (rt_sub [2, 3, 4, 1, 5, 0] rfl) (rX10_load_81 hkr hd hdk ih zf _ _ _ _ _ _ _ _ _ hf)
noncomputable def bX10_load_197 (E : ah_E) (kr : Option Nat → Int32 → ah_H → Option (Int32 × ah_H)) : Nat → Option Nat → Int32 → Int32 → Int32 → ah_H → Option (Int32 × ah_H)
  | 0 => fun _ _ _ _ _ => none
  | n + 1 => fun a0 a1 a2 a3 h =>
  (hp_gr h a0 11 53).bind fun v1 =>
  (hp_ldi h v1 a1).bind fun v3 =>
  if v3 ≤ a3 then
    some (a2, h)
  else
  (hp_gr h a0 11 23).bind fun v6 =>
  (hp_gr h a0 11 54).bind fun v8 =>
  (hp_ldl h v8 (((6 : Int32) * a1) + a3)).bind fun v10 =>
  (hp_stl h v6 (((128 : Int32) * a2) + a3) v10).bind fun w12 =>
  (hp_gr w12 a0 11 22).bind fun v14 =>
  (hp_gr w12 a0 11 57).bind fun v16 =>
  (hp_ldi w12 v16 (((6 : Int32) * a1) + a3)).bind fun v18 =>
  ob2 (kr a0 v18 w12) fun v22 w21 =>
  (hp_sti w21 v14 (((128 : Int32) * a2) + a3) v22).bind fun w24 =>
  bX10_load_197 E kr n a0 a1 a2 (a3 + 1) w24
set_option maxRecDepth 20000 in
set_option maxHeartbeats 4000000 in
theorem rX10_load_197 {X : ah_X} {d : Nat} {dk : Nat} {kr : Option Nat → Int32 → ah_H → Option (Int32 × ah_H)} (hkr : ∀ (d : Nat), dk ≤ d → ∀ (x0 : Option Nat) (x1 : Int32) (h : ah_H) (r : Int32) (h2 : ah_H), kr x0 x1 h = some (r, h2) → hp_rcv h x0 11 = true ∧ Rn X yX10_load cX10_load 6 (some .int) d [va_rf x0, .int x1] h (some (.int r)) h2) (hd : 1 ≤ d) (hdk : dk + 0 ≤ d) (n : Nat) : ∀ (a0 : Option Nat) (a1 : Int32) (a2 : Int32) (a3 : Int32) (h : ah_H) (r : Int32) (h2 : ah_H), bX10_load_197 X.2.2.2 kr n a0 a1 a2 a3 h = some (r, h2) → Rt X yX10_load cX10_load 6 (d + 1) 197 [(0, va_rf a0), (1, .int a1), (2, .int a2), (3, .int a3)] [] h (some (.int r)) h2 := by
  induction n with
  | zero => intro a0 a1 a2 a3 h r h2 hf; cases hf
  | succ n ih =>
  intro a0 a1 a2 a3 h r h2 hf
  unfold bX10_load_197 at hf
  refine rt_iload_n (pc := 197) (k0 := 3) (x := a3) 3 rfl dX10_load_197 ?_
  refine rt_aload_n (pc := 198) (k0 := 0) (x := a0) 0 rfl dX10_load_198 ?_
  obtain ⟨v1, e2, hf⟩ := ob1 hf
  refine rt_gr (pc := 199) fd_X10_203 dX10_load_199 e2 ?_
  refine rt_iload_n (pc := 202) (k0 := 1) (x := a1) 1 rfl dX10_load_202 ?_
  obtain ⟨v3, e4, hf⟩ := ob1 hf
  refine rt_iald (pc := 203) dX10_load_203 e4 ?_
  by_cases c5 : v3 ≤ a3
  · rw [if_pos c5] at hf
    refine rt_icmp_ge_p (pc := 204) (x := a3) (z := v3) (tgt := 263) (by decide) dX10_load_204 c5 ?_
    refine rt_iload_n (pc := 263) (k0 := 2) (x := a2) 2 rfl dX10_load_263 ?_
    cases hf
    exact rt_ret (pc := 264) dX10_load_264 rfl
  rw [if_neg c5] at hf
  refine rt_icmp_ge_n (pc := 204) (x := a3) (z := v3) (tgt := 263) (by decide) dX10_load_204 c5 ?_
  refine rt_aload_n (pc := 207) (k0 := 0) (x := a0) 0 rfl dX10_load_207 ?_
  obtain ⟨v6, e7, hf⟩ := ob1 hf
  refine rt_gr (pc := 208) fd_X10_136 dX10_load_208 e7 ?_
  refine rt_sipush (pc := 211) (n := 128) (v := (128 : Int32)) (by decide) dX10_load_211 ?_
  refine rt_iload_n (pc := 214) (k0 := 2) (x := a2) 2 rfl dX10_load_214 ?_
  refine rt_imul (pc := 215) (x := (128 : Int32)) (z := a2) dX10_load_215 ?_
  refine rt_iload_n (pc := 216) (k0 := 3) (x := a3) 3 rfl dX10_load_216 ?_
  refine rt_iadd (pc := 217) (x := ((128 : Int32) * a2)) (z := a3) dX10_load_217 ?_
  refine rt_aload_n (pc := 218) (k0 := 0) (x := a0) 0 rfl dX10_load_218 ?_
  obtain ⟨v8, e9, hf⟩ := ob1 hf
  refine rt_gr (pc := 219) fd_X10_206 dX10_load_219 e9 ?_
  refine rt_bipush (pc := 222) (n := 6) (v := (6 : Int32)) (by decide) dX10_load_222 ?_
  refine rt_iload_n (pc := 224) (k0 := 1) (x := a1) 1 rfl dX10_load_224 ?_
  refine rt_imul (pc := 225) (x := (6 : Int32)) (z := a1) dX10_load_225 ?_
  refine rt_iload_n (pc := 226) (k0 := 3) (x := a3) 3 rfl dX10_load_226 ?_
  refine rt_iadd (pc := 227) (x := ((6 : Int32) * a1)) (z := a3) dX10_load_227 ?_
  obtain ⟨v10, e11, hf⟩ := ob1 hf
  refine rt_lald (pc := 228) dX10_load_228 e11 ?_
  obtain ⟨w12, e13, hf⟩ := ob1 hf
  refine rt_last (pc := 229) dX10_load_229 e13 ?_
  refine rt_aload_n (pc := 230) (k0 := 0) (x := a0) 0 rfl dX10_load_230 ?_
  obtain ⟨v14, e15, hf⟩ := ob1 hf
  refine rt_gr (pc := 231) fd_X10_133 dX10_load_231 e15 ?_
  refine rt_sipush (pc := 234) (n := 128) (v := (128 : Int32)) (by decide) dX10_load_234 ?_
  refine rt_iload_n (pc := 237) (k0 := 2) (x := a2) 2 rfl dX10_load_237 ?_
  refine rt_imul (pc := 238) (x := (128 : Int32)) (z := a2) dX10_load_238 ?_
  refine rt_iload_n (pc := 239) (k0 := 3) (x := a3) 3 rfl dX10_load_239 ?_
  refine rt_iadd (pc := 240) (x := ((128 : Int32) * a2)) (z := a3) dX10_load_240 ?_
  refine rt_aload_n (pc := 241) (k0 := 0) (x := a0) 0 rfl dX10_load_241 ?_
  refine rt_aload_n (pc := 242) (k0 := 0) (x := a0) 0 rfl dX10_load_242 ?_
  obtain ⟨v16, e17, hf⟩ := ob1 hf
  refine rt_gr (pc := 243) fd_X10_216 dX10_load_243 e17 ?_
  refine rt_bipush (pc := 246) (n := 6) (v := (6 : Int32)) (by decide) dX10_load_246 ?_
  refine rt_iload_n (pc := 248) (k0 := 1) (x := a1) 1 rfl dX10_load_248 ?_
  refine rt_imul (pc := 249) (x := (6 : Int32)) (z := a1) dX10_load_249 ?_
  refine rt_iload_n (pc := 250) (k0 := 3) (x := a3) 3 rfl dX10_load_250 ?_
  refine rt_iadd (pc := 251) (x := ((6 : Int32) * a1)) (z := a3) dX10_load_251 ?_
  obtain ⟨v18, e19, hf⟩ := ob1 hf
  refine rt_iald (pc := 252) dX10_load_252 e19 ?_
  obtain ⟨v22, w21, e20, hf⟩ := ob2_of hf
  have g23 := hkr d (by omega) _ _ _ _ _ e20
  refine rt_callV (pc := 253) (As := [.int v18]) (st := [.int (((128 : Int32) * a2) + a3), va_rf v14]) me_X10_load mi_X10_load wl_X10_400 dX10_load_253 rfl (by simp [rt_cat, cat_i, cat_l]) rfl g23.1 g23.2 ?_
  obtain ⟨w24, e25, hf⟩ := ob1 hf
  refine rt_iast (pc := 256) dX10_load_256 e25 ?_
  refine rt_iinc (pc := 257) (i := 3) (n := 1) (x := a3) (v := (a3 + 1)) (l2 := [(3, .int (a3 + 1)), (0, va_rf a0), (1, .int a1), (2, .int a2)]) 3 rfl rfl (by decide) (by first | rfl | (simp [rt_cat, cat_i, cat_l]; done) | (simp [rt_cat, cat_i, cat_l]; decide)) dX10_load_257 ?_
  refine rt_goto (pc := 260) (tgt := 197) (by decide) dX10_load_260 ?_
  exact rt_locals (rt_sub [1, 2, 3, 0] rfl) (ih _ _ _ _ _ _ _ hf)
noncomputable def bX10_load_132 (E : ah_E) (kr : Option Nat → Int32 → ah_H → Option (Int32 × ah_H)) : Nat → Option Nat → Int32 → Int32 → Int32 → ah_H → Option (Int32 × ah_H)
  | 0 => fun _ _ _ _ _ => none
  | n + 1 => fun a0 a1 a2 a3 h =>
  (hp_gr h a0 11 58).bind fun v1 =>
  (hp_ldi h v1 a1).bind fun v3 =>
  if (((8 : Int32) * a1) + v3) ≤ a3 then
    (hp_gr h a0 11 27).bind fun v6 =>
    (hp_sti h v6 a2 a1).bind fun w8 =>
    (hp_gr w8 a0 11 21).bind fun v10 =>
    (hp_gr w8 a0 11 53).bind fun v12 =>
    (hp_ldi w8 v12 a1).bind fun v14 =>
    (hp_sti w8 v10 a2 v14).bind fun w16 =>
    bX10_load_197 E kr zf a0 a1 a2 (0 : Int32) w16
  else
  (hp_gr h a0 11 59).bind fun v18 =>
  (hp_ldi h v18 a3).bind fun v20 =>
  (hp_gr h a0 11 60).bind fun v22 =>
  (hp_ldl h v22 a3).bind fun v24 =>
  (hp_gr h a0 11 61).bind fun v26 =>
  (hp_ldl h v26 a3).bind fun v28 =>
  (fX10_letter E a0 a2 v20 v24 v28 h).bind fun w31 =>
  bX10_load_132 E kr n a0 a1 a2 (a3 + 1) w31
set_option maxRecDepth 20000 in
set_option maxHeartbeats 4000000 in
theorem rX10_load_132 {X : ah_X} {d : Nat} {dk : Nat} {kr : Option Nat → Int32 → ah_H → Option (Int32 × ah_H)} (hkr : ∀ (d : Nat), dk ≤ d → ∀ (x0 : Option Nat) (x1 : Int32) (h : ah_H) (r : Int32) (h2 : ah_H), kr x0 x1 h = some (r, h2) → hp_rcv h x0 11 = true ∧ Rn X yX10_load cX10_load 6 (some .int) d [va_rf x0, .int x1] h (some (.int r)) h2) (hd : 1 ≤ d) (hdk : dk + 0 ≤ d) (n : Nat) : ∀ (a0 : Option Nat) (a1 : Int32) (a2 : Int32) (a3 : Int32) (h : ah_H) (r : Int32) (h2 : ah_H), bX10_load_132 X.2.2.2 kr n a0 a1 a2 a3 h = some (r, h2) → Rt X yX10_load cX10_load 6 (d + 1) 132 [(0, va_rf a0), (1, .int a1), (2, .int a2), (3, .int a3)] [] h (some (.int r)) h2 := by
  induction n with
  | zero => intro a0 a1 a2 a3 h r h2 hf; cases hf
  | succ n ih =>
  intro a0 a1 a2 a3 h r h2 hf
  unfold bX10_load_132 at hf
  refine rt_iload_n (pc := 132) (k0 := 3) (x := a3) 3 rfl dX10_load_132 ?_
  refine rt_bipush (pc := 133) (n := 8) (v := (8 : Int32)) (by decide) dX10_load_133 ?_
  refine rt_iload_n (pc := 135) (k0 := 1) (x := a1) 1 rfl dX10_load_135 ?_
  refine rt_imul (pc := 136) (x := (8 : Int32)) (z := a1) dX10_load_136 ?_
  refine rt_aload_n (pc := 137) (k0 := 0) (x := a0) 0 rfl dX10_load_137 ?_
  obtain ⟨v1, e2, hf⟩ := ob1 hf
  refine rt_gr (pc := 138) fd_X10_219 dX10_load_138 e2 ?_
  refine rt_iload_n (pc := 141) (k0 := 1) (x := a1) 1 rfl dX10_load_141 ?_
  obtain ⟨v3, e4, hf⟩ := ob1 hf
  refine rt_iald (pc := 142) dX10_load_142 e4 ?_
  refine rt_iadd (pc := 143) (x := ((8 : Int32) * a1)) (z := v3) dX10_load_143 ?_
  by_cases c5 : (((8 : Int32) * a1) + v3) ≤ a3
  · rw [if_pos c5] at hf
    refine rt_icmp_ge_p (pc := 144) (x := a3) (z := (((8 : Int32) * a1) + v3)) (tgt := 176) (by decide) dX10_load_144 c5 ?_
    refine rt_aload_n (pc := 176) (k0 := 0) (x := a0) 0 rfl dX10_load_176 ?_
    obtain ⟨v6, e7, hf⟩ := ob1 hf
    refine rt_gr (pc := 177) fd_X10_148 dX10_load_177 e7 ?_
    refine rt_iload_n (pc := 180) (k0 := 2) (x := a2) 2 rfl dX10_load_180 ?_
    refine rt_iload_n (pc := 181) (k0 := 1) (x := a1) 1 rfl dX10_load_181 ?_
    obtain ⟨w8, e9, hf⟩ := ob1 hf
    refine rt_iast (pc := 182) dX10_load_182 e9 ?_
    refine rt_aload_n (pc := 183) (k0 := 0) (x := a0) 0 rfl dX10_load_183 ?_
    obtain ⟨v10, e11, hf⟩ := ob1 hf
    refine rt_gr (pc := 184) fd_X10_129 dX10_load_184 e11 ?_
    refine rt_iload_n (pc := 187) (k0 := 2) (x := a2) 2 rfl dX10_load_187 ?_
    refine rt_aload_n (pc := 188) (k0 := 0) (x := a0) 0 rfl dX10_load_188 ?_
    obtain ⟨v12, e13, hf⟩ := ob1 hf
    refine rt_gr (pc := 189) fd_X10_203 dX10_load_189 e13 ?_
    refine rt_iload_n (pc := 192) (k0 := 1) (x := a1) 1 rfl dX10_load_192 ?_
    obtain ⟨v14, e15, hf⟩ := ob1 hf
    refine rt_iald (pc := 193) dX10_load_193 e15 ?_
    obtain ⟨w16, e17, hf⟩ := ob1 hf
    refine rt_iast (pc := 194) dX10_load_194 e17 ?_
    refine rt_iconst (pc := 195) (n := 0) (v := (0 : Int32)) (by decide) dX10_load_195 ?_
    refine rt_istore_n (pc := 196) (k0 := 3) (x := (0 : Int32)) (l2 := [(3, .int (0 : Int32)), (0, va_rf a0), (1, .int a1), (2, .int a2)]) (by decide) (by first | rfl | (simp [rt_cat, cat_i, cat_l]; done) | (simp [rt_cat, cat_i, cat_l]; decide)) dX10_load_196 ?_
    exact rt_locals (rt_sub [1, 2, 3, 0] rfl) (rX10_load_197 hkr hd hdk zf _ _ _ _ _ _ _ hf)
  rw [if_neg c5] at hf
  refine rt_icmp_ge_n (pc := 144) (x := a3) (z := (((8 : Int32) * a1) + v3)) (tgt := 176) (by decide) dX10_load_144 c5 ?_
  refine rt_aload_n (pc := 147) (k0 := 0) (x := a0) 0 rfl dX10_load_147 ?_
  refine rt_iload_n (pc := 148) (k0 := 2) (x := a2) 2 rfl dX10_load_148 ?_
  refine rt_aload_n (pc := 149) (k0 := 0) (x := a0) 0 rfl dX10_load_149 ?_
  obtain ⟨v18, e19, hf⟩ := ob1 hf
  refine rt_gr (pc := 150) fd_X10_222 dX10_load_150 e19 ?_
  refine rt_iload_n (pc := 153) (k0 := 3) (x := a3) 3 rfl dX10_load_153 ?_
  obtain ⟨v20, e21, hf⟩ := ob1 hf
  refine rt_iald (pc := 154) dX10_load_154 e21 ?_
  refine rt_aload_n (pc := 155) (k0 := 0) (x := a0) 0 rfl dX10_load_155 ?_
  obtain ⟨v22, e23, hf⟩ := ob1 hf
  refine rt_gr (pc := 156) fd_X10_225 dX10_load_156 e23 ?_
  refine rt_iload_n (pc := 159) (k0 := 3) (x := a3) 3 rfl dX10_load_159 ?_
  obtain ⟨v24, e25, hf⟩ := ob1 hf
  refine rt_lald (pc := 160) dX10_load_160 e25 ?_
  refine rt_aload_n (pc := 161) (k0 := 0) (x := a0) 0 rfl dX10_load_161 ?_
  obtain ⟨v26, e27, hf⟩ := ob1 hf
  refine rt_gr (pc := 162) fd_X10_228 dX10_load_162 e27 ?_
  refine rt_iload_n (pc := 165) (k0 := 3) (x := a3) 3 rfl dX10_load_165 ?_
  obtain ⟨v28, e29, hf⟩ := ob1 hf
  refine rt_lald (pc := 166) dX10_load_166 e29 ?_
  obtain ⟨w31, e30, hf⟩ := ob1 hf
  have g32 := sX10_letter d (by omega) e30
  refine rt_callV (pc := 167) (As := [.int a2, .int v20, .long v24, .long v28]) (st := []) me_X10_letter mi_X10_letter wl_X10_303 dX10_load_167 rfl (by decide) rfl g32.1 g32.2 ?_
  refine rt_iinc (pc := 170) (i := 3) (n := 1) (x := a3) (v := (a3 + 1)) (l2 := [(3, .int (a3 + 1)), (0, va_rf a0), (1, .int a1), (2, .int a2)]) 3 rfl rfl (by decide) (by first | rfl | (simp [rt_cat, cat_i, cat_l]; done) | (simp [rt_cat, cat_i, cat_l]; decide)) dX10_load_170 ?_
  refine rt_goto (pc := 173) (tgt := 132) (by decide) dX10_load_173 ?_
  exact rt_locals (rt_sub [1, 2, 3, 0] rfl) (ih _ _ _ _ _ _ _ hf)
noncomputable def bX10_load_0 (E : ah_E) (kr : Option Nat → Int32 → ah_H → Option (Int32 × ah_H)) (a0 : Option Nat) (a1 : Int32) (h : ah_H) : Option (Int32 × ah_H) :=
  (hp_gr h a0 11 52).bind fun v1 =>
  (hp_ldb h v1 a1).bind fun v3 =>
  ob2 (fX10_page E a0 v3 h) fun v7 w6 =>
  (hp_gr w6 a0 11 27).bind fun v9 =>
  (hp_sti w6 v9 v7 a1).bind fun w11 =>
  (hp_gr w11 a0 11 52).bind fun v13 =>
  (hp_ldb w11 v13 a1).bind fun v15 =>
  if v15 = 0 then
    bX10_load_132 E kr zf a0 a1 v7 ((8 : Int32) * a1) w11
  else
  bX10_load_35 E kr zf a0 a1 v7 (-1 : Int32) ((6 : Int32) * a1) w11
set_option maxRecDepth 20000 in
set_option maxHeartbeats 4000000 in
theorem rX10_load_0 {X : ah_X} {d : Nat} {dk : Nat} {kr : Option Nat → Int32 → ah_H → Option (Int32 × ah_H)} (hkr : ∀ (d : Nat), dk ≤ d → ∀ (x0 : Option Nat) (x1 : Int32) (h : ah_H) (r : Int32) (h2 : ah_H), kr x0 x1 h = some (r, h2) → hp_rcv h x0 11 = true ∧ Rn X yX10_load cX10_load 6 (some .int) d [va_rf x0, .int x1] h (some (.int r)) h2) (hd : 1 ≤ d) (hdk : dk + 0 ≤ d) {a0 : Option Nat} {a1 : Int32} {h : ah_H} {r : Int32} {h2 : ah_H} (hf : bX10_load_0 X.2.2.2 kr a0 a1 h = some (r, h2)) : Rt X yX10_load cX10_load 6 (d + 1) 0 [(0, va_rf a0), (1, .int a1)] [] h (some (.int r)) h2 := by
  unfold bX10_load_0 at hf
  refine rt_aload_n (pc := 0) (k0 := 0) (x := a0) 0 rfl dX10_load_0 ?_
  refine rt_aload_n (pc := 1) (k0 := 0) (x := a0) 0 rfl dX10_load_1 ?_
  obtain ⟨v1, e2, hf⟩ := ob1 hf
  refine rt_gr (pc := 2) fd_X10_200 dX10_load_2 e2 ?_
  refine rt_iload_n (pc := 5) (k0 := 1) (x := a1) 1 rfl dX10_load_5 ?_
  obtain ⟨v3, e4, hf⟩ := ob1 hf
  refine rt_bald (pc := 6) dX10_load_6 e4 ?_
  obtain ⟨v7, w6, e5, hf⟩ := ob2_of hf
  have g8 := sX10_page d (by omega) e5
  refine rt_callV (pc := 7) (As := [.int v3]) (st := []) me_X10_page mi_X10_page wl_X10_273 dX10_load_7 rfl (by decide) rfl g8.1 g8.2 ?_
  refine rt_istore_n (pc := 10) (k0 := 2) (x := v7) (l2 := [(2, .int v7), (0, va_rf a0), (1, .int a1)]) (by decide) (by first | rfl | (simp [rt_cat, cat_i, cat_l]; done) | (simp [rt_cat, cat_i, cat_l]; decide)) dX10_load_10 ?_
  refine rt_aload_n (pc := 11) (k0 := 0) (x := a0) 1 rfl dX10_load_11 ?_
  obtain ⟨v9, e10, hf⟩ := ob1 hf
  refine rt_gr (pc := 12) fd_X10_148 dX10_load_12 e10 ?_
  refine rt_iload_n (pc := 15) (k0 := 2) (x := v7) 0 rfl dX10_load_15 ?_
  refine rt_iload_n (pc := 16) (k0 := 1) (x := a1) 2 rfl dX10_load_16 ?_
  obtain ⟨w11, e12, hf⟩ := ob1 hf
  refine rt_iast (pc := 17) dX10_load_17 e12 ?_
  refine rt_aload_n (pc := 18) (k0 := 0) (x := a0) 1 rfl dX10_load_18 ?_
  obtain ⟨v13, e14, hf⟩ := ob1 hf
  refine rt_gr (pc := 19) fd_X10_200 dX10_load_19 e14 ?_
  refine rt_iload_n (pc := 22) (k0 := 1) (x := a1) 2 rfl dX10_load_22 ?_
  obtain ⟨v15, e16, hf⟩ := ob1 hf
  refine rt_bald (pc := 23) dX10_load_23 e16 ?_
  by_cases c17 : v15 = 0
  · rw [if_pos c17] at hf
    refine rt_if_eq_p (pc := 24) (x := v15) (tgt := 127) (by decide) dX10_load_24 c17 ?_
    refine rt_bipush (pc := 127) (n := 8) (v := (8 : Int32)) (by decide) dX10_load_127 ?_
    refine rt_iload_n (pc := 129) (k0 := 1) (x := a1) 2 rfl dX10_load_129 ?_
    refine rt_imul (pc := 130) (x := (8 : Int32)) (z := a1) dX10_load_130 ?_
    refine rt_istore_n (pc := 131) (k0 := 3) (x := ((8 : Int32) * a1)) (l2 := [(3, .int ((8 : Int32) * a1)), (2, .int v7), (0, va_rf a0), (1, .int a1)]) (by decide) (by first | rfl | (simp [rt_cat, cat_i, cat_l]; done) | (simp [rt_cat, cat_i, cat_l]; decide)) dX10_load_131 ?_
    exact rt_locals (rt_sub [2, 3, 1, 0] rfl) (rX10_load_132 hkr hd hdk zf _ _ _ _ _ _ _ hf)
  rw [if_neg c17] at hf
  refine rt_if_eq_n (pc := 24) (x := v15) (tgt := 127) (by decide) dX10_load_24 c17 ?_
  refine rt_iconst (pc := 27) (n := -1) (v := (-1 : Int32)) (by decide) dX10_load_27 ?_
  refine rt_istore_n (pc := 28) (k0 := 3) (x := (-1 : Int32)) (l2 := [(3, .int (-1 : Int32)), (2, .int v7), (0, va_rf a0), (1, .int a1)]) (by decide) (by first | rfl | (simp [rt_cat, cat_i, cat_l]; done) | (simp [rt_cat, cat_i, cat_l]; decide)) dX10_load_28 ?_
  refine rt_bipush (pc := 29) (n := 6) (v := (6 : Int32)) (by decide) dX10_load_29 ?_
  refine rt_iload_n (pc := 31) (k0 := 1) (x := a1) 3 rfl dX10_load_31 ?_
  refine rt_imul (pc := 32) (x := (6 : Int32)) (z := a1) dX10_load_32 ?_
  refine rt_istore (pc := 33) (i := 4) (x := ((6 : Int32) * a1)) (l2 := [(4, .int ((6 : Int32) * a1)), (3, .int (-1 : Int32)), (2, .int v7), (0, va_rf a0), (1, .int a1)]) (by decide) (by first | rfl | (simp [rt_cat, cat_i, cat_l]; done) | (simp [rt_cat, cat_i, cat_l]; decide)) dX10_load_33 ?_
  exact rt_locals (rt_sub [3, 4, 2, 1, 0] rfl) (rX10_load_35 hkr hd hdk zf _ _ _ _ _ _ _ _ hf)
noncomputable def gX10_load (E : ah_E) (kr : Option Nat → Int32 → ah_H → Option (Int32 × ah_H)) (a0 : Option Nat) (a1 : Int32) (h : ah_H) : Option (Int32 × ah_H) := if hp_rcv h a0 11 = false then none else bX10_load_0 E kr a0 a1 h
set_option maxRecDepth 20000 in
set_option maxHeartbeats 4000000 in
theorem tX10_load {X : ah_X} {dk : Nat} {kr : Option Nat → Int32 → ah_H → Option (Int32 × ah_H)} (hkr : ∀ (d : Nat), dk ≤ d → ∀ (x0 : Option Nat) (x1 : Int32) (h : ah_H) (r : Int32) (h2 : ah_H), kr x0 x1 h = some (r, h2) → hp_rcv h x0 11 = true ∧ Rn X yX10_load cX10_load 6 (some .int) d [va_rf x0, .int x1] h (some (.int r)) h2) (d : Nat) (hdk : dk + 1 ≤ d) (hd : 2 ≤ d) {a0 : Option Nat} {a1 : Int32} {h : ah_H} {r : Int32} {h2 : ah_H} (hf : gX10_load X.2.2.2 kr a0 a1 h = some (r, h2)) : hp_rcv h a0 11 = true ∧ Rn X yX10_load cX10_load 6 (some .int) d [va_rf a0, .int a1] h (some (.int r)) h2 := by
  unfold gX10_load at hf
  by_cases c0 : hp_rcv h a0 11 = false
  · rw [if_pos c0] at hf; cases hf
  rw [if_neg c0] at hf
  refine ⟨(Bool.not_eq_false _).mp c0, ?_⟩
  obtain ⟨d, rfl⟩ : ∃ k, d = k + 1 := ⟨d - 1, by omega⟩
  exact Rn.of2 me_X10_load (by simp [lg_sl, rt_cat, cat_i, cat_l]) (ok_i _) (l := [(0, va_rf a0), (1, .int a1)]) (by simp [lv_args, rt_cat, cat_i, cat_l]) (rX10_load_0 hkr (by omega) (by omega) hf)
noncomputable def fX10_load (E : ah_E) : Nat → Option Nat → Int32 → ah_H → Option (Int32 × ah_H)
  | 0 => fun _ _ _ => none
  | n + 1 => fun a0 a1 h => gX10_load E (fX10_load E n) a0 a1 h
set_option maxRecDepth 20000 in
set_option maxHeartbeats 4000000 in
theorem sX10_load {X : ah_X} (n : Nat) : ∀ (d : Nat), 2 + 1 * n ≤ d → ∀ (a0 : Option Nat) (a1 : Int32) (h : ah_H) (r : Int32) (h2 : ah_H), fX10_load X.2.2.2 n a0 a1 h = some (r, h2) → hp_rcv h a0 11 = true ∧ Rn X yX10_load cX10_load 6 (some .int) d [va_rf a0, .int a1] h (some (.int r)) h2 := by
  induction n with
  | zero => intro d hd a0 a1 h r h2 hf; cases hf
  | succ n ih =>
    intro d hd a0 a1 h r h2 hf
    exact tX10_load (dk := 2 + 1 * n) ih d (by omega) (by omega) hf
noncomputable def bX10_read_53 (E : ah_E) (kr : Option Nat → Int32 → ah_H → Option ah_H) (k16 : Option Nat → Int32 → ah_H → Option ah_H) : Nat → Option Nat → Int32 → Int32 → ah_H → Option ah_H
  | 0 => fun _ _ _ _ => none
  | n + 1 => fun a0 a2 a3 h =>
  if (20 : Int32) ≤ a3 then
    (hp_gi h a0 11 6).bind fun v2 =>
    (hp_pv h a0 11 6 (.int (v2 + (1 : Int32)))).bind fun w4 =>
    (hp_gr w4 a0 11 34).bind fun v6 =>
    (hp_ldi w4 v6 a2).bind fun v8 =>
    k16 a0 v8 w4
  else
  (hp_gr h a0 11 5).bind fun v10 =>
  (hp_gi h a0 11 6).bind fun v12 =>
  (hp_gr h a0 11 33).bind fun v14 =>
  (hp_ldb h v14 (((20 : Int32) * a2) + a3)).bind fun v16 =>
  (hp_stb h v10 (((20 : Int32) * v12) + a3) v16).bind fun w18 =>
  bX10_read_53 E kr k16 n a0 a2 (a3 + 1) w18
set_option maxRecDepth 20000 in
set_option maxHeartbeats 4000000 in
theorem rX10_read_53 {X : ah_X} {d : Nat} {dk : Nat} {kr : Option Nat → Int32 → ah_H → Option ah_H} (hkr : ∀ (d : Nat), dk ≤ d → ∀ (x0 : Option Nat) (x1 : Int32) (h : ah_H) (h2 : ah_H), kr x0 x1 h = some h2 → hp_rcv h x0 11 = true ∧ Rn X yX10_read cX10_read 5 none d [va_rf x0, .int x1] h none h2) (hd : 2 ≤ d) (hdk : dk + 0 ≤ d) {k16 : Option Nat → Int32 → ah_H → Option ah_H} (hk16 : ∀ (x0 : Option Nat) (x1 : Int32) (h : ah_H) (h2 : ah_H), k16 x0 x1 h = some h2 → Rt X yX10_read cX10_read 5 (d + 1) 16 [(0, va_rf x0), (2, .int x1)] [] h none h2) (n : Nat) : ∀ (a0 : Option Nat) (a2 : Int32) (a3 : Int32) (h : ah_H) (h2 : ah_H), bX10_read_53 X.2.2.2 kr k16 n a0 a2 a3 h = some h2 → Rt X yX10_read cX10_read 5 (d + 1) 53 [(0, va_rf a0), (2, .int a2), (3, .int a3)] [] h none h2 := by
  induction n with
  | zero => intro a0 a2 a3 h h2 hf; cases hf
  | succ n ih =>
  intro a0 a2 a3 h h2 hf
  unfold bX10_read_53 at hf
  refine rt_iload_n (pc := 53) (k0 := 3) (x := a3) 2 rfl dX10_read_53 ?_
  refine rt_bipush (pc := 54) (n := 20) (v := (20 : Int32)) (by decide) dX10_read_54 ?_
  by_cases c1 : (20 : Int32) ≤ a3
  · rw [if_pos c1] at hf
    refine rt_icmp_ge_p (pc := 56) (x := a3) (z := (20 : Int32)) (tgt := 90) (by decide) dX10_read_56 c1 ?_
    refine rt_aload_n (pc := 90) (k0 := 0) (x := a0) 0 rfl dX10_read_90 ?_
    refine rt_dup (pc := 91) (rt_cat _) dX10_read_91 ?_
    obtain ⟨v2, e3, hf⟩ := ob1 hf
    refine rt_gi (pc := 92) fd_X10_16 dX10_read_92 e3 ?_
    refine rt_iconst (pc := 95) (n := 1) (v := (1 : Int32)) (by decide) dX10_read_95 ?_
    refine rt_iadd (pc := 96) (x := v2) (z := (1 : Int32)) dX10_read_96 ?_
    obtain ⟨w4, e5, hf⟩ := ob1 hf
    refine rt_putf (pc := 97) (x := a0) fw_X10_16 (Or.inl rfl) (pf_i _).1 (pf_i _).2 dX10_read_97 e5 ?_
    refine rt_aload_n (pc := 100) (k0 := 0) (x := a0) 0 rfl dX10_read_100 ?_
    obtain ⟨v6, e7, hf⟩ := ob1 hf
    refine rt_gr (pc := 101) fd_X10_164 dX10_read_101 e7 ?_
    refine rt_iload_n (pc := 104) (k0 := 2) (x := a2) 1 rfl dX10_read_104 ?_
    obtain ⟨v8, e9, hf⟩ := ob1 hf
    refine rt_iald (pc := 105) dX10_read_105 e9 ?_
    refine rt_istore_n (pc := 106) (k0 := 2) (x := v8) (l2 := [(2, .int v8), (0, va_rf a0), (3, .int a3)]) (by decide) (by first | rfl | (simp [rt_cat, cat_i, cat_l]; done) | (simp [rt_cat, cat_i, cat_l]; decide)) dX10_read_106 ?_
    refine rt_goto (pc := 107) (tgt := 16) (by decide) dX10_read_107 ?_
    exact rt_locals (rt_sub [1, 0] rfl) (hk16 _ _ _ _ hf)
  rw [if_neg c1] at hf
  refine rt_icmp_ge_n (pc := 56) (x := a3) (z := (20 : Int32)) (tgt := 90) (by decide) dX10_read_56 c1 ?_
  refine rt_aload_n (pc := 59) (k0 := 0) (x := a0) 0 rfl dX10_read_59 ?_
  obtain ⟨v10, e11, hf⟩ := ob1 hf
  refine rt_gr (pc := 60) fd_X10_31 dX10_read_60 e11 ?_
  refine rt_bipush (pc := 63) (n := 20) (v := (20 : Int32)) (by decide) dX10_read_63 ?_
  refine rt_aload_n (pc := 65) (k0 := 0) (x := a0) 0 rfl dX10_read_65 ?_
  obtain ⟨v12, e13, hf⟩ := ob1 hf
  refine rt_gi (pc := 66) fd_X10_16 dX10_read_66 e13 ?_
  refine rt_imul (pc := 69) (x := (20 : Int32)) (z := v12) dX10_read_69 ?_
  refine rt_iload_n (pc := 70) (k0 := 3) (x := a3) 2 rfl dX10_read_70 ?_
  refine rt_iadd (pc := 71) (x := ((20 : Int32) * v12)) (z := a3) dX10_read_71 ?_
  refine rt_aload_n (pc := 72) (k0 := 0) (x := a0) 0 rfl dX10_read_72 ?_
  obtain ⟨v14, e15, hf⟩ := ob1 hf
  refine rt_gr (pc := 73) fd_X10_161 dX10_read_73 e15 ?_
  refine rt_bipush (pc := 76) (n := 20) (v := (20 : Int32)) (by decide) dX10_read_76 ?_
  refine rt_iload_n (pc := 78) (k0 := 2) (x := a2) 1 rfl dX10_read_78 ?_
  refine rt_imul (pc := 79) (x := (20 : Int32)) (z := a2) dX10_read_79 ?_
  refine rt_iload_n (pc := 80) (k0 := 3) (x := a3) 2 rfl dX10_read_80 ?_
  refine rt_iadd (pc := 81) (x := ((20 : Int32) * a2)) (z := a3) dX10_read_81 ?_
  obtain ⟨v16, e17, hf⟩ := ob1 hf
  refine rt_bald (pc := 82) dX10_read_82 e17 ?_
  obtain ⟨w18, e19, hf⟩ := ob1 hf
  refine rt_bast (pc := 83) dX10_read_83 e19 ?_
  refine rt_iinc (pc := 84) (i := 3) (n := 1) (x := a3) (v := (a3 + 1)) (l2 := [(3, .int (a3 + 1)), (0, va_rf a0), (2, .int a2)]) 2 rfl rfl (by decide) (by first | rfl | (simp [rt_cat, cat_i, cat_l]; done) | (simp [rt_cat, cat_i, cat_l]; decide)) dX10_read_84 ?_
  refine rt_goto (pc := 87) (tgt := 53) (by decide) dX10_read_87 ?_
  exact rt_locals (rt_sub [1, 2, 0] rfl) (ih _ _ _ _ _ hf)
noncomputable def bX10_read_16 (E : ah_E) (kr : Option Nat → Int32 → ah_H → Option ah_H) : Nat → Option Nat → Int32 → ah_H → Option ah_H
  | 0 => fun _ _ _ => none
  | n + 1 => fun a0 a2 h =>
  if a2 = (-1 : Int32) then
    some h
  else
  (hp_gr h a0 11 3).bind fun v2 =>
  (hp_gi h a0 11 6).bind fun v4 =>
  (hp_gr h a0 11 31).bind fun v6 =>
  (hp_ldl h v6 a2).bind fun v8 =>
  (hp_stl h v2 v4 v8).bind fun w10 =>
  (hp_gr w10 a0 11 4).bind fun v12 =>
  (hp_gi w10 a0 11 6).bind fun v14 =>
  (hp_gr w10 a0 11 32).bind fun v16 =>
  (hp_ldi w10 v16 a2).bind fun v18 =>
  (hp_sti w10 v12 v14 v18).bind fun w20 =>
  bX10_read_53 E kr (bX10_read_16 E kr n) zf a0 a2 (0 : Int32) w20
set_option maxRecDepth 20000 in
set_option maxHeartbeats 4000000 in
theorem rX10_read_16 {X : ah_X} {d : Nat} {dk : Nat} {kr : Option Nat → Int32 → ah_H → Option ah_H} (hkr : ∀ (d : Nat), dk ≤ d → ∀ (x0 : Option Nat) (x1 : Int32) (h : ah_H) (h2 : ah_H), kr x0 x1 h = some h2 → hp_rcv h x0 11 = true ∧ Rn X yX10_read cX10_read 5 none d [va_rf x0, .int x1] h none h2) (hd : 2 ≤ d) (hdk : dk + 0 ≤ d) (n : Nat) : ∀ (a0 : Option Nat) (a2 : Int32) (h : ah_H) (h2 : ah_H), bX10_read_16 X.2.2.2 kr n a0 a2 h = some h2 → Rt X yX10_read cX10_read 5 (d + 1) 16 [(0, va_rf a0), (2, .int a2)] [] h none h2 := by
  induction n with
  | zero => intro a0 a2 h h2 hf; cases hf
  | succ n ih =>
  intro a0 a2 h h2 hf
  unfold bX10_read_16 at hf
  refine rt_iload_n (pc := 16) (k0 := 2) (x := a2) 1 rfl dX10_read_16 ?_
  refine rt_iconst (pc := 17) (n := -1) (v := (-1 : Int32)) (by decide) dX10_read_17 ?_
  by_cases c1 : a2 = (-1 : Int32)
  · rw [if_pos c1] at hf
    refine rt_icmp_eq_p (pc := 18) (x := a2) (z := (-1 : Int32)) (tgt := 110) (by decide) dX10_read_18 c1 ?_
    cases hf
    exact rt_ret (pc := 110) dX10_read_110 rfl
  rw [if_neg c1] at hf
  refine rt_icmp_eq_n (pc := 18) (x := a2) (z := (-1 : Int32)) (tgt := 110) (by decide) dX10_read_18 c1 ?_
  refine rt_aload_n (pc := 21) (k0 := 0) (x := a0) 0 rfl dX10_read_21 ?_
  obtain ⟨v2, e3, hf⟩ := ob1 hf
  refine rt_gr (pc := 22) fd_X10_19 dX10_read_22 e3 ?_
  refine rt_aload_n (pc := 25) (k0 := 0) (x := a0) 0 rfl dX10_read_25 ?_
  obtain ⟨v4, e5, hf⟩ := ob1 hf
  refine rt_gi (pc := 26) fd_X10_16 dX10_read_26 e5 ?_
  refine rt_aload_n (pc := 29) (k0 := 0) (x := a0) 0 rfl dX10_read_29 ?_
  obtain ⟨v6, e7, hf⟩ := ob1 hf
  refine rt_gr (pc := 30) fd_X10_154 dX10_read_30 e7 ?_
  refine rt_iload_n (pc := 33) (k0 := 2) (x := a2) 1 rfl dX10_read_33 ?_
  obtain ⟨v8, e9, hf⟩ := ob1 hf
  refine rt_lald (pc := 34) dX10_read_34 e9 ?_
  obtain ⟨w10, e11, hf⟩ := ob1 hf
  refine rt_last (pc := 35) dX10_read_35 e11 ?_
  refine rt_aload_n (pc := 36) (k0 := 0) (x := a0) 0 rfl dX10_read_36 ?_
  obtain ⟨v12, e13, hf⟩ := ob1 hf
  refine rt_gr (pc := 37) fd_X10_27 dX10_read_37 e13 ?_
  refine rt_aload_n (pc := 40) (k0 := 0) (x := a0) 0 rfl dX10_read_40 ?_
  obtain ⟨v14, e15, hf⟩ := ob1 hf
  refine rt_gi (pc := 41) fd_X10_16 dX10_read_41 e15 ?_
  refine rt_aload_n (pc := 44) (k0 := 0) (x := a0) 0 rfl dX10_read_44 ?_
  obtain ⟨v16, e17, hf⟩ := ob1 hf
  refine rt_gr (pc := 45) fd_X10_157 dX10_read_45 e17 ?_
  refine rt_iload_n (pc := 48) (k0 := 2) (x := a2) 1 rfl dX10_read_48 ?_
  obtain ⟨v18, e19, hf⟩ := ob1 hf
  refine rt_iald (pc := 49) dX10_read_49 e19 ?_
  obtain ⟨w20, e21, hf⟩ := ob1 hf
  refine rt_iast (pc := 50) dX10_read_50 e21 ?_
  refine rt_iconst (pc := 51) (n := 0) (v := (0 : Int32)) (by decide) dX10_read_51 ?_
  refine rt_istore_n (pc := 52) (k0 := 3) (x := (0 : Int32)) (l2 := [(3, .int (0 : Int32)), (0, va_rf a0), (2, .int a2)]) (by decide) (by first | rfl | (simp [rt_cat, cat_i, cat_l]; done) | (simp [rt_cat, cat_i, cat_l]; decide)) dX10_read_52 ?_
  exact rt_locals (rt_sub [1, 2, 0] rfl) (rX10_read_53 hkr hd hdk ih zf _ _ _ _ _ hf)
noncomputable def bX10_read_234 (E : ah_E) (kr : Option Nat → Int32 → ah_H → Option ah_H) (k152 : Option Nat → Int32 → ah_H → Option ah_H) (a0 : Option Nat) (a2 : Int32) (h : ah_H) : Option ah_H :=
  (hp_gr h a0 11 39).bind fun v1 =>
  (hp_ldi h v1 a2).bind fun v3 =>
  k152 a0 v3 h
set_option maxRecDepth 20000 in
set_option maxHeartbeats 4000000 in
theorem rX10_read_234 {X : ah_X} {d : Nat} {dk : Nat} {kr : Option Nat → Int32 → ah_H → Option ah_H} (hkr : ∀ (d : Nat), dk ≤ d → ∀ (x0 : Option Nat) (x1 : Int32) (h : ah_H) (h2 : ah_H), kr x0 x1 h = some h2 → hp_rcv h x0 11 = true ∧ Rn X yX10_read cX10_read 5 none d [va_rf x0, .int x1] h none h2) (hd : 2 ≤ d) (hdk : dk + 0 ≤ d) {k152 : Option Nat → Int32 → ah_H → Option ah_H} (hk152 : ∀ (x0 : Option Nat) (x1 : Int32) (h : ah_H) (h2 : ah_H), k152 x0 x1 h = some h2 → Rt X yX10_read cX10_read 5 (d + 1) 152 [(0, va_rf x0), (2, .int x1)] [] h none h2) {a0 : Option Nat} {a2 : Int32} {h : ah_H} {h2 : ah_H} (hf : bX10_read_234 X.2.2.2 kr k152 a0 a2 h = some h2) : Rt X yX10_read cX10_read 5 (d + 1) 234 [(0, va_rf a0), (2, .int a2)] [] h none h2 := by
  unfold bX10_read_234 at hf
  refine rt_aload_n (pc := 234) (k0 := 0) (x := a0) 0 rfl dX10_read_234 ?_
  obtain ⟨v1, e2, hf⟩ := ob1 hf
  refine rt_gr (pc := 235) fd_X10_176 dX10_read_235 e2 ?_
  refine rt_iload_n (pc := 238) (k0 := 2) (x := a2) 1 rfl dX10_read_238 ?_
  obtain ⟨v3, e4, hf⟩ := ob1 hf
  refine rt_iald (pc := 239) dX10_read_239 e4 ?_
  refine rt_istore_n (pc := 240) (k0 := 2) (x := v3) (l2 := [(2, .int v3), (0, va_rf a0)]) (by decide) (by first | rfl | (simp [rt_cat, cat_i, cat_l]; done) | (simp [rt_cat, cat_i, cat_l]; decide)) dX10_read_240 ?_
  refine rt_goto (pc := 241) (tgt := 152) (by decide) dX10_read_241 ?_
  exact rt_locals (rt_sub [1, 0] rfl) (hk152 _ _ _ _ hf)
noncomputable def bX10_read_206 (E : ah_E) (kr : Option Nat → Int32 → ah_H → Option ah_H) (k152 : Option Nat → Int32 → ah_H → Option ah_H) (a0 : Option Nat) (a2 : Int32) (s0 : Int32) (h : ah_H) : Option ah_H :=
  (hp_gr h a0 11 37).bind fun v1 =>
  (hp_ldl h v1 a2).bind fun v3 =>
  ob2 (fX10_place E a0 v3 h) fun v7 w6 =>
  (fX10_shut E a0 v7 s0 w6).bind fun w10 =>
  bX10_read_234 E kr k152 a0 a2 w10
set_option maxRecDepth 20000 in
set_option maxHeartbeats 4000000 in
theorem rX10_read_206 {X : ah_X} {d : Nat} {dk : Nat} {kr : Option Nat → Int32 → ah_H → Option ah_H} (hkr : ∀ (d : Nat), dk ≤ d → ∀ (x0 : Option Nat) (x1 : Int32) (h : ah_H) (h2 : ah_H), kr x0 x1 h = some h2 → hp_rcv h x0 11 = true ∧ Rn X yX10_read cX10_read 5 none d [va_rf x0, .int x1] h none h2) (hd : 2 ≤ d) (hdk : dk + 0 ≤ d) {k152 : Option Nat → Int32 → ah_H → Option ah_H} (hk152 : ∀ (x0 : Option Nat) (x1 : Int32) (h : ah_H) (h2 : ah_H), k152 x0 x1 h = some h2 → Rt X yX10_read cX10_read 5 (d + 1) 152 [(0, va_rf x0), (2, .int x1)] [] h none h2) {a0 : Option Nat} {a2 : Int32} {s0 : Int32} {h : ah_H} {h2 : ah_H} (hf : bX10_read_206 X.2.2.2 kr k152 a0 a2 s0 h = some h2) : Rt X yX10_read cX10_read 5 (d + 1) 206 [(0, va_rf a0), (2, .int a2)] [.int s0] h none h2 := by
  unfold bX10_read_206 at hf
  refine rt_istore (pc := 206) (i := 4) (x := s0) (l2 := [(4, .int s0), (0, va_rf a0), (2, .int a2)]) (by decide) (by first | rfl | (simp [rt_cat, cat_i, cat_l]; done) | (simp [rt_cat, cat_i, cat_l]; decide)) dX10_read_206 ?_
  refine rt_aload_n (pc := 208) (k0 := 0) (x := a0) 1 rfl dX10_read_208 ?_
  refine rt_aload_n (pc := 209) (k0 := 0) (x := a0) 1 rfl dX10_read_209 ?_
  refine rt_aload_n (pc := 210) (k0 := 0) (x := a0) 1 rfl dX10_read_210 ?_
  obtain ⟨v1, e2, hf⟩ := ob1 hf
  refine rt_gr (pc := 211) fd_X10_170 dX10_read_211 e2 ?_
  refine rt_iload_n (pc := 214) (k0 := 2) (x := a2) 2 rfl dX10_read_214 ?_
  obtain ⟨v3, e4, hf⟩ := ob1 hf
  refine rt_lald (pc := 215) dX10_read_215 e4 ?_
  obtain ⟨v7, w6, e5, hf⟩ := ob2_of hf
  have g8 := sX10_place d (by omega) e5
  refine rt_callV (pc := 216) (As := [.long v3]) (st := [va_rf a0]) me_X10_place mi_X10_place wl_X10_72 dX10_read_216 rfl (by simp [rt_cat, cat_i, cat_l]) rfl g8.1 g8.2 ?_
  refine rt_iload (pc := 219) (i := 4) (x := s0) 0 rfl dX10_read_219 ?_
  obtain ⟨w10, e9, hf⟩ := ob1 hf
  have g11 := sX10_shut d (by omega) e9
  refine rt_callV (pc := 221) (As := [.int v7, .int s0]) (st := []) me_X10_shut mi_X10_shut wl_X10_83 dX10_read_221 rfl (by decide) rfl g11.1 g11.2 ?_
  refine rt_goto (pc := 224) (tgt := 234) (by decide) dX10_read_224 ?_
  exact rt_locals (rt_sub [1, 2] rfl) (rX10_read_234 hkr hd hdk hk152 hf)
noncomputable def bX10_read_152 (E : ah_E) (kr : Option Nat → Int32 → ah_H → Option ah_H) : Nat → Option Nat → Int32 → ah_H → Option ah_H
  | 0 => fun _ _ _ => none
  | n + 1 => fun a0 a2 h =>
  if a2 = (-1 : Int32) then
    some h
  else
  (hp_gr h a0 11 36).bind fun v2 =>
  (hp_ldi h v2 a2).bind fun v4 =>
  (hp_gr h a0 11 8).bind fun v6 =>
  (hp_ldi h v6 v4).bind fun v8 =>
  if v8 = (5 : Int32) then
    (hp_gr h a0 11 38).bind fun v11 =>
    (hp_ldl h v11 a2).bind fun v13 =>
    if v13 = (9223372036854775807 : Int64) then
      (hp_gi h a0 11 6).bind fun v16 =>
      bX10_read_206 E kr (bX10_read_152 E kr n) a0 a2 v16 h
    else
    (hp_gr h a0 11 38).bind fun v18 =>
    (hp_ldl h v18 a2).bind fun v20 =>
    ob2 (fX10_place E a0 (v20 + (1 : Int64)) h) fun v24 w23 =>
    bX10_read_206 E kr (bX10_read_152 E kr n) a0 a2 v24 w23
  else
  ob2 (fX10_actsOnMap E a0 v4 h) fun v28 w27 =>
  bX10_read_234 E kr (bX10_read_152 E kr n) a0 a2 w27
set_option maxRecDepth 20000 in
set_option maxHeartbeats 4000000 in
theorem rX10_read_152 {X : ah_X} {d : Nat} {dk : Nat} {kr : Option Nat → Int32 → ah_H → Option ah_H} (hkr : ∀ (d : Nat), dk ≤ d → ∀ (x0 : Option Nat) (x1 : Int32) (h : ah_H) (h2 : ah_H), kr x0 x1 h = some h2 → hp_rcv h x0 11 = true ∧ Rn X yX10_read cX10_read 5 none d [va_rf x0, .int x1] h none h2) (hd : 2 ≤ d) (hdk : dk + 0 ≤ d) (n : Nat) : ∀ (a0 : Option Nat) (a2 : Int32) (h : ah_H) (h2 : ah_H), bX10_read_152 X.2.2.2 kr n a0 a2 h = some h2 → Rt X yX10_read cX10_read 5 (d + 1) 152 [(0, va_rf a0), (2, .int a2)] [] h none h2 := by
  induction n with
  | zero => intro a0 a2 h h2 hf; cases hf
  | succ n ih =>
  intro a0 a2 h h2 hf
  unfold bX10_read_152 at hf
  refine rt_iload_n (pc := 152) (k0 := 2) (x := a2) 1 rfl dX10_read_152 ?_
  refine rt_iconst (pc := 153) (n := -1) (v := (-1 : Int32)) (by decide) dX10_read_153 ?_
  by_cases c1 : a2 = (-1 : Int32)
  · rw [if_pos c1] at hf
    refine rt_icmp_eq_p (pc := 154) (x := a2) (z := (-1 : Int32)) (tgt := 244) (by decide) dX10_read_154 c1 ?_
    cases hf
    exact rt_ret (pc := 244) dX10_read_244 rfl
  rw [if_neg c1] at hf
  refine rt_icmp_eq_n (pc := 154) (x := a2) (z := (-1 : Int32)) (tgt := 244) (by decide) dX10_read_154 c1 ?_
  refine rt_aload_n (pc := 157) (k0 := 0) (x := a0) 0 rfl dX10_read_157 ?_
  obtain ⟨v2, e3, hf⟩ := ob1 hf
  refine rt_gr (pc := 158) fd_X10_167 dX10_read_158 e3 ?_
  refine rt_iload_n (pc := 161) (k0 := 2) (x := a2) 1 rfl dX10_read_161 ?_
  obtain ⟨v4, e5, hf⟩ := ob1 hf
  refine rt_iald (pc := 162) dX10_read_162 e5 ?_
  refine rt_istore_n (pc := 163) (k0 := 3) (x := v4) (l2 := [(3, .int v4), (0, va_rf a0), (2, .int a2)]) (by decide) (by first | rfl | (simp [rt_cat, cat_i, cat_l]; done) | (simp [rt_cat, cat_i, cat_l]; decide)) dX10_read_163 ?_
  refine rt_aload_n (pc := 164) (k0 := 0) (x := a0) 1 rfl dX10_read_164 ?_
  obtain ⟨v6, e7, hf⟩ := ob1 hf
  refine rt_gr (pc := 165) fd_X10_46 dX10_read_165 e7 ?_
  refine rt_iload_n (pc := 168) (k0 := 3) (x := v4) 0 rfl dX10_read_168 ?_
  obtain ⟨v8, e9, hf⟩ := ob1 hf
  refine rt_iald (pc := 169) dX10_read_169 e9 ?_
  refine rt_iconst (pc := 170) (n := 5) (v := (5 : Int32)) (by decide) dX10_read_170 ?_
  by_cases c10 : v8 = (5 : Int32)
  · rw [if_pos c10] at hf
    refine rt_icmp_ne_p (pc := 171) (x := v8) (z := (5 : Int32)) (tgt := 227) (by decide) dX10_read_171 c10 ?_
    refine rt_aload_n (pc := 174) (k0 := 0) (x := a0) 1 rfl dX10_read_174 ?_
    obtain ⟨v11, e12, hf⟩ := ob1 hf
    refine rt_gr (pc := 175) fd_X10_173 dX10_read_175 e12 ?_
    refine rt_iload_n (pc := 178) (k0 := 2) (x := a2) 2 rfl dX10_read_178 ?_
    obtain ⟨v13, e14, hf⟩ := ob1 hf
    refine rt_lald (pc := 179) dX10_read_179 e14 ?_
    refine rt_ldc2 (pc := 180) wj_X10_105 dX10_read_180 ?_
    by_cases c15 : v13 = (9223372036854775807 : Int64)
    · rw [if_pos c15] at hf
      refine rt_lif_ne_p (pc := 183) (x := v13) (z := (9223372036854775807 : Int64)) (tgt := 194) (by decide) dX10_read_183 dX10_read_184 c15 ?_
      refine rt_aload_n (pc := 187) (k0 := 0) (x := a0) 1 rfl dX10_read_187 ?_
      obtain ⟨v16, e17, hf⟩ := ob1 hf
      refine rt_gi (pc := 188) fd_X10_16 dX10_read_188 e17 ?_
      refine rt_goto (pc := 191) (tgt := 206) (by decide) dX10_read_191 ?_
      exact rt_locals (rt_sub [1, 2] rfl) (rX10_read_206 hkr hd hdk ih hf)
    rw [if_neg c15] at hf
    refine rt_lif_ne_n (pc := 183) (x := v13) (z := (9223372036854775807 : Int64)) (tgt := 194) (by decide) dX10_read_183 dX10_read_184 c15 ?_
    refine rt_aload_n (pc := 194) (k0 := 0) (x := a0) 1 rfl dX10_read_194 ?_
    refine rt_aload_n (pc := 195) (k0 := 0) (x := a0) 1 rfl dX10_read_195 ?_
    obtain ⟨v18, e19, hf⟩ := ob1 hf
    refine rt_gr (pc := 196) fd_X10_173 dX10_read_196 e19 ?_
    refine rt_iload_n (pc := 199) (k0 := 2) (x := a2) 2 rfl dX10_read_199 ?_
    obtain ⟨v20, e21, hf⟩ := ob1 hf
    refine rt_lald (pc := 200) dX10_read_200 e21 ?_
    refine rt_lconst (pc := 201) (n := 1) (v := (1 : Int64)) (by decide) dX10_read_201 ?_
    refine rt_ladd (pc := 202) (x := v20) (z := (1 : Int64)) dX10_read_202 ?_
    obtain ⟨v24, w23, e22, hf⟩ := ob2_of hf
    have g25 := sX10_place d (by omega) e22
    refine rt_callV (pc := 203) (As := [.long (v20 + (1 : Int64))]) (st := []) me_X10_place mi_X10_place wl_X10_72 dX10_read_203 rfl (by decide) rfl g25.1 g25.2 ?_
    exact rt_locals (rt_sub [1, 2] rfl) (rX10_read_206 hkr hd hdk ih hf)
  rw [if_neg c10] at hf
  refine rt_icmp_ne_n (pc := 171) (x := v8) (z := (5 : Int32)) (tgt := 227) (by decide) dX10_read_171 c10 ?_
  refine rt_aload_n (pc := 227) (k0 := 0) (x := a0) 1 rfl dX10_read_227 ?_
  refine rt_iload_n (pc := 228) (k0 := 3) (x := v4) 0 rfl dX10_read_228 ?_
  obtain ⟨v28, w27, e26, hf⟩ := ob2_of hf
  have g29 := sX10_actsOnMap d (by omega) e26
  refine rt_callV (pc := 229) (As := [.int v4]) (st := []) me_X10_actsOnMap mi_X10_actsOnMap wl_X10_98 dX10_read_229 rfl (by decide) rfl g29.1 g29.2 ?_
  refine rt_istore (pc := 232) (i := 4) (x := v28) (l2 := [(4, .int v28), (3, .int v4), (0, va_rf a0), (2, .int a2)]) (by decide) (by first | rfl | (simp [rt_cat, cat_i, cat_l]; done) | (simp [rt_cat, cat_i, cat_l]; decide)) dX10_read_232 ?_
  exact rt_locals (rt_sub [2, 3] rfl) (rX10_read_234 hkr hd hdk ih hf)
noncomputable def bX10_read_113 (E : ah_E) (kr : Option Nat → Int32 → ah_H → Option ah_H) : Nat → Option Nat → Int32 → Int32 → ah_H → Option ah_H
  | 0 => fun _ _ _ _ => none
  | n + 1 => fun a0 a1 a2 h =>
  (hp_gr h a0 11 21).bind fun v1 =>
  (hp_ldi h v1 a1).bind fun v3 =>
  if v3 ≤ a2 then
    (hp_gr h a0 11 24).bind fun v6 =>
    (hp_ldi h v6 a1).bind fun v8 =>
    bX10_read_152 E kr zf a0 v8 h
  else
  (hp_gr h a0 11 22).bind fun v10 =>
  (hp_ldi h v10 (((128 : Int32) * a1) + a2)).bind fun v12 =>
  (kr a0 v12 h).bind fun w15 =>
  bX10_read_113 E kr n a0 a1 (a2 + 1) w15
set_option maxRecDepth 20000 in
set_option maxHeartbeats 4000000 in
theorem rX10_read_113 {X : ah_X} {d : Nat} {dk : Nat} {kr : Option Nat → Int32 → ah_H → Option ah_H} (hkr : ∀ (d : Nat), dk ≤ d → ∀ (x0 : Option Nat) (x1 : Int32) (h : ah_H) (h2 : ah_H), kr x0 x1 h = some h2 → hp_rcv h x0 11 = true ∧ Rn X yX10_read cX10_read 5 none d [va_rf x0, .int x1] h none h2) (hd : 2 ≤ d) (hdk : dk + 0 ≤ d) (n : Nat) : ∀ (a0 : Option Nat) (a1 : Int32) (a2 : Int32) (h : ah_H) (h2 : ah_H), bX10_read_113 X.2.2.2 kr n a0 a1 a2 h = some h2 → Rt X yX10_read cX10_read 5 (d + 1) 113 [(0, va_rf a0), (1, .int a1), (2, .int a2)] [] h none h2 := by
  induction n with
  | zero => intro a0 a1 a2 h h2 hf; cases hf
  | succ n ih =>
  intro a0 a1 a2 h h2 hf
  unfold bX10_read_113 at hf
  refine rt_iload_n (pc := 113) (k0 := 2) (x := a2) 2 rfl dX10_read_113 ?_
  refine rt_aload_n (pc := 114) (k0 := 0) (x := a0) 0 rfl dX10_read_114 ?_
  obtain ⟨v1, e2, hf⟩ := ob1 hf
  refine rt_gr (pc := 115) fd_X10_129 dX10_read_115 e2 ?_
  refine rt_iload_n (pc := 118) (k0 := 1) (x := a1) 1 rfl dX10_read_118 ?_
  obtain ⟨v3, e4, hf⟩ := ob1 hf
  refine rt_iald (pc := 119) dX10_read_119 e4 ?_
  by_cases c5 : v3 ≤ a2
  · rw [if_pos c5] at hf
    refine rt_icmp_ge_p (pc := 120) (x := a2) (z := v3) (tgt := 145) (by decide) dX10_read_120 c5 ?_
    refine rt_aload_n (pc := 145) (k0 := 0) (x := a0) 0 rfl dX10_read_145 ?_
    obtain ⟨v6, e7, hf⟩ := ob1 hf
    refine rt_gr (pc := 146) fd_X10_139 dX10_read_146 e7 ?_
    refine rt_iload_n (pc := 149) (k0 := 1) (x := a1) 1 rfl dX10_read_149 ?_
    obtain ⟨v8, e9, hf⟩ := ob1 hf
    refine rt_iald (pc := 150) dX10_read_150 e9 ?_
    refine rt_istore_n (pc := 151) (k0 := 2) (x := v8) (l2 := [(2, .int v8), (0, va_rf a0), (1, .int a1)]) (by decide) (by first | rfl | (simp [rt_cat, cat_i, cat_l]; done) | (simp [rt_cat, cat_i, cat_l]; decide)) dX10_read_151 ?_
    exact rt_locals (rt_sub [1, 0] rfl) (rX10_read_152 hkr hd hdk zf _ _ _ _ hf)
  rw [if_neg c5] at hf
  refine rt_icmp_ge_n (pc := 120) (x := a2) (z := v3) (tgt := 145) (by decide) dX10_read_120 c5 ?_
  refine rt_aload_n (pc := 123) (k0 := 0) (x := a0) 0 rfl dX10_read_123 ?_
  refine rt_aload_n (pc := 124) (k0 := 0) (x := a0) 0 rfl dX10_read_124 ?_
  obtain ⟨v10, e11, hf⟩ := ob1 hf
  refine rt_gr (pc := 125) fd_X10_133 dX10_read_125 e11 ?_
  refine rt_sipush (pc := 128) (n := 128) (v := (128 : Int32)) (by decide) dX10_read_128 ?_
  refine rt_iload_n (pc := 131) (k0 := 1) (x := a1) 1 rfl dX10_read_131 ?_
  refine rt_imul (pc := 132) (x := (128 : Int32)) (z := a1) dX10_read_132 ?_
  refine rt_iload_n (pc := 133) (k0 := 2) (x := a2) 2 rfl dX10_read_133 ?_
  refine rt_iadd (pc := 134) (x := ((128 : Int32) * a1)) (z := a2) dX10_read_134 ?_
  obtain ⟨v12, e13, hf⟩ := ob1 hf
  refine rt_iald (pc := 135) dX10_read_135 e13 ?_
  obtain ⟨w15, e14, hf⟩ := ob1 hf
  have g16 := hkr d (by omega) _ _ _ _ e14
  refine rt_callV (pc := 136) (As := [.int v12]) (st := []) me_X10_read mi_X10_read wl_X10_403 dX10_read_136 rfl (by decide) rfl g16.1 g16.2 ?_
  refine rt_iinc (pc := 139) (i := 2) (n := 1) (x := a2) (v := (a2 + 1)) (l2 := [(2, .int (a2 + 1)), (0, va_rf a0), (1, .int a1)]) 2 rfl rfl (by decide) (by first | rfl | (simp [rt_cat, cat_i, cat_l]; done) | (simp [rt_cat, cat_i, cat_l]; decide)) dX10_read_139 ?_
  refine rt_goto (pc := 142) (tgt := 113) (by decide) dX10_read_142 ?_
  exact rt_locals (rt_sub [1, 2, 0] rfl) (ih _ _ _ _ _ hf)
noncomputable def bX10_read_0 (E : ah_E) (kr : Option Nat → Int32 → ah_H → Option ah_H) (a0 : Option Nat) (a1 : Int32) (h : ah_H) : Option ah_H :=
  (hp_gr h a0 11 18).bind fun v1 =>
  (hp_ldb h v1 a1).bind fun v3 =>
  if v3 = 0 then
    bX10_read_113 E kr zf a0 a1 (0 : Int32) h
  else
  (hp_gr h a0 11 19).bind fun v6 =>
  (hp_ldi h v6 a1).bind fun v8 =>
  bX10_read_16 E kr zf a0 v8 h
set_option maxRecDepth 20000 in
set_option maxHeartbeats 4000000 in
theorem rX10_read_0 {X : ah_X} {d : Nat} {dk : Nat} {kr : Option Nat → Int32 → ah_H → Option ah_H} (hkr : ∀ (d : Nat), dk ≤ d → ∀ (x0 : Option Nat) (x1 : Int32) (h : ah_H) (h2 : ah_H), kr x0 x1 h = some h2 → hp_rcv h x0 11 = true ∧ Rn X yX10_read cX10_read 5 none d [va_rf x0, .int x1] h none h2) (hd : 2 ≤ d) (hdk : dk + 0 ≤ d) {a0 : Option Nat} {a1 : Int32} {h : ah_H} {h2 : ah_H} (hf : bX10_read_0 X.2.2.2 kr a0 a1 h = some h2) : Rt X yX10_read cX10_read 5 (d + 1) 0 [(0, va_rf a0), (1, .int a1)] [] h none h2 := by
  unfold bX10_read_0 at hf
  refine rt_aload_n (pc := 0) (k0 := 0) (x := a0) 0 rfl dX10_read_0 ?_
  obtain ⟨v1, e2, hf⟩ := ob1 hf
  refine rt_gr (pc := 1) fd_X10_119 dX10_read_1 e2 ?_
  refine rt_iload_n (pc := 4) (k0 := 1) (x := a1) 1 rfl dX10_read_4 ?_
  obtain ⟨v3, e4, hf⟩ := ob1 hf
  refine rt_bald (pc := 5) dX10_read_5 e4 ?_
  by_cases c5 : v3 = 0
  · rw [if_pos c5] at hf
    refine rt_if_eq_p (pc := 6) (x := v3) (tgt := 111) (by decide) dX10_read_6 c5 ?_
    refine rt_iconst (pc := 111) (n := 0) (v := (0 : Int32)) (by decide) dX10_read_111 ?_
    refine rt_istore_n (pc := 112) (k0 := 2) (x := (0 : Int32)) (l2 := [(2, .int (0 : Int32)), (0, va_rf a0), (1, .int a1)]) (by decide) (by first | rfl | (simp [rt_cat, cat_i, cat_l]; done) | (simp [rt_cat, cat_i, cat_l]; decide)) dX10_read_112 ?_
    exact rt_locals (rt_sub [1, 2, 0] rfl) (rX10_read_113 hkr hd hdk zf _ _ _ _ _ hf)
  rw [if_neg c5] at hf
  refine rt_if_eq_n (pc := 6) (x := v3) (tgt := 111) (by decide) dX10_read_6 c5 ?_
  refine rt_aload_n (pc := 9) (k0 := 0) (x := a0) 0 rfl dX10_read_9 ?_
  obtain ⟨v6, e7, hf⟩ := ob1 hf
  refine rt_gr (pc := 10) fd_X10_123 dX10_read_10 e7 ?_
  refine rt_iload_n (pc := 13) (k0 := 1) (x := a1) 1 rfl dX10_read_13 ?_
  obtain ⟨v8, e9, hf⟩ := ob1 hf
  refine rt_iald (pc := 14) dX10_read_14 e9 ?_
  refine rt_istore_n (pc := 15) (k0 := 2) (x := v8) (l2 := [(2, .int v8), (0, va_rf a0), (1, .int a1)]) (by decide) (by first | rfl | (simp [rt_cat, cat_i, cat_l]; done) | (simp [rt_cat, cat_i, cat_l]; decide)) dX10_read_15 ?_
  exact rt_locals (rt_sub [1, 0] rfl) (rX10_read_16 hkr hd hdk zf _ _ _ _ hf)
noncomputable def gX10_read (E : ah_E) (kr : Option Nat → Int32 → ah_H → Option ah_H) (a0 : Option Nat) (a1 : Int32) (h : ah_H) : Option ah_H := if hp_rcv h a0 11 = false then none else bX10_read_0 E kr a0 a1 h
set_option maxRecDepth 20000 in
set_option maxHeartbeats 4000000 in
theorem tX10_read {X : ah_X} {dk : Nat} {kr : Option Nat → Int32 → ah_H → Option ah_H} (hkr : ∀ (d : Nat), dk ≤ d → ∀ (x0 : Option Nat) (x1 : Int32) (h : ah_H) (h2 : ah_H), kr x0 x1 h = some h2 → hp_rcv h x0 11 = true ∧ Rn X yX10_read cX10_read 5 none d [va_rf x0, .int x1] h none h2) (d : Nat) (hdk : dk + 1 ≤ d) (hd : 3 ≤ d) {a0 : Option Nat} {a1 : Int32} {h : ah_H} {h2 : ah_H} (hf : gX10_read X.2.2.2 kr a0 a1 h = some h2) : hp_rcv h a0 11 = true ∧ Rn X yX10_read cX10_read 5 none d [va_rf a0, .int a1] h none h2 := by
  unfold gX10_read at hf
  by_cases c0 : hp_rcv h a0 11 = false
  · rw [if_pos c0] at hf; cases hf
  rw [if_neg c0] at hf
  refine ⟨(Bool.not_eq_false _).mp c0, ?_⟩
  obtain ⟨d, rfl⟩ : ∃ k, d = k + 1 := ⟨d - 1, by omega⟩
  exact Rn.of2 me_X10_read (by simp [lg_sl, rt_cat, cat_i, cat_l]) rfl (l := [(0, va_rf a0), (1, .int a1)]) (by simp [lv_args, rt_cat, cat_i, cat_l]) (rX10_read_0 hkr (by omega) (by omega) hf)
noncomputable def fX10_read (E : ah_E) : Nat → Option Nat → Int32 → ah_H → Option ah_H
  | 0 => fun _ _ _ => none
  | n + 1 => fun a0 a1 h => gX10_read E (fX10_read E n) a0 a1 h
set_option maxRecDepth 20000 in
set_option maxHeartbeats 4000000 in
theorem sX10_read {X : ah_X} (n : Nat) : ∀ (d : Nat), 3 + 1 * n ≤ d → ∀ (a0 : Option Nat) (a1 : Int32) (h : ah_H) (h2 : ah_H), fX10_read X.2.2.2 n a0 a1 h = some h2 → hp_rcv h a0 11 = true ∧ Rn X yX10_read cX10_read 5 none d [va_rf a0, .int a1] h none h2 := by
  induction n with
  | zero => intro d hd a0 a1 h h2 hf; cases hf
  | succ n ih =>
    intro d hd a0 a1 h h2 hf
    exact tX10_read (dk := 3 + 1 * n) ih d (by omega) (by omega) hf
noncomputable def bX10_rise_106 (E : ah_E) (k67 : Option Nat → Int32 → Int32 → ah_H → Option (Int32 × ah_H)) (a0 : Option Nat) (a1 : Int32) (a2 : Int32) (h : ah_H) : Option (Int32 × ah_H) :=
  k67 a0 a1 (a2 + 1) h
set_option maxRecDepth 20000 in
set_option maxHeartbeats 4000000 in
theorem rX10_rise_106 {X : ah_X} {d : Nat} (hd : 48 ≤ d) {k67 : Option Nat → Int32 → Int32 → ah_H → Option (Int32 × ah_H)} (hk67 : ∀ (x0 : Option Nat) (x1 : Int32) (x2 : Int32) (h : ah_H) (r : Int32) (h2 : ah_H), k67 x0 x1 x2 h = some (r, h2) → Rt X yX10_rise cX10_rise 3 (d + 1) 67 [(0, va_rf x0), (1, .int x1), (2, .int x2)] [] h (some (.int r)) h2) {a0 : Option Nat} {a1 : Int32} {a2 : Int32} {h : ah_H} {r : Int32} {h2 : ah_H} (hf : bX10_rise_106 X.2.2.2 k67 a0 a1 a2 h = some (r, h2)) : Rt X yX10_rise cX10_rise 3 (d + 1) 106 [(0, va_rf a0), (1, .int a1), (2, .int a2)] [] h (some (.int r)) h2 := by
  unfold bX10_rise_106 at hf
  refine rt_iinc (pc := 106) (i := 2) (n := 1) (x := a2) (v := (a2 + 1)) (l2 := [(2, .int (a2 + 1)), (0, va_rf a0), (1, .int a1)]) 2 rfl rfl (by decide) (by first | rfl | (simp [rt_cat, cat_i, cat_l]; done) | (simp [rt_cat, cat_i, cat_l]; decide)) dX10_rise_106 ?_
  refine rt_goto (pc := 109) (tgt := 67) (by decide) dX10_rise_109 ?_
  exact rt_locals (rt_sub [1, 2, 0] rfl) (hk67 _ _ _ _ _ _ hf)
noncomputable def bX10_rise_157 (E : ah_E) : Nat → Option Nat → Int32 → Int32 → ah_H → Option (Int32 × ah_H)
  | 0 => fun _ _ _ _ => none
  | n + 1 => fun a0 a1 a2 h =>
  (hp_gi h a0 11 71).bind fun v1 =>
  if v1 ≤ a2 then
    (hp_gr h a0 11 63).bind fun v4 =>
    (hp_ldi h v4 a1).bind fun v6 =>
    ob2 (fX10_load E zd a0 v6 h) fun v10 w9 =>
    (hp_pv w9 a0 11 30 (.int v10)).bind fun w12 =>
    (hp_gi w12 a0 11 30).bind fun v14 =>
    (fX10_read E zd a0 v14 w12).bind fun w17 =>
    (hp_gi w17 a0 11 73).bind fun v19 =>
    some (v19, w17)
  else
  (hp_gr h a0 11 69).bind fun v21 =>
  (hp_gr h a0 11 67).bind fun v23 =>
  (hp_ldi h v23 (((12 : Int32) * a1) + a2)).bind fun v25 =>
  (hp_sti h v21 a2 v25).bind fun w27 =>
  (hp_gr w27 a0 11 70).bind fun v29 =>
  (hp_gr w27 a0 11 68).bind fun v31 =>
  (hp_ldi w27 v31 (((12 : Int32) * a1) + a2)).bind fun v33 =>
  (hp_sti w27 v29 a2 v33).bind fun w35 =>
  bX10_rise_157 E n a0 a1 (a2 + 1) w35
set_option maxRecDepth 20000 in
set_option maxHeartbeats 4000000 in
theorem rX10_rise_157 {X : ah_X} {d : Nat} (hd : 48 ≤ d) (n : Nat) : ∀ (a0 : Option Nat) (a1 : Int32) (a2 : Int32) (h : ah_H) (r : Int32) (h2 : ah_H), bX10_rise_157 X.2.2.2 n a0 a1 a2 h = some (r, h2) → Rt X yX10_rise cX10_rise 3 (d + 1) 157 [(0, va_rf a0), (1, .int a1), (2, .int a2)] [] h (some (.int r)) h2 := by
  induction n with
  | zero => intro a0 a1 a2 h r h2 hf; cases hf
  | succ n ih =>
  intro a0 a1 a2 h r h2 hf
  unfold bX10_rise_157 at hf
  refine rt_iload_n (pc := 157) (k0 := 2) (x := a2) 2 rfl dX10_rise_157 ?_
  refine rt_aload_n (pc := 158) (k0 := 0) (x := a0) 0 rfl dX10_rise_158 ?_
  obtain ⟨v1, e2, hf⟩ := ob1 hf
  refine rt_gi (pc := 159) fd_X10_363 dX10_rise_159 e2 ?_
  by_cases c3 : v1 ≤ a2
  · rw [if_pos c3] at hf
    refine rt_icmp_ge_p (pc := 162) (x := a2) (z := v1) (tgt := 205) (by decide) dX10_rise_162 c3 ?_
    refine rt_aload_n (pc := 205) (k0 := 0) (x := a0) 0 rfl dX10_rise_205 ?_
    refine rt_aload_n (pc := 206) (k0 := 0) (x := a0) 0 rfl dX10_rise_206 ?_
    refine rt_aload_n (pc := 207) (k0 := 0) (x := a0) 0 rfl dX10_rise_207 ?_
    obtain ⟨v4, e5, hf⟩ := ob1 hf
    refine rt_gr (pc := 208) fd_X10_234 dX10_rise_208 e5 ?_
    refine rt_iload_n (pc := 211) (k0 := 1) (x := a1) 1 rfl dX10_rise_211 ?_
    obtain ⟨v6, e7, hf⟩ := ob1 hf
    refine rt_iald (pc := 212) dX10_rise_212 e7 ?_
    obtain ⟨v10, w9, e8, hf⟩ := ob2_of hf
    have g11 := sX10_load zd d (by unfold zd; omega) _ _ _ _ _ e8
    refine rt_callV (pc := 213) (As := [.int v6]) (st := [va_rf a0]) me_X10_load mi_X10_load wl_X10_400 dX10_rise_213 rfl (by simp [rt_cat, cat_i, cat_l]) rfl g11.1 g11.2 ?_
    obtain ⟨w12, e13, hf⟩ := ob1 hf
    refine rt_putf (pc := 216) (x := a0) fw_X10_277 (Or.inl rfl) (pf_i _).1 (pf_i _).2 dX10_rise_216 e13 ?_
    refine rt_aload_n (pc := 219) (k0 := 0) (x := a0) 0 rfl dX10_rise_219 ?_
    refine rt_aload_n (pc := 220) (k0 := 0) (x := a0) 0 rfl dX10_rise_220 ?_
    obtain ⟨v14, e15, hf⟩ := ob1 hf
    refine rt_gi (pc := 221) fd_X10_277 dX10_rise_221 e15 ?_
    obtain ⟨w17, e16, hf⟩ := ob1 hf
    have g18 := sX10_read zd d (by unfold zd; omega) _ _ _ _ e16
    refine rt_callV (pc := 224) (As := [.int v14]) (st := []) me_X10_read mi_X10_read wl_X10_403 dX10_rise_224 rfl (by decide) rfl g18.1 g18.2 ?_
    refine rt_aload_n (pc := 227) (k0 := 0) (x := a0) 0 rfl dX10_rise_227 ?_
    obtain ⟨v19, e20, hf⟩ := ob1 hf
    refine rt_gi (pc := 228) fd_X10_388 dX10_rise_228 e20 ?_
    cases hf
    exact rt_ret (pc := 231) dX10_rise_231 rfl
  rw [if_neg c3] at hf
  refine rt_icmp_ge_n (pc := 162) (x := a2) (z := v1) (tgt := 205) (by decide) dX10_rise_162 c3 ?_
  refine rt_aload_n (pc := 165) (k0 := 0) (x := a0) 0 rfl dX10_rise_165 ?_
  obtain ⟨v21, e22, hf⟩ := ob1 hf
  refine rt_gr (pc := 166) fd_X10_252 dX10_rise_166 e22 ?_
  refine rt_iload_n (pc := 169) (k0 := 2) (x := a2) 2 rfl dX10_rise_169 ?_
  refine rt_aload_n (pc := 170) (k0 := 0) (x := a0) 0 rfl dX10_rise_170 ?_
  obtain ⟨v23, e24, hf⟩ := ob1 hf
  refine rt_gr (pc := 171) fd_X10_246 dX10_rise_171 e24 ?_
  refine rt_bipush (pc := 174) (n := 12) (v := (12 : Int32)) (by decide) dX10_rise_174 ?_
  refine rt_iload_n (pc := 176) (k0 := 1) (x := a1) 1 rfl dX10_rise_176 ?_
  refine rt_imul (pc := 177) (x := (12 : Int32)) (z := a1) dX10_rise_177 ?_
  refine rt_iload_n (pc := 178) (k0 := 2) (x := a2) 2 rfl dX10_rise_178 ?_
  refine rt_iadd (pc := 179) (x := ((12 : Int32) * a1)) (z := a2) dX10_rise_179 ?_
  obtain ⟨v25, e26, hf⟩ := ob1 hf
  refine rt_iald (pc := 180) dX10_rise_180 e26 ?_
  obtain ⟨w27, e28, hf⟩ := ob1 hf
  refine rt_iast (pc := 181) dX10_rise_181 e28 ?_
  refine rt_aload_n (pc := 182) (k0 := 0) (x := a0) 0 rfl dX10_rise_182 ?_
  obtain ⟨v29, e30, hf⟩ := ob1 hf
  refine rt_gr (pc := 183) fd_X10_255 dX10_rise_183 e30 ?_
  refine rt_iload_n (pc := 186) (k0 := 2) (x := a2) 2 rfl dX10_rise_186 ?_
  refine rt_aload_n (pc := 187) (k0 := 0) (x := a0) 0 rfl dX10_rise_187 ?_
  obtain ⟨v31, e32, hf⟩ := ob1 hf
  refine rt_gr (pc := 188) fd_X10_249 dX10_rise_188 e32 ?_
  refine rt_bipush (pc := 191) (n := 12) (v := (12 : Int32)) (by decide) dX10_rise_191 ?_
  refine rt_iload_n (pc := 193) (k0 := 1) (x := a1) 1 rfl dX10_rise_193 ?_
  refine rt_imul (pc := 194) (x := (12 : Int32)) (z := a1) dX10_rise_194 ?_
  refine rt_iload_n (pc := 195) (k0 := 2) (x := a2) 2 rfl dX10_rise_195 ?_
  refine rt_iadd (pc := 196) (x := ((12 : Int32) * a1)) (z := a2) dX10_rise_196 ?_
  obtain ⟨v33, e34, hf⟩ := ob1 hf
  refine rt_iald (pc := 197) dX10_rise_197 e34 ?_
  obtain ⟨w35, e36, hf⟩ := ob1 hf
  refine rt_iast (pc := 198) dX10_rise_198 e36 ?_
  refine rt_iinc (pc := 199) (i := 2) (n := 1) (x := a2) (v := (a2 + 1)) (l2 := [(2, .int (a2 + 1)), (0, va_rf a0), (1, .int a1)]) 2 rfl rfl (by decide) (by first | rfl | (simp [rt_cat, cat_i, cat_l]; done) | (simp [rt_cat, cat_i, cat_l]; decide)) dX10_rise_199 ?_
  refine rt_goto (pc := 202) (tgt := 157) (by decide) dX10_rise_202 ?_
  exact rt_locals (rt_sub [1, 2, 0] rfl) (ih _ _ _ _ _ _ hf)
noncomputable def bX10_rise_67 (E : ah_E) : Nat → Option Nat → Int32 → Int32 → ah_H → Option (Int32 × ah_H)
  | 0 => fun _ _ _ _ => none
  | n + 1 => fun a0 a1 a2 h =>
  if (2 : Int32) ≤ a2 then
    (hp_gi h a0 11 73).bind fun v2 =>
    if v2 = 0 then
      (hp_pv h a0 11 15 (.int (0 : Int32))).bind fun w5 =>
      ob2 (fX10_page E a0 (1 : Int32) w5) fun v9 w8 =>
      (hp_pv w8 a0 11 30 (.int v9)).bind fun w11 =>
      some ((0 : Int32), w11)
    else
    (hp_gr h a0 11 64).bind fun v13 =>
    (hp_ldi h v13 a1).bind fun v15 =>
    (hp_pv h a0 11 15 (.int v15)).bind fun w17 =>
    (hp_gr w17 a0 11 65).bind fun v19 =>
    (hp_ldi w17 v19 a1).bind fun v21 =>
    (hp_pv w17 a0 11 71 (.int v21)).bind fun w23 =>
    bX10_rise_157 E zf a0 a1 (0 : Int32) w23
  else
  (hp_gr h a0 11 62).bind fun v25 =>
  (hp_ldi h v25 a2).bind fun v27 =>
  if v27 ≤ 0 then
    bX10_rise_106 E (bX10_rise_67 E n) a0 a1 a2 h
  else
  (hp_gr h a0 11 66).bind fun v30 =>
  (hp_ldi h v30 a2).bind fun v32 =>
  (hp_gi h a0 11 72).bind fun v34 =>
  if v32 < v34 then
    bX10_rise_106 E (bX10_rise_67 E n) a0 a1 a2 h
  else
  (hp_gr h a0 11 66).bind fun v37 =>
  (hp_ldi h v37 a2).bind fun v39 =>
  (hp_pv h a0 11 72 (.int (v39 + (1 : Int32)))).bind fun w41 =>
  bX10_rise_106 E (bX10_rise_67 E n) a0 a1 a2 w41
set_option maxRecDepth 20000 in
set_option maxHeartbeats 4000000 in
theorem rX10_rise_67 {X : ah_X} {d : Nat} (hd : 48 ≤ d) (n : Nat) : ∀ (a0 : Option Nat) (a1 : Int32) (a2 : Int32) (h : ah_H) (r : Int32) (h2 : ah_H), bX10_rise_67 X.2.2.2 n a0 a1 a2 h = some (r, h2) → Rt X yX10_rise cX10_rise 3 (d + 1) 67 [(0, va_rf a0), (1, .int a1), (2, .int a2)] [] h (some (.int r)) h2 := by
  induction n with
  | zero => intro a0 a1 a2 h r h2 hf; cases hf
  | succ n ih =>
  intro a0 a1 a2 h r h2 hf
  unfold bX10_rise_67 at hf
  refine rt_iload_n (pc := 67) (k0 := 2) (x := a2) 2 rfl dX10_rise_67 ?_
  refine rt_iconst (pc := 68) (n := 2) (v := (2 : Int32)) (by decide) dX10_rise_68 ?_
  by_cases c1 : (2 : Int32) ≤ a2
  · rw [if_pos c1] at hf
    refine rt_icmp_ge_p (pc := 69) (x := a2) (z := (2 : Int32)) (tgt := 112) (by decide) dX10_rise_69 c1 ?_
    refine rt_aload_n (pc := 112) (k0 := 0) (x := a0) 0 rfl dX10_rise_112 ?_
    obtain ⟨v2, e3, hf⟩ := ob1 hf
    refine rt_gi (pc := 113) fd_X10_388 dX10_rise_113 e3 ?_
    by_cases c4 : v2 = 0
    · rw [if_pos c4] at hf
      refine rt_if_ne_p (pc := 116) (x := v2) (tgt := 135) (by decide) dX10_rise_116 c4 ?_
      refine rt_aload_n (pc := 119) (k0 := 0) (x := a0) 0 rfl dX10_rise_119 ?_
      refine rt_iconst (pc := 120) (n := 0) (v := (0 : Int32)) (by decide) dX10_rise_120 ?_
      obtain ⟨w5, e6, hf⟩ := ob1 hf
      refine rt_putf (pc := 121) (x := a0) fw_X10_63 (Or.inl rfl) (pf_i _).1 (pf_i _).2 dX10_rise_121 e6 ?_
      refine rt_aload_n (pc := 124) (k0 := 0) (x := a0) 0 rfl dX10_rise_124 ?_
      refine rt_aload_n (pc := 125) (k0 := 0) (x := a0) 0 rfl dX10_rise_125 ?_
      refine rt_iconst (pc := 126) (n := 1) (v := (1 : Int32)) (by decide) dX10_rise_126 ?_
      obtain ⟨v9, w8, e7, hf⟩ := ob2_of hf
      have g10 := sX10_page d (by omega) e7
      refine rt_callV (pc := 127) (As := [.int (1 : Int32)]) (st := [va_rf a0]) me_X10_page mi_X10_page wl_X10_273 dX10_rise_127 rfl (by simp [rt_cat, cat_i, cat_l]) rfl g10.1 g10.2 ?_
      obtain ⟨w11, e12, hf⟩ := ob1 hf
      refine rt_putf (pc := 130) (x := a0) fw_X10_277 (Or.inl rfl) (pf_i _).1 (pf_i _).2 dX10_rise_130 e12 ?_
      refine rt_iconst (pc := 133) (n := 0) (v := (0 : Int32)) (by decide) dX10_rise_133 ?_
      cases hf
      exact rt_ret (pc := 134) dX10_rise_134 rfl
    rw [if_neg c4] at hf
    refine rt_if_ne_n (pc := 116) (x := v2) (tgt := 135) (by decide) dX10_rise_116 c4 ?_
    refine rt_aload_n (pc := 135) (k0 := 0) (x := a0) 0 rfl dX10_rise_135 ?_
    refine rt_aload_n (pc := 136) (k0 := 0) (x := a0) 0 rfl dX10_rise_136 ?_
    obtain ⟨v13, e14, hf⟩ := ob1 hf
    refine rt_gr (pc := 137) fd_X10_237 dX10_rise_137 e14 ?_
    refine rt_iload_n (pc := 140) (k0 := 1) (x := a1) 1 rfl dX10_rise_140 ?_
    obtain ⟨v15, e16, hf⟩ := ob1 hf
    refine rt_iald (pc := 141) dX10_rise_141 e16 ?_
    obtain ⟨w17, e18, hf⟩ := ob1 hf
    refine rt_putf (pc := 142) (x := a0) fw_X10_63 (Or.inl rfl) (pf_i _).1 (pf_i _).2 dX10_rise_142 e18 ?_
    refine rt_aload_n (pc := 145) (k0 := 0) (x := a0) 0 rfl dX10_rise_145 ?_
    refine rt_aload_n (pc := 146) (k0 := 0) (x := a0) 0 rfl dX10_rise_146 ?_
    obtain ⟨v19, e20, hf⟩ := ob1 hf
    refine rt_gr (pc := 147) fd_X10_240 dX10_rise_147 e20 ?_
    refine rt_iload_n (pc := 150) (k0 := 1) (x := a1) 1 rfl dX10_rise_150 ?_
    obtain ⟨v21, e22, hf⟩ := ob1 hf
    refine rt_iald (pc := 151) dX10_rise_151 e22 ?_
    obtain ⟨w23, e24, hf⟩ := ob1 hf
    refine rt_putf (pc := 152) (x := a0) fw_X10_363 (Or.inl rfl) (pf_i _).1 (pf_i _).2 dX10_rise_152 e24 ?_
    refine rt_iconst (pc := 155) (n := 0) (v := (0 : Int32)) (by decide) dX10_rise_155 ?_
    refine rt_istore_n (pc := 156) (k0 := 2) (x := (0 : Int32)) (l2 := [(2, .int (0 : Int32)), (0, va_rf a0), (1, .int a1)]) (by decide) (by first | rfl | (simp [rt_cat, cat_i, cat_l]; done) | (simp [rt_cat, cat_i, cat_l]; decide)) dX10_rise_156 ?_
    exact rt_locals (rt_sub [1, 2, 0] rfl) (rX10_rise_157 hd zf _ _ _ _ _ _ hf)
  rw [if_neg c1] at hf
  refine rt_icmp_ge_n (pc := 69) (x := a2) (z := (2 : Int32)) (tgt := 112) (by decide) dX10_rise_69 c1 ?_
  refine rt_aload_n (pc := 72) (k0 := 0) (x := a0) 0 rfl dX10_rise_72 ?_
  obtain ⟨v25, e26, hf⟩ := ob1 hf
  refine rt_gr (pc := 73) fd_X10_231 dX10_rise_73 e26 ?_
  refine rt_iload_n (pc := 76) (k0 := 2) (x := a2) 2 rfl dX10_rise_76 ?_
  obtain ⟨v27, e28, hf⟩ := ob1 hf
  refine rt_iald (pc := 77) dX10_rise_77 e28 ?_
  by_cases c29 : v27 ≤ 0
  · rw [if_pos c29] at hf
    refine rt_if_le_p (pc := 78) (x := v27) (tgt := 106) (by decide) dX10_rise_78 c29 ?_
    exact rX10_rise_106 hd ih hf
  rw [if_neg c29] at hf
  refine rt_if_le_n (pc := 78) (x := v27) (tgt := 106) (by decide) dX10_rise_78 c29 ?_
  refine rt_aload_n (pc := 81) (k0 := 0) (x := a0) 0 rfl dX10_rise_81 ?_
  obtain ⟨v30, e31, hf⟩ := ob1 hf
  refine rt_gr (pc := 82) fd_X10_243 dX10_rise_82 e31 ?_
  refine rt_iload_n (pc := 85) (k0 := 2) (x := a2) 2 rfl dX10_rise_85 ?_
  obtain ⟨v32, e33, hf⟩ := ob1 hf
  refine rt_iald (pc := 86) dX10_rise_86 e33 ?_
  refine rt_aload_n (pc := 87) (k0 := 0) (x := a0) 0 rfl dX10_rise_87 ?_
  obtain ⟨v34, e35, hf⟩ := ob1 hf
  refine rt_gi (pc := 88) fd_X10_258 dX10_rise_88 e35 ?_
  by_cases c36 : v32 < v34
  · rw [if_pos c36] at hf
    refine rt_icmp_lt_p (pc := 91) (x := v32) (z := v34) (tgt := 106) (by decide) dX10_rise_91 c36 ?_
    exact rX10_rise_106 hd ih hf
  rw [if_neg c36] at hf
  refine rt_icmp_lt_n (pc := 91) (x := v32) (z := v34) (tgt := 106) (by decide) dX10_rise_91 c36 ?_
  refine rt_aload_n (pc := 94) (k0 := 0) (x := a0) 0 rfl dX10_rise_94 ?_
  refine rt_aload_n (pc := 95) (k0 := 0) (x := a0) 0 rfl dX10_rise_95 ?_
  obtain ⟨v37, e38, hf⟩ := ob1 hf
  refine rt_gr (pc := 96) fd_X10_243 dX10_rise_96 e38 ?_
  refine rt_iload_n (pc := 99) (k0 := 2) (x := a2) 2 rfl dX10_rise_99 ?_
  obtain ⟨v39, e40, hf⟩ := ob1 hf
  refine rt_iald (pc := 100) dX10_rise_100 e40 ?_
  refine rt_iconst (pc := 101) (n := 1) (v := (1 : Int32)) (by decide) dX10_rise_101 ?_
  refine rt_iadd (pc := 102) (x := v39) (z := (1 : Int32)) dX10_rise_102 ?_
  obtain ⟨w41, e42, hf⟩ := ob1 hf
  refine rt_putf (pc := 103) (x := a0) fw_X10_258 (Or.inl rfl) (pf_i _).1 (pf_i _).2 dX10_rise_103 e42 ?_
  exact rX10_rise_106 hd ih hf
noncomputable def bX10_rise_49 (E : ah_E) (a0 : Option Nat) (s0 : Int32) (h : ah_H) : Option (Int32 × ah_H) :=
  (hp_gr h a0 11 62).bind fun v1 =>
  (hp_ldi h v1 s0).bind fun v3 =>
  (hp_pv h a0 11 73 (.int v3)).bind fun w5 =>
  (hp_pv w5 a0 11 72 (.int (1 : Int32))).bind fun w7 =>
  bX10_rise_67 E zf a0 s0 (0 : Int32) w7
set_option maxRecDepth 20000 in
set_option maxHeartbeats 4000000 in
theorem rX10_rise_49 {X : ah_X} {d : Nat} (hd : 48 ≤ d) {a0 : Option Nat} {s0 : Int32} {h : ah_H} {r : Int32} {h2 : ah_H} (hf : bX10_rise_49 X.2.2.2 a0 s0 h = some (r, h2)) : Rt X yX10_rise cX10_rise 3 (d + 1) 49 [(0, va_rf a0)] [.int s0] h (some (.int r)) h2 := by
  unfold bX10_rise_49 at hf
  refine rt_istore_n (pc := 49) (k0 := 1) (x := s0) (l2 := [(1, .int s0), (0, va_rf a0)]) (by decide) (by first | rfl | (simp [rt_cat, cat_i, cat_l]; done) | (simp [rt_cat, cat_i, cat_l]; decide)) dX10_rise_49 ?_
  refine rt_aload_n (pc := 50) (k0 := 0) (x := a0) 1 rfl dX10_rise_50 ?_
  refine rt_aload_n (pc := 51) (k0 := 0) (x := a0) 1 rfl dX10_rise_51 ?_
  obtain ⟨v1, e2, hf⟩ := ob1 hf
  refine rt_gr (pc := 52) fd_X10_231 dX10_rise_52 e2 ?_
  refine rt_iload_n (pc := 55) (k0 := 1) (x := s0) 0 rfl dX10_rise_55 ?_
  obtain ⟨v3, e4, hf⟩ := ob1 hf
  refine rt_iald (pc := 56) dX10_rise_56 e4 ?_
  obtain ⟨w5, e6, hf⟩ := ob1 hf
  refine rt_putf (pc := 57) (x := a0) fw_X10_388 (Or.inl rfl) (pf_i _).1 (pf_i _).2 dX10_rise_57 e6 ?_
  refine rt_aload_n (pc := 60) (k0 := 0) (x := a0) 1 rfl dX10_rise_60 ?_
  refine rt_iconst (pc := 61) (n := 1) (v := (1 : Int32)) (by decide) dX10_rise_61 ?_
  obtain ⟨w7, e8, hf⟩ := ob1 hf
  refine rt_putf (pc := 62) (x := a0) fw_X10_258 (Or.inl rfl) (pf_i _).1 (pf_i _).2 dX10_rise_62 e8 ?_
  refine rt_iconst (pc := 65) (n := 0) (v := (0 : Int32)) (by decide) dX10_rise_65 ?_
  refine rt_istore_n (pc := 66) (k0 := 2) (x := (0 : Int32)) (l2 := [(2, .int (0 : Int32)), (1, .int s0), (0, va_rf a0)]) (by decide) (by first | rfl | (simp [rt_cat, cat_i, cat_l]; done) | (simp [rt_cat, cat_i, cat_l]; decide)) dX10_rise_66 ?_
  exact rt_locals (rt_sub [2, 1, 0] rfl) (rX10_rise_67 hd zf _ _ _ _ _ _ hf)
noncomputable def bX10_rise_0 (E : ah_E) (a0 : Option Nat) (h : ah_H) : Option (Int32 × ah_H) :=
  (hp_gi h a0 11 51).bind fun v1 =>
  if v1 = 0 then
    some ((-2 : Int32), h)
  else
  (hp_pv h a0 11 51 (.int (0 : Int32))).bind fun w4 =>
  (fX10_clearPages E a0 w4).bind fun w7 =>
  (hp_pv w7 a0 11 6 (.int (0 : Int32))).bind fun w9 =>
  (hp_pv w9 a0 11 71 (.int (0 : Int32))).bind fun w11 =>
  (hp_gr w11 a0 11 62).bind fun v13 =>
  (hp_ldi w11 v13 (1 : Int32)).bind fun v15 =>
  (hp_gr w11 a0 11 62).bind fun v17 =>
  (hp_ldi w11 v17 (0 : Int32)).bind fun v19 =>
  if v15 ≤ v19 then
    bX10_rise_49 E a0 (0 : Int32) w11
  else
  bX10_rise_49 E a0 (1 : Int32) w11
set_option maxRecDepth 20000 in
set_option maxHeartbeats 4000000 in
theorem rX10_rise_0 {X : ah_X} {d : Nat} (hd : 48 ≤ d) {a0 : Option Nat} {h : ah_H} {r : Int32} {h2 : ah_H} (hf : bX10_rise_0 X.2.2.2 a0 h = some (r, h2)) : Rt X yX10_rise cX10_rise 3 (d + 1) 0 [(0, va_rf a0)] [] h (some (.int r)) h2 := by
  unfold bX10_rise_0 at hf
  refine rt_aload_n (pc := 0) (k0 := 0) (x := a0) 0 rfl dX10_rise_0 ?_
  obtain ⟨v1, e2, hf⟩ := ob1 hf
  refine rt_gi (pc := 1) fd_X10_90 dX10_rise_1 e2 ?_
  by_cases c3 : v1 = 0
  · rw [if_pos c3] at hf
    refine rt_if_ne_p (pc := 4) (x := v1) (tgt := 10) (by decide) dX10_rise_4 c3 ?_
    refine rt_bipush (pc := 7) (n := -2) (v := (-2 : Int32)) (by decide) dX10_rise_7 ?_
    cases hf
    exact rt_ret (pc := 9) dX10_rise_9 rfl
  rw [if_neg c3] at hf
  refine rt_if_ne_n (pc := 4) (x := v1) (tgt := 10) (by decide) dX10_rise_4 c3 ?_
  refine rt_aload_n (pc := 10) (k0 := 0) (x := a0) 0 rfl dX10_rise_10 ?_
  refine rt_iconst (pc := 11) (n := 0) (v := (0 : Int32)) (by decide) dX10_rise_11 ?_
  obtain ⟨w4, e5, hf⟩ := ob1 hf
  refine rt_putf (pc := 12) (x := a0) fw_X10_90 (Or.inl rfl) (by decide) (by decide) dX10_rise_12 e5 ?_
  refine rt_aload_n (pc := 15) (k0 := 0) (x := a0) 0 rfl dX10_rise_15 ?_
  obtain ⟨w7, e6, hf⟩ := ob1 hf
  have g8 := sX10_clearPages d (by omega) e6
  refine rt_callV (pc := 16) (As := []) (st := []) me_X10_clearPages mi_X10_clearPages wl_X10_270 dX10_rise_16 rfl (by decide) rfl g8.1 g8.2 ?_
  refine rt_aload_n (pc := 19) (k0 := 0) (x := a0) 0 rfl dX10_rise_19 ?_
  refine rt_iconst (pc := 20) (n := 0) (v := (0 : Int32)) (by decide) dX10_rise_20 ?_
  obtain ⟨w9, e10, hf⟩ := ob1 hf
  refine rt_putf (pc := 21) (x := a0) fw_X10_16 (Or.inl rfl) (pf_i _).1 (pf_i _).2 dX10_rise_21 e10 ?_
  refine rt_aload_n (pc := 24) (k0 := 0) (x := a0) 0 rfl dX10_rise_24 ?_
  refine rt_iconst (pc := 25) (n := 0) (v := (0 : Int32)) (by decide) dX10_rise_25 ?_
  obtain ⟨w11, e12, hf⟩ := ob1 hf
  refine rt_putf (pc := 26) (x := a0) fw_X10_363 (Or.inl rfl) (pf_i _).1 (pf_i _).2 dX10_rise_26 e12 ?_
  refine rt_aload_n (pc := 29) (k0 := 0) (x := a0) 0 rfl dX10_rise_29 ?_
  obtain ⟨v13, e14, hf⟩ := ob1 hf
  refine rt_gr (pc := 30) fd_X10_231 dX10_rise_30 e14 ?_
  refine rt_iconst (pc := 33) (n := 1) (v := (1 : Int32)) (by decide) dX10_rise_33 ?_
  obtain ⟨v15, e16, hf⟩ := ob1 hf
  refine rt_iald (pc := 34) dX10_rise_34 e16 ?_
  refine rt_aload_n (pc := 35) (k0 := 0) (x := a0) 0 rfl dX10_rise_35 ?_
  obtain ⟨v17, e18, hf⟩ := ob1 hf
  refine rt_gr (pc := 36) fd_X10_231 dX10_rise_36 e18 ?_
  refine rt_iconst (pc := 39) (n := 0) (v := (0 : Int32)) (by decide) dX10_rise_39 ?_
  obtain ⟨v19, e20, hf⟩ := ob1 hf
  refine rt_iald (pc := 40) dX10_rise_40 e20 ?_
  by_cases c21 : v15 ≤ v19
  · rw [if_pos c21] at hf
    refine rt_icmp_le_p (pc := 41) (x := v15) (z := v19) (tgt := 48) (by decide) dX10_rise_41 c21 ?_
    refine rt_iconst (pc := 48) (n := 0) (v := (0 : Int32)) (by decide) dX10_rise_48 ?_
    exact rX10_rise_49 hd hf
  rw [if_neg c21] at hf
  refine rt_icmp_le_n (pc := 41) (x := v15) (z := v19) (tgt := 48) (by decide) dX10_rise_41 c21 ?_
  refine rt_iconst (pc := 44) (n := 1) (v := (1 : Int32)) (by decide) dX10_rise_44 ?_
  refine rt_goto (pc := 45) (tgt := 49) (by decide) dX10_rise_45 ?_
  exact rX10_rise_49 hd hf
noncomputable def fX10_rise (E : ah_E) (a0 : Option Nat) (h : ah_H) : Option (Int32 × ah_H) := if hp_rcv h a0 11 = false then none else bX10_rise_0 E a0 h
set_option maxRecDepth 20000 in
set_option maxHeartbeats 4000000 in
theorem sX10_rise {X : ah_X} (d : Nat) (hd : 49 ≤ d) {a0 : Option Nat} {h : ah_H} {r : Int32} {h2 : ah_H} (hf : fX10_rise X.2.2.2 a0 h = some (r, h2)) : hp_rcv h a0 11 = true ∧ Rn X yX10_rise cX10_rise 3 (some .int) d [va_rf a0] h (some (.int r)) h2 := by
  unfold fX10_rise at hf
  by_cases c0 : hp_rcv h a0 11 = false
  · rw [if_pos c0] at hf; cases hf
  rw [if_neg c0] at hf
  refine ⟨(Bool.not_eq_false _).mp c0, ?_⟩
  obtain ⟨d, rfl⟩ : ∃ k, d = k + 1 := ⟨d - 1, by omega⟩
  exact Rn.of2 me_X10_rise (by simp [lg_sl, rt_cat, cat_i, cat_l]) (ok_i _) (l := [(0, va_rf a0)]) (by simp [lv_args, rt_cat, cat_i, cat_l]) (rX10_rise_0 (by omega) hf)
noncomputable def bX10_settle_115 (E : ah_E) (k12 : Option Nat → Int32 → ah_H → Option (Int32 × ah_H)) (a0 : Option Nat) (a1 : Int32) (h : ah_H) : Option (Int32 × ah_H) :=
  (fX10_grow E a0 h).bind fun w2 =>
  k12 a0 a1 w2
set_option maxRecDepth 20000 in
set_option maxHeartbeats 4000000 in
theorem rX10_settle_115 {X : ah_X} {d : Nat} (hd : 139 ≤ d) {k12 : Option Nat → Int32 → ah_H → Option (Int32 × ah_H)} (hk12 : ∀ (x0 : Option Nat) (x1 : Int32) (h : ah_H) (r : Int32) (h2 : ah_H), k12 x0 x1 h = some (r, h2) → Rt X yX10_settle cX10_settle 6 (d + 1) 12 [(0, va_rf x0), (1, .int x1)] [] h (some (.int r)) h2) {a0 : Option Nat} {a1 : Int32} {h : ah_H} {r : Int32} {h2 : ah_H} (hf : bX10_settle_115 X.2.2.2 k12 a0 a1 h = some (r, h2)) : Rt X yX10_settle cX10_settle 6 (d + 1) 115 [(0, va_rf a0), (1, .int a1)] [] h (some (.int r)) h2 := by
  unfold bX10_settle_115 at hf
  refine rt_aload_n (pc := 115) (k0 := 0) (x := a0) 0 rfl dX10_settle_115 ?_
  obtain ⟨w2, e1, hf⟩ := ob1 hf
  have g3 := sX10_grow d (by omega) e1
  refine rt_callV (pc := 116) (As := []) (st := []) me_X10_grow mi_X10_grow wl_X10_324 dX10_settle_116 rfl (by decide) rfl g3.1 g3.2 ?_
  refine rt_goto (pc := 119) (tgt := 12) (by decide) dX10_settle_119 ?_
  exact hk12 _ _ _ _ _ hf
noncomputable def bX10_settle_73 (E : ah_E) (k12 : Option Nat → Int32 → ah_H → Option (Int32 × ah_H)) : Nat → Option Nat → Int32 → Int32 → ah_H → Option (Int32 × ah_H)
  | 0 => fun _ _ _ _ => none
  | n + 1 => fun a0 a1 a3 h =>
  (hp_gi h a0 11 30).bind fun v1 =>
  if a3 = v1 then
    bX10_settle_115 E k12 a0 a1 h
  else
  ob2 (fX10_isTooBig E a0 a3 h) fun v6 w5 =>
  if v6 = 0 then
    bX10_settle_115 E k12 a0 a1 w5
  else
  (hp_gr w5 a0 11 48).bind fun v9 =>
  (hp_ldi w5 v9 a3).bind fun v11 =>
  (hp_gr w5 a0 11 49).bind fun v13 =>
  (hp_ldi w5 v13 a3).bind fun v15 =>
  (fX10_partKid E a0 v11 v15 w5).bind fun w18 =>
  bX10_settle_73 E k12 n a0 a1 v11 w18
set_option maxRecDepth 20000 in
set_option maxHeartbeats 4000000 in
theorem rX10_settle_73 {X : ah_X} {d : Nat} (hd : 139 ≤ d) {k12 : Option Nat → Int32 → ah_H → Option (Int32 × ah_H)} (hk12 : ∀ (x0 : Option Nat) (x1 : Int32) (h : ah_H) (r : Int32) (h2 : ah_H), k12 x0 x1 h = some (r, h2) → Rt X yX10_settle cX10_settle 6 (d + 1) 12 [(0, va_rf x0), (1, .int x1)] [] h (some (.int r)) h2) (n : Nat) : ∀ (a0 : Option Nat) (a1 : Int32) (a3 : Int32) (h : ah_H) (r : Int32) (h2 : ah_H), bX10_settle_73 X.2.2.2 k12 n a0 a1 a3 h = some (r, h2) → Rt X yX10_settle cX10_settle 6 (d + 1) 73 [(0, va_rf a0), (1, .int a1), (3, .int a3)] [] h (some (.int r)) h2 := by
  induction n with
  | zero => intro a0 a1 a3 h r h2 hf; cases hf
  | succ n ih =>
  intro a0 a1 a3 h r h2 hf
  unfold bX10_settle_73 at hf
  refine rt_iload_n (pc := 73) (k0 := 3) (x := a3) 2 rfl dX10_settle_73 ?_
  refine rt_aload_n (pc := 74) (k0 := 0) (x := a0) 0 rfl dX10_settle_74 ?_
  obtain ⟨v1, e2, hf⟩ := ob1 hf
  refine rt_gi (pc := 75) fd_X10_277 dX10_settle_75 e2 ?_
  by_cases c3 : a3 = v1
  · rw [if_pos c3] at hf
    refine rt_icmp_eq_p (pc := 78) (x := a3) (z := v1) (tgt := 115) (by decide) dX10_settle_78 c3 ?_
    exact rt_locals (rt_sub [0, 1] rfl) (rX10_settle_115 hd hk12 hf)
  rw [if_neg c3] at hf
  refine rt_icmp_eq_n (pc := 78) (x := a3) (z := v1) (tgt := 115) (by decide) dX10_settle_78 c3 ?_
  refine rt_aload_n (pc := 81) (k0 := 0) (x := a0) 0 rfl dX10_settle_81 ?_
  refine rt_iload_n (pc := 82) (k0 := 3) (x := a3) 2 rfl dX10_settle_82 ?_
  obtain ⟨v6, w5, e4, hf⟩ := ob2_of hf
  have g7 := sX10_isTooBig d (by omega) e4
  refine rt_callV (pc := 83) (As := [.int a3]) (st := []) me_X10_isTooBig mi_X10_isTooBig wl_X10_343 dX10_settle_83 rfl (by decide) rfl g7.1 g7.2 ?_
  by_cases c8 : v6 = 0
  · rw [if_pos c8] at hf
    refine rt_if_eq_p (pc := 86) (x := v6) (tgt := 115) (by decide) dX10_settle_86 c8 ?_
    exact rt_locals (rt_sub [0, 1] rfl) (rX10_settle_115 hd hk12 hf)
  rw [if_neg c8] at hf
  refine rt_if_eq_n (pc := 86) (x := v6) (tgt := 115) (by decide) dX10_settle_86 c8 ?_
  refine rt_aload_n (pc := 89) (k0 := 0) (x := a0) 0 rfl dX10_settle_89 ?_
  obtain ⟨v9, e10, hf⟩ := ob1 hf
  refine rt_gr (pc := 90) fd_X10_194 dX10_settle_90 e10 ?_
  refine rt_iload_n (pc := 93) (k0 := 3) (x := a3) 2 rfl dX10_settle_93 ?_
  obtain ⟨v11, e12, hf⟩ := ob1 hf
  refine rt_iald (pc := 94) dX10_settle_94 e12 ?_
  refine rt_istore (pc := 95) (i := 5) (x := v11) (l2 := [(5, .int v11), (0, va_rf a0), (1, .int a1), (3, .int a3)]) (by decide) (by first | rfl | (simp [rt_cat, cat_i, cat_l]; done) | (simp [rt_cat, cat_i, cat_l]; decide)) dX10_settle_95 ?_
  refine rt_aload_n (pc := 97) (k0 := 0) (x := a0) 1 rfl dX10_settle_97 ?_
  refine rt_iload (pc := 98) (i := 5) (x := v11) 0 rfl dX10_settle_98 ?_
  refine rt_aload_n (pc := 100) (k0 := 0) (x := a0) 1 rfl dX10_settle_100 ?_
  obtain ⟨v13, e14, hf⟩ := ob1 hf
  refine rt_gr (pc := 101) fd_X10_197 dX10_settle_101 e14 ?_
  refine rt_iload_n (pc := 104) (k0 := 3) (x := a3) 3 rfl dX10_settle_104 ?_
  obtain ⟨v15, e16, hf⟩ := ob1 hf
  refine rt_iald (pc := 105) dX10_settle_105 e16 ?_
  obtain ⟨w18, e17, hf⟩ := ob1 hf
  have g19 := sX10_partKid d (by omega) e17
  refine rt_callV (pc := 106) (As := [.int v11, .int v15]) (st := []) me_X10_partKid mi_X10_partKid wl_X10_334 dX10_settle_106 rfl (by decide) rfl g19.1 g19.2 ?_
  refine rt_iload (pc := 109) (i := 5) (x := v11) 0 rfl dX10_settle_109 ?_
  refine rt_istore_n (pc := 111) (k0 := 3) (x := v11) (l2 := [(3, .int v11), (5, .int v11), (0, va_rf a0), (1, .int a1)]) (by decide) (by first | rfl | (simp [rt_cat, cat_i, cat_l]; done) | (simp [rt_cat, cat_i, cat_l]; decide)) dX10_settle_111 ?_
  refine rt_goto (pc := 112) (tgt := 73) (by decide) dX10_settle_112 ?_
  exact rt_locals (rt_sub [2, 3, 0] rfl) (ih _ _ _ _ _ _ hf)
noncomputable def bX10_settle_46 (E : ah_E) (k12 : Option Nat → Int32 → ah_H → Option (Int32 × ah_H)) (a0 : Option Nat) (a1 : Int32) (a2 : Int32) (h : ah_H) : Option (Int32 × ah_H) :=
  (hp_gi h a0 11 50).bind fun v1 =>
  if a2 = v1 then
    some (a1, h)
  else
  (hp_gr h a0 11 47).bind fun v4 =>
  (hp_ldi h v4 a2).bind fun v6 =>
  ob2 (fX10_sinks E zd a0 v6 h) fun v10 w9 =>
  bX10_settle_73 E k12 zf a0 (a1 + 1) v6 w9
set_option maxRecDepth 20000 in
set_option maxHeartbeats 4000000 in
theorem rX10_settle_46 {X : ah_X} {d : Nat} (hd : 139 ≤ d) {k12 : Option Nat → Int32 → ah_H → Option (Int32 × ah_H)} (hk12 : ∀ (x0 : Option Nat) (x1 : Int32) (h : ah_H) (r : Int32) (h2 : ah_H), k12 x0 x1 h = some (r, h2) → Rt X yX10_settle cX10_settle 6 (d + 1) 12 [(0, va_rf x0), (1, .int x1)] [] h (some (.int r)) h2) {a0 : Option Nat} {a1 : Int32} {a2 : Int32} {h : ah_H} {r : Int32} {h2 : ah_H} (hf : bX10_settle_46 X.2.2.2 k12 a0 a1 a2 h = some (r, h2)) : Rt X yX10_settle cX10_settle 6 (d + 1) 46 [(0, va_rf a0), (1, .int a1), (2, .int a2)] [] h (some (.int r)) h2 := by
  unfold bX10_settle_46 at hf
  refine rt_iload_n (pc := 46) (k0 := 2) (x := a2) 2 rfl dX10_settle_46 ?_
  refine rt_aload_n (pc := 47) (k0 := 0) (x := a0) 0 rfl dX10_settle_47 ?_
  obtain ⟨v1, e2, hf⟩ := ob1 hf
  refine rt_gi (pc := 48) fd_X10_349 dX10_settle_48 e2 ?_
  by_cases c3 : a2 = v1
  · rw [if_pos c3] at hf
    refine rt_icmp_ne_p (pc := 51) (x := a2) (z := v1) (tgt := 56) (by decide) dX10_settle_51 c3 ?_
    refine rt_iload_n (pc := 54) (k0 := 1) (x := a1) 1 rfl dX10_settle_54 ?_
    cases hf
    exact rt_ret (pc := 55) dX10_settle_55 rfl
  rw [if_neg c3] at hf
  refine rt_icmp_ne_n (pc := 51) (x := a2) (z := v1) (tgt := 56) (by decide) dX10_settle_51 c3 ?_
  refine rt_aload_n (pc := 56) (k0 := 0) (x := a0) 0 rfl dX10_settle_56 ?_
  obtain ⟨v4, e5, hf⟩ := ob1 hf
  refine rt_gr (pc := 57) fd_X10_191 dX10_settle_57 e5 ?_
  refine rt_iload_n (pc := 60) (k0 := 2) (x := a2) 2 rfl dX10_settle_60 ?_
  obtain ⟨v6, e7, hf⟩ := ob1 hf
  refine rt_iald (pc := 61) dX10_settle_61 e7 ?_
  refine rt_istore_n (pc := 62) (k0 := 3) (x := v6) (l2 := [(3, .int v6), (0, va_rf a0), (1, .int a1), (2, .int a2)]) (by decide) (by first | rfl | (simp [rt_cat, cat_i, cat_l]; done) | (simp [rt_cat, cat_i, cat_l]; decide)) dX10_settle_62 ?_
  refine rt_aload_n (pc := 63) (k0 := 0) (x := a0) 1 rfl dX10_settle_63 ?_
  refine rt_iload_n (pc := 64) (k0 := 3) (x := v6) 0 rfl dX10_settle_64 ?_
  obtain ⟨v10, w9, e8, hf⟩ := ob2_of hf
  have g11 := sX10_sinks zd d (by unfold zd; omega) _ _ _ _ _ e8
  refine rt_callV (pc := 65) (As := [.int v6]) (st := []) me_X10_sinks mi_X10_sinks wl_X10_320 dX10_settle_65 rfl (by decide) rfl g11.1 g11.2 ?_
  refine rt_istore (pc := 68) (i := 4) (x := v10) (l2 := [(4, .int v10), (3, .int v6), (0, va_rf a0), (1, .int a1), (2, .int a2)]) (by decide) (by first | rfl | (simp [rt_cat, cat_i, cat_l]; done) | (simp [rt_cat, cat_i, cat_l]; decide)) dX10_settle_68 ?_
  refine rt_iinc (pc := 70) (i := 1) (n := 1) (x := a1) (v := (a1 + 1)) (l2 := [(1, .int (a1 + 1)), (4, .int v10), (3, .int v6), (0, va_rf a0), (2, .int a2)]) 3 rfl rfl (by decide) (by first | rfl | (simp [rt_cat, cat_i, cat_l]; done) | (simp [rt_cat, cat_i, cat_l]; decide)) dX10_settle_70 ?_
  exact rt_locals (rt_sub [3, 0, 2] rfl) (rX10_settle_73 hd hk12 zf _ _ _ _ _ _ hf)
noncomputable def bX10_settle_18 (E : ah_E) (k12 : Option Nat → Int32 → ah_H → Option (Int32 × ah_H)) : Nat → Option Nat → Int32 → Int32 → ah_H → Option (Int32 × ah_H)
  | 0 => fun _ _ _ _ => none
  | n + 1 => fun a0 a1 a2 h =>
  (hp_gi h a0 11 50).bind fun v1 =>
  if v1 ≤ a2 then
    bX10_settle_46 E k12 a0 a1 a2 h
  else
  (hp_gr h a0 11 26).bind fun v4 =>
  (hp_gr h a0 11 47).bind fun v6 =>
  (hp_ldi h v6 a2).bind fun v8 =>
  (hp_ldi h v4 v8).bind fun v10 =>
  if v10 = 0 then
    bX10_settle_18 E k12 n a0 a1 (a2 + 1) h
  else
  bX10_settle_46 E k12 a0 a1 a2 h
set_option maxRecDepth 20000 in
set_option maxHeartbeats 4000000 in
theorem rX10_settle_18 {X : ah_X} {d : Nat} (hd : 139 ≤ d) {k12 : Option Nat → Int32 → ah_H → Option (Int32 × ah_H)} (hk12 : ∀ (x0 : Option Nat) (x1 : Int32) (h : ah_H) (r : Int32) (h2 : ah_H), k12 x0 x1 h = some (r, h2) → Rt X yX10_settle cX10_settle 6 (d + 1) 12 [(0, va_rf x0), (1, .int x1)] [] h (some (.int r)) h2) (n : Nat) : ∀ (a0 : Option Nat) (a1 : Int32) (a2 : Int32) (h : ah_H) (r : Int32) (h2 : ah_H), bX10_settle_18 X.2.2.2 k12 n a0 a1 a2 h = some (r, h2) → Rt X yX10_settle cX10_settle 6 (d + 1) 18 [(0, va_rf a0), (1, .int a1), (2, .int a2)] [] h (some (.int r)) h2 := by
  induction n with
  | zero => intro a0 a1 a2 h r h2 hf; cases hf
  | succ n ih =>
  intro a0 a1 a2 h r h2 hf
  unfold bX10_settle_18 at hf
  refine rt_iload_n (pc := 18) (k0 := 2) (x := a2) 2 rfl dX10_settle_18 ?_
  refine rt_aload_n (pc := 19) (k0 := 0) (x := a0) 0 rfl dX10_settle_19 ?_
  obtain ⟨v1, e2, hf⟩ := ob1 hf
  refine rt_gi (pc := 20) fd_X10_349 dX10_settle_20 e2 ?_
  by_cases c3 : v1 ≤ a2
  · rw [if_pos c3] at hf
    refine rt_icmp_ge_p (pc := 23) (x := a2) (z := v1) (tgt := 46) (by decide) dX10_settle_23 c3 ?_
    exact rX10_settle_46 hd hk12 hf
  rw [if_neg c3] at hf
  refine rt_icmp_ge_n (pc := 23) (x := a2) (z := v1) (tgt := 46) (by decide) dX10_settle_23 c3 ?_
  refine rt_aload_n (pc := 26) (k0 := 0) (x := a0) 0 rfl dX10_settle_26 ?_
  obtain ⟨v4, e5, hf⟩ := ob1 hf
  refine rt_gr (pc := 27) fd_X10_145 dX10_settle_27 e5 ?_
  refine rt_aload_n (pc := 30) (k0 := 0) (x := a0) 0 rfl dX10_settle_30 ?_
  obtain ⟨v6, e7, hf⟩ := ob1 hf
  refine rt_gr (pc := 31) fd_X10_191 dX10_settle_31 e7 ?_
  refine rt_iload_n (pc := 34) (k0 := 2) (x := a2) 2 rfl dX10_settle_34 ?_
  obtain ⟨v8, e9, hf⟩ := ob1 hf
  refine rt_iald (pc := 35) dX10_settle_35 e9 ?_
  obtain ⟨v10, e11, hf⟩ := ob1 hf
  refine rt_iald (pc := 36) dX10_settle_36 e11 ?_
  by_cases c12 : v10 = 0
  · rw [if_pos c12] at hf
    refine rt_if_ne_p (pc := 37) (x := v10) (tgt := 46) (by decide) dX10_settle_37 c12 ?_
    refine rt_iinc (pc := 40) (i := 2) (n := 1) (x := a2) (v := (a2 + 1)) (l2 := [(2, .int (a2 + 1)), (0, va_rf a0), (1, .int a1)]) 2 rfl rfl (by decide) (by first | rfl | (simp [rt_cat, cat_i, cat_l]; done) | (simp [rt_cat, cat_i, cat_l]; decide)) dX10_settle_40 ?_
    refine rt_goto (pc := 43) (tgt := 18) (by decide) dX10_settle_43 ?_
    exact rt_locals (rt_sub [1, 2, 0] rfl) (ih _ _ _ _ _ _ hf)
  rw [if_neg c12] at hf
  refine rt_if_ne_n (pc := 37) (x := v10) (tgt := 46) (by decide) dX10_settle_37 c12 ?_
  exact rX10_settle_46 hd hk12 hf
noncomputable def bX10_settle_12 (E : ah_E) : Nat → Option Nat → Int32 → ah_H → Option (Int32 × ah_H)
  | 0 => fun _ _ _ => none
  | n + 1 => fun a0 a1 h =>
  (fX10_number E a0 h).bind fun w2 =>
  bX10_settle_18 E (bX10_settle_12 E n) zf a0 a1 (0 : Int32) w2
set_option maxRecDepth 20000 in
set_option maxHeartbeats 4000000 in
theorem rX10_settle_12 {X : ah_X} {d : Nat} (hd : 139 ≤ d) (n : Nat) : ∀ (a0 : Option Nat) (a1 : Int32) (h : ah_H) (r : Int32) (h2 : ah_H), bX10_settle_12 X.2.2.2 n a0 a1 h = some (r, h2) → Rt X yX10_settle cX10_settle 6 (d + 1) 12 [(0, va_rf a0), (1, .int a1)] [] h (some (.int r)) h2 := by
  induction n with
  | zero => intro a0 a1 h r h2 hf; cases hf
  | succ n ih =>
  intro a0 a1 h r h2 hf
  unfold bX10_settle_12 at hf
  refine rt_aload_n (pc := 12) (k0 := 0) (x := a0) 0 rfl dX10_settle_12 ?_
  obtain ⟨w2, e1, hf⟩ := ob1 hf
  have g3 := sX10_number d (by omega) e1
  refine rt_callV (pc := 13) (As := []) (st := []) me_X10_number mi_X10_number wl_X10_355 dX10_settle_13 rfl (by decide) rfl g3.1 g3.2 ?_
  refine rt_iconst (pc := 16) (n := 0) (v := (0 : Int32)) (by decide) dX10_settle_16 ?_
  refine rt_istore_n (pc := 17) (k0 := 2) (x := (0 : Int32)) (l2 := [(2, .int (0 : Int32)), (0, va_rf a0), (1, .int a1)]) (by decide) (by first | rfl | (simp [rt_cat, cat_i, cat_l]; done) | (simp [rt_cat, cat_i, cat_l]; decide)) dX10_settle_17 ?_
  exact rt_locals (rt_sub [1, 2, 0] rfl) (rX10_settle_18 hd ih zf _ _ _ _ _ _ hf)
noncomputable def bX10_settle_0 (E : ah_E) (a0 : Option Nat) (h : ah_H) : Option (Int32 × ah_H) :=
  (hp_gi h a0 11 51).bind fun v1 =>
  if v1 = 0 then
    bX10_settle_12 E zf a0 (0 : Int32) h
  else
  some ((-4 : Int32), h)
set_option maxRecDepth 20000 in
set_option maxHeartbeats 4000000 in
theorem rX10_settle_0 {X : ah_X} {d : Nat} (hd : 139 ≤ d) {a0 : Option Nat} {h : ah_H} {r : Int32} {h2 : ah_H} (hf : bX10_settle_0 X.2.2.2 a0 h = some (r, h2)) : Rt X yX10_settle cX10_settle 6 (d + 1) 0 [(0, va_rf a0)] [] h (some (.int r)) h2 := by
  unfold bX10_settle_0 at hf
  refine rt_aload_n (pc := 0) (k0 := 0) (x := a0) 0 rfl dX10_settle_0 ?_
  obtain ⟨v1, e2, hf⟩ := ob1 hf
  refine rt_gi (pc := 1) fd_X10_90 dX10_settle_1 e2 ?_
  by_cases c3 : v1 = 0
  · rw [if_pos c3] at hf
    refine rt_if_eq_p (pc := 4) (x := v1) (tgt := 10) (by decide) dX10_settle_4 c3 ?_
    refine rt_iconst (pc := 10) (n := 0) (v := (0 : Int32)) (by decide) dX10_settle_10 ?_
    refine rt_istore_n (pc := 11) (k0 := 1) (x := (0 : Int32)) (l2 := [(1, .int (0 : Int32)), (0, va_rf a0)]) (by decide) (by first | rfl | (simp [rt_cat, cat_i, cat_l]; done) | (simp [rt_cat, cat_i, cat_l]; decide)) dX10_settle_11 ?_
    exact rt_locals (rt_sub [1, 0] rfl) (rX10_settle_12 hd zf _ _ _ _ _ hf)
  rw [if_neg c3] at hf
  refine rt_if_eq_n (pc := 4) (x := v1) (tgt := 10) (by decide) dX10_settle_4 c3 ?_
  refine rt_bipush (pc := 7) (n := -4) (v := (-4 : Int32)) (by decide) dX10_settle_7 ?_
  cases hf
  exact rt_ret (pc := 9) dX10_settle_9 rfl
noncomputable def fX10_settle (E : ah_E) (a0 : Option Nat) (h : ah_H) : Option (Int32 × ah_H) := if hp_rcv h a0 11 = false then none else bX10_settle_0 E a0 h
set_option maxRecDepth 20000 in
set_option maxHeartbeats 4000000 in
theorem sX10_settle {X : ah_X} (d : Nat) (hd : 140 ≤ d) {a0 : Option Nat} {h : ah_H} {r : Int32} {h2 : ah_H} (hf : fX10_settle X.2.2.2 a0 h = some (r, h2)) : hp_rcv h a0 11 = true ∧ Rn X yX10_settle cX10_settle 6 (some .int) d [va_rf a0] h (some (.int r)) h2 := by
  unfold fX10_settle at hf
  by_cases c0 : hp_rcv h a0 11 = false
  · rw [if_pos c0] at hf; cases hf
  rw [if_neg c0] at hf
  refine ⟨(Bool.not_eq_false _).mp c0, ?_⟩
  obtain ⟨d, rfl⟩ : ∃ k, d = k + 1 := ⟨d - 1, by omega⟩
  exact Rn.of2 me_X10_settle (by simp [lg_sl, rt_cat, cat_i, cat_l]) (ok_i _) (l := [(0, va_rf a0)]) (by simp [lv_args, rt_cat, cat_i, cat_l]) (rX10_settle_0 (by omega) hf)
noncomputable def bX10_sink_34 (E : ah_E) (h : ah_H) : Option (Int32 × ah_H) :=
  some ((0 : Int32), h)
set_option maxRecDepth 20000 in
set_option maxHeartbeats 4000000 in
theorem rX10_sink_34 {X : ah_X} {d : Nat} (hd : 139 ≤ d)  {h : ah_H} {r : Int32} {h2 : ah_H} (hf : bX10_sink_34 X.2.2.2  h = some (r, h2)) : Rt X yX10_sink cX10_sink 2 (d + 1) 34 [] [] h (some (.int r)) h2 := by
  unfold bX10_sink_34 at hf
  refine rt_iconst (pc := 34) (n := 0) (v := (0 : Int32)) (by decide) dX10_sink_34 ?_
  cases hf
  exact rt_ret (pc := 35) dX10_sink_35 rfl
noncomputable def bX10_sink_0 (E : ah_E) (a0 : Option Nat) (h : ah_H) : Option (Int32 × ah_H) :=
  (hp_gi h a0 11 51).bind fun v1 =>
  if v1 = 0 then
    (hp_gr h a0 11 18).bind fun v4 =>
    (hp_gi h a0 11 30).bind fun v6 =>
    (hp_ldb h v4 v6).bind fun v8 =>
    if v8 = 0 then
      (hp_gr h a0 11 26).bind fun v11 =>
      (hp_gi h a0 11 30).bind fun v13 =>
      (hp_ldi h v11 v13).bind fun v15 =>
      if v15 = 0 then
        bX10_sink_34 E  h
      else
      (hp_gi h a0 11 30).bind fun v18 =>
      ob2 (fX10_sinks E zd a0 v18 h) fun v22 w21 =>
      (fX10_grow E a0 w21).bind fun w25 =>
      some (v22, w25)
    else
    bX10_sink_34 E  h
  else
  some ((-4 : Int32), h)
set_option maxRecDepth 20000 in
set_option maxHeartbeats 4000000 in
theorem rX10_sink_0 {X : ah_X} {d : Nat} (hd : 139 ≤ d) {a0 : Option Nat} {h : ah_H} {r : Int32} {h2 : ah_H} (hf : bX10_sink_0 X.2.2.2 a0 h = some (r, h2)) : Rt X yX10_sink cX10_sink 2 (d + 1) 0 [(0, va_rf a0)] [] h (some (.int r)) h2 := by
  unfold bX10_sink_0 at hf
  refine rt_aload_n (pc := 0) (k0 := 0) (x := a0) 0 rfl dX10_sink_0 ?_
  obtain ⟨v1, e2, hf⟩ := ob1 hf
  refine rt_gi (pc := 1) fd_X10_90 dX10_sink_1 e2 ?_
  by_cases c3 : v1 = 0
  · rw [if_pos c3] at hf
    refine rt_if_eq_p (pc := 4) (x := v1) (tgt := 10) (by decide) dX10_sink_4 c3 ?_
    refine rt_aload_n (pc := 10) (k0 := 0) (x := a0) 0 rfl dX10_sink_10 ?_
    obtain ⟨v4, e5, hf⟩ := ob1 hf
    refine rt_gr (pc := 11) fd_X10_119 dX10_sink_11 e5 ?_
    refine rt_aload_n (pc := 14) (k0 := 0) (x := a0) 0 rfl dX10_sink_14 ?_
    obtain ⟨v6, e7, hf⟩ := ob1 hf
    refine rt_gi (pc := 15) fd_X10_277 dX10_sink_15 e7 ?_
    obtain ⟨v8, e9, hf⟩ := ob1 hf
    refine rt_bald (pc := 18) dX10_sink_18 e9 ?_
    by_cases c10 : v8 = 0
    · rw [if_pos c10] at hf
      refine rt_if_ne_p (pc := 19) (x := v8) (tgt := 34) (by decide) dX10_sink_19 c10 ?_
      refine rt_aload_n (pc := 22) (k0 := 0) (x := a0) 0 rfl dX10_sink_22 ?_
      obtain ⟨v11, e12, hf⟩ := ob1 hf
      refine rt_gr (pc := 23) fd_X10_145 dX10_sink_23 e12 ?_
      refine rt_aload_n (pc := 26) (k0 := 0) (x := a0) 0 rfl dX10_sink_26 ?_
      obtain ⟨v13, e14, hf⟩ := ob1 hf
      refine rt_gi (pc := 27) fd_X10_277 dX10_sink_27 e14 ?_
      obtain ⟨v15, e16, hf⟩ := ob1 hf
      refine rt_iald (pc := 30) dX10_sink_30 e16 ?_
      by_cases c17 : v15 = 0
      · rw [if_pos c17] at hf
        refine rt_if_ne_p (pc := 31) (x := v15) (tgt := 36) (by decide) dX10_sink_31 c17 ?_
        exact rt_locals (rt_sub [] rfl) (rX10_sink_34 hd hf)
      rw [if_neg c17] at hf
      refine rt_if_ne_n (pc := 31) (x := v15) (tgt := 36) (by decide) dX10_sink_31 c17 ?_
      refine rt_aload_n (pc := 36) (k0 := 0) (x := a0) 0 rfl dX10_sink_36 ?_
      refine rt_aload_n (pc := 37) (k0 := 0) (x := a0) 0 rfl dX10_sink_37 ?_
      obtain ⟨v18, e19, hf⟩ := ob1 hf
      refine rt_gi (pc := 38) fd_X10_277 dX10_sink_38 e19 ?_
      obtain ⟨v22, w21, e20, hf⟩ := ob2_of hf
      have g23 := sX10_sinks zd d (by unfold zd; omega) _ _ _ _ _ e20
      refine rt_callV (pc := 41) (As := [.int v18]) (st := []) me_X10_sinks mi_X10_sinks wl_X10_320 dX10_sink_41 rfl (by decide) rfl g23.1 g23.2 ?_
      refine rt_istore_n (pc := 44) (k0 := 1) (x := v22) (l2 := [(1, .int v22), (0, va_rf a0)]) (by decide) (by first | rfl | (simp [rt_cat, cat_i, cat_l]; done) | (simp [rt_cat, cat_i, cat_l]; decide)) dX10_sink_44 ?_
      refine rt_aload_n (pc := 45) (k0 := 0) (x := a0) 1 rfl dX10_sink_45 ?_
      obtain ⟨w25, e24, hf⟩ := ob1 hf
      have g26 := sX10_grow d (by omega) e24
      refine rt_callV (pc := 46) (As := []) (st := []) me_X10_grow mi_X10_grow wl_X10_324 dX10_sink_46 rfl (by decide) rfl g26.1 g26.2 ?_
      refine rt_iload_n (pc := 49) (k0 := 1) (x := v22) 0 rfl dX10_sink_49 ?_
      cases hf
      exact rt_ret (pc := 50) dX10_sink_50 rfl
    rw [if_neg c10] at hf
    refine rt_if_ne_n (pc := 19) (x := v8) (tgt := 34) (by decide) dX10_sink_19 c10 ?_
    exact rt_locals (rt_sub [] rfl) (rX10_sink_34 hd hf)
  rw [if_neg c3] at hf
  refine rt_if_eq_n (pc := 4) (x := v1) (tgt := 10) (by decide) dX10_sink_4 c3 ?_
  refine rt_bipush (pc := 7) (n := -4) (v := (-4 : Int32)) (by decide) dX10_sink_7 ?_
  cases hf
  exact rt_ret (pc := 9) dX10_sink_9 rfl
noncomputable def fX10_sink (E : ah_E) (a0 : Option Nat) (h : ah_H) : Option (Int32 × ah_H) := if hp_rcv h a0 11 = false then none else bX10_sink_0 E a0 h
set_option maxRecDepth 20000 in
set_option maxHeartbeats 4000000 in
theorem sX10_sink {X : ah_X} (d : Nat) (hd : 140 ≤ d) {a0 : Option Nat} {h : ah_H} {r : Int32} {h2 : ah_H} (hf : fX10_sink X.2.2.2 a0 h = some (r, h2)) : hp_rcv h a0 11 = true ∧ Rn X yX10_sink cX10_sink 2 (some .int) d [va_rf a0] h (some (.int r)) h2 := by
  unfold fX10_sink at hf
  by_cases c0 : hp_rcv h a0 11 = false
  · rw [if_pos c0] at hf; cases hf
  rw [if_neg c0] at hf
  refine ⟨(Bool.not_eq_false _).mp c0, ?_⟩
  obtain ⟨d, rfl⟩ : ∃ k, d = k + 1 := ⟨d - 1, by omega⟩
  exact Rn.of2 me_X10_sink (by simp [lg_sl, rt_cat, cat_i, cat_l]) (ok_i _) (l := [(0, va_rf a0)]) (by simp [lv_args, rt_cat, cat_i, cat_l]) (rX10_sink_0 (by omega) hf)
noncomputable def bX10_swap_39 (E : ah_E) (h : ah_H) : Option (Int32 × ah_H) :=
  some ((-2 : Int32), h)
set_option maxRecDepth 20000 in
set_option maxHeartbeats 4000000 in
theorem rX10_swap_39 {X : ah_X} {d : Nat} (hd : 141 ≤ d)  {h : ah_H} {r : Int32} {h2 : ah_H} (hf : bX10_swap_39 X.2.2.2  h = some (r, h2)) : Rt X yX10_swap cX10_swap 6 (d + 1) 39 [] [] h (some (.int r)) h2 := by
  unfold bX10_swap_39 at hf
  refine rt_bipush (pc := 39) (n := -2) (v := (-2 : Int32)) (by decide) dX10_swap_39 ?_
  cases hf
  exact rt_ret (pc := 41) dX10_swap_41 rfl
noncomputable def bX10_swap_65 (E : ah_E) (a0 : Option Nat) (a1 : Int64) (a4 : Int32) (s0 : Int32) (h : ah_H) : Option (Int32 × ah_H) :=
  (fX10_giveRoot E a0 a4 a1 a1 h).bind fun w2 =>
  some (s0, w2)
set_option maxRecDepth 20000 in
set_option maxHeartbeats 4000000 in
theorem rX10_swap_65 {X : ah_X} {d : Nat} (hd : 141 ≤ d) {a0 : Option Nat} {a1 : Int64} {a4 : Int32} {s0 : Int32} {h : ah_H} {r : Int32} {h2 : ah_H} (hf : bX10_swap_65 X.2.2.2 a0 a1 a4 s0 h = some (r, h2)) : Rt X yX10_swap cX10_swap 6 (d + 1) 65 [(0, va_rf a0), (1, .long a1), (4, .int a4)] [.int s0] h (some (.int r)) h2 := by
  unfold bX10_swap_65 at hf
  refine rt_istore (pc := 65) (i := 5) (x := s0) (l2 := [(5, .int s0), (0, va_rf a0), (1, .long a1), (4, .int a4)]) (by decide) (by first | rfl | (simp [rt_cat, cat_i, cat_l]; done) | (simp [rt_cat, cat_i, cat_l]; decide)) dX10_swap_65 ?_
  refine rt_aload_n (pc := 67) (k0 := 0) (x := a0) 1 rfl dX10_swap_67 ?_
  refine rt_iload (pc := 68) (i := 4) (x := a4) 3 rfl dX10_swap_68 ?_
  refine rt_lload_n (pc := 70) (k0 := 1) (x := a1) 2 rfl dX10_swap_70 ?_
  refine rt_lload_n (pc := 71) (k0 := 1) (x := a1) 2 rfl dX10_swap_71 ?_
  obtain ⟨w2, e1, hf⟩ := ob1 hf
  have g3 := sX10_giveRoot d (by omega) e1
  refine rt_callV (pc := 72) (As := [.int a4, .long a1, .long a1]) (st := []) me_X10_giveRoot mi_X10_giveRoot wl_X10_101 dX10_swap_72 rfl (by decide) rfl g3.1 g3.2 ?_
  refine rt_iload (pc := 75) (i := 5) (x := s0) 0 rfl dX10_swap_75 ?_
  cases hf
  exact rt_ret (pc := 77) dX10_swap_77 rfl
noncomputable def bX10_swap_0 (E : ah_E) (a0 : Option Nat) (a1 : Int64) (a3 : Int32) (h : ah_H) : Option (Int32 × ah_H) :=
  (hp_gi h a0 11 51).bind fun v1 =>
  if v1 = 0 then
    if a3 < 0 then
      bX10_swap_39 E  h
    else
    if (20 : Int32) < a3 then
      bX10_swap_39 E  h
    else
    (hp_gi h a0 11 2).bind fun v6 =>
    if v6 < a3 then
      bX10_swap_39 E  h
    else
    (hp_gi h a0 11 2).bind fun v9 =>
    if (v9 - a3) ≤ (20 : Int32) then
      ob2 (fX10_write E a0 (3 : Int32) a1 a3 h) fun v14 w13 =>
      ob2 (fX10_actsOnMap E a0 v14 w13) fun v18 w17 =>
      if v18 = 0 then
        bX10_swap_65 E a0 a1 v14 (0 : Int32) w17
      else
      bX10_swap_65 E a0 a1 v14 (1 : Int32) w17
    else
    bX10_swap_39 E  h
  else
  some ((-4 : Int32), h)
set_option maxRecDepth 20000 in
set_option maxHeartbeats 4000000 in
theorem rX10_swap_0 {X : ah_X} {d : Nat} (hd : 141 ≤ d) {a0 : Option Nat} {a1 : Int64} {a3 : Int32} {h : ah_H} {r : Int32} {h2 : ah_H} (hf : bX10_swap_0 X.2.2.2 a0 a1 a3 h = some (r, h2)) : Rt X yX10_swap cX10_swap 6 (d + 1) 0 [(0, va_rf a0), (1, .long a1), (3, .int a3)] [] h (some (.int r)) h2 := by
  unfold bX10_swap_0 at hf
  refine rt_aload_n (pc := 0) (k0 := 0) (x := a0) 0 rfl dX10_swap_0 ?_
  obtain ⟨v1, e2, hf⟩ := ob1 hf
  refine rt_gi (pc := 1) fd_X10_90 dX10_swap_1 e2 ?_
  by_cases c3 : v1 = 0
  · rw [if_pos c3] at hf
    refine rt_if_eq_p (pc := 4) (x := v1) (tgt := 10) (by decide) dX10_swap_4 c3 ?_
    refine rt_iload_n (pc := 10) (k0 := 3) (x := a3) 2 rfl dX10_swap_10 ?_
    by_cases c4 : a3 < 0
    · rw [if_pos c4] at hf
      refine rt_if_lt_p (pc := 11) (x := a3) (tgt := 39) (by decide) dX10_swap_11 c4 ?_
      exact rt_locals (rt_sub [] rfl) (rX10_swap_39 hd hf)
    rw [if_neg c4] at hf
    refine rt_if_lt_n (pc := 11) (x := a3) (tgt := 39) (by decide) dX10_swap_11 c4 ?_
    refine rt_iload_n (pc := 14) (k0 := 3) (x := a3) 2 rfl dX10_swap_14 ?_
    refine rt_bipush (pc := 15) (n := 20) (v := (20 : Int32)) (by decide) dX10_swap_15 ?_
    by_cases c5 : (20 : Int32) < a3
    · rw [if_pos c5] at hf
      refine rt_icmp_gt_p (pc := 17) (x := a3) (z := (20 : Int32)) (tgt := 39) (by decide) dX10_swap_17 c5 ?_
      exact rt_locals (rt_sub [] rfl) (rX10_swap_39 hd hf)
    rw [if_neg c5] at hf
    refine rt_icmp_gt_n (pc := 17) (x := a3) (z := (20 : Int32)) (tgt := 39) (by decide) dX10_swap_17 c5 ?_
    refine rt_aload_n (pc := 20) (k0 := 0) (x := a0) 0 rfl dX10_swap_20 ?_
    obtain ⟨v6, e7, hf⟩ := ob1 hf
    refine rt_gi (pc := 21) fd_X10_9 dX10_swap_21 e7 ?_
    refine rt_iload_n (pc := 24) (k0 := 3) (x := a3) 2 rfl dX10_swap_24 ?_
    by_cases c8 : v6 < a3
    · rw [if_pos c8] at hf
      refine rt_icmp_lt_p (pc := 25) (x := v6) (z := a3) (tgt := 39) (by decide) dX10_swap_25 c8 ?_
      exact rt_locals (rt_sub [] rfl) (rX10_swap_39 hd hf)
    rw [if_neg c8] at hf
    refine rt_icmp_lt_n (pc := 25) (x := v6) (z := a3) (tgt := 39) (by decide) dX10_swap_25 c8 ?_
    refine rt_aload_n (pc := 28) (k0 := 0) (x := a0) 0 rfl dX10_swap_28 ?_
    obtain ⟨v9, e10, hf⟩ := ob1 hf
    refine rt_gi (pc := 29) fd_X10_9 dX10_swap_29 e10 ?_
    refine rt_iload_n (pc := 32) (k0 := 3) (x := a3) 2 rfl dX10_swap_32 ?_
    refine rt_isub (pc := 33) (x := v9) (z := a3) dX10_swap_33 ?_
    refine rt_bipush (pc := 34) (n := 20) (v := (20 : Int32)) (by decide) dX10_swap_34 ?_
    by_cases c11 : (v9 - a3) ≤ (20 : Int32)
    · rw [if_pos c11] at hf
      refine rt_icmp_le_p (pc := 36) (x := (v9 - a3)) (z := (20 : Int32)) (tgt := 42) (by decide) dX10_swap_36 c11 ?_
      refine rt_aload_n (pc := 42) (k0 := 0) (x := a0) 0 rfl dX10_swap_42 ?_
      refine rt_iconst (pc := 43) (n := 3) (v := (3 : Int32)) (by decide) dX10_swap_43 ?_
      refine rt_lload_n (pc := 44) (k0 := 1) (x := a1) 1 rfl dX10_swap_44 ?_
      refine rt_iload_n (pc := 45) (k0 := 3) (x := a3) 2 rfl dX10_swap_45 ?_
      obtain ⟨v14, w13, e12, hf⟩ := ob2_of hf
      have g15 := sX10_write d (by omega) e12
      refine rt_callV (pc := 46) (As := [.int (3 : Int32), .long a1, .int a3]) (st := []) me_X10_write mi_X10_write wl_X10_94 dX10_swap_46 rfl (by decide) rfl g15.1 g15.2 ?_
      refine rt_istore (pc := 49) (i := 4) (x := v14) (l2 := [(4, .int v14), (0, va_rf a0), (1, .long a1), (3, .int a3)]) (by decide) (by first | rfl | (simp [rt_cat, cat_i, cat_l]; done) | (simp [rt_cat, cat_i, cat_l]; decide)) dX10_swap_49 ?_
      refine rt_aload_n (pc := 51) (k0 := 0) (x := a0) 1 rfl dX10_swap_51 ?_
      refine rt_iload (pc := 52) (i := 4) (x := v14) 0 rfl dX10_swap_52 ?_
      obtain ⟨v18, w17, e16, hf⟩ := ob2_of hf
      have g19 := sX10_actsOnMap d (by omega) e16
      refine rt_callV (pc := 54) (As := [.int v14]) (st := []) me_X10_actsOnMap mi_X10_actsOnMap wl_X10_98 dX10_swap_54 rfl (by decide) rfl g19.1 g19.2 ?_
      by_cases c20 : v18 = 0
      · rw [if_pos c20] at hf
        refine rt_if_eq_p (pc := 57) (x := v18) (tgt := 64) (by decide) dX10_swap_57 c20 ?_
        refine rt_iconst (pc := 64) (n := 0) (v := (0 : Int32)) (by decide) dX10_swap_64 ?_
        exact rt_locals (rt_sub [1, 2, 0] rfl) (rX10_swap_65 hd hf)
      rw [if_neg c20] at hf
      refine rt_if_eq_n (pc := 57) (x := v18) (tgt := 64) (by decide) dX10_swap_57 c20 ?_
      refine rt_iconst (pc := 60) (n := 1) (v := (1 : Int32)) (by decide) dX10_swap_60 ?_
      refine rt_goto (pc := 61) (tgt := 65) (by decide) dX10_swap_61 ?_
      exact rt_locals (rt_sub [1, 2, 0] rfl) (rX10_swap_65 hd hf)
    rw [if_neg c11] at hf
    refine rt_icmp_le_n (pc := 36) (x := (v9 - a3)) (z := (20 : Int32)) (tgt := 42) (by decide) dX10_swap_36 c11 ?_
    exact rt_locals (rt_sub [] rfl) (rX10_swap_39 hd hf)
  rw [if_neg c3] at hf
  refine rt_if_eq_n (pc := 4) (x := v1) (tgt := 10) (by decide) dX10_swap_4 c3 ?_
  refine rt_bipush (pc := 7) (n := -4) (v := (-4 : Int32)) (by decide) dX10_swap_7 ?_
  cases hf
  exact rt_ret (pc := 9) dX10_swap_9 rfl
noncomputable def fX10_swap (E : ah_E) (a0 : Option Nat) (a1 : Int64) (a3 : Int32) (h : ah_H) : Option (Int32 × ah_H) := if hp_rcv h a0 11 = false then none else bX10_swap_0 E a0 a1 a3 h
set_option maxRecDepth 20000 in
set_option maxHeartbeats 4000000 in
theorem sX10_swap {X : ah_X} (d : Nat) (hd : 142 ≤ d) {a0 : Option Nat} {a1 : Int64} {a3 : Int32} {h : ah_H} {r : Int32} {h2 : ah_H} (hf : fX10_swap X.2.2.2 a0 a1 a3 h = some (r, h2)) : hp_rcv h a0 11 = true ∧ Rn X yX10_swap cX10_swap 6 (some .int) d [va_rf a0, .long a1, .int a3] h (some (.int r)) h2 := by
  unfold fX10_swap at hf
  by_cases c0 : hp_rcv h a0 11 = false
  · rw [if_pos c0] at hf; cases hf
  rw [if_neg c0] at hf
  refine ⟨(Bool.not_eq_false _).mp c0, ?_⟩
  obtain ⟨d, rfl⟩ : ∃ k, d = k + 1 := ⟨d - 1, by omega⟩
  exact Rn.of2 me_X10_swap (by simp [lg_sl, rt_cat, cat_i, cat_l]) (ok_i _) (l := [(0, va_rf a0), (1, .long a1), (3, .int a3)]) (by simp [lv_args, rt_cat, cat_i, cat_l]) (rX10_swap_0 (by omega) hf)
noncomputable def bX10_sweep_57 (E : ah_E) (a0 : Option Nat) (a1 : Int64) (a3 : Int64) (a5 : Int32) (a6 : Int32) (s0 : Int32) (h : ah_H) : Option (Int32 × ah_H) :=
  (fX10_shut E a0 a6 s0 h).bind fun w2 =>
  (fX10_giveRoot E a0 a5 a1 a3 w2).bind fun w5 =>
  some ((s0 - a6), w5)
set_option maxRecDepth 20000 in
set_option maxHeartbeats 4000000 in
theorem rX10_sweep_57 {X : ah_X} {d : Nat} (hd : 141 ≤ d) {a0 : Option Nat} {a1 : Int64} {a3 : Int64} {a5 : Int32} {a6 : Int32} {s0 : Int32} {h : ah_H} {r : Int32} {h2 : ah_H} (hf : bX10_sweep_57 X.2.2.2 a0 a1 a3 a5 a6 s0 h = some (r, h2)) : Rt X yX10_sweep cX10_sweep 8 (d + 1) 57 [(0, va_rf a0), (1, .long a1), (3, .long a3), (5, .int a5), (6, .int a6)] [.int s0] h (some (.int r)) h2 := by
  unfold bX10_sweep_57 at hf
  refine rt_istore (pc := 57) (i := 7) (x := s0) (l2 := [(7, .int s0), (0, va_rf a0), (1, .long a1), (3, .long a3), (5, .int a5), (6, .int a6)]) (by decide) (by first | rfl | (simp [rt_cat, cat_i, cat_l]; done) | (simp [rt_cat, cat_i, cat_l]; decide)) dX10_sweep_57 ?_
  refine rt_aload_n (pc := 59) (k0 := 0) (x := a0) 1 rfl dX10_sweep_59 ?_
  refine rt_iload (pc := 60) (i := 6) (x := a6) 5 rfl dX10_sweep_60 ?_
  refine rt_iload (pc := 62) (i := 7) (x := s0) 0 rfl dX10_sweep_62 ?_
  obtain ⟨w2, e1, hf⟩ := ob1 hf
  have g3 := sX10_shut d (by omega) e1
  refine rt_callV (pc := 64) (As := [.int a6, .int s0]) (st := []) me_X10_shut mi_X10_shut wl_X10_83 dX10_sweep_64 rfl (by decide) rfl g3.1 g3.2 ?_
  refine rt_aload_n (pc := 67) (k0 := 0) (x := a0) 1 rfl dX10_sweep_67 ?_
  refine rt_iload (pc := 68) (i := 5) (x := a5) 4 rfl dX10_sweep_68 ?_
  refine rt_lload_n (pc := 70) (k0 := 1) (x := a1) 2 rfl dX10_sweep_70 ?_
  refine rt_lload_n (pc := 71) (k0 := 3) (x := a3) 3 rfl dX10_sweep_71 ?_
  obtain ⟨w5, e4, hf⟩ := ob1 hf
  have g6 := sX10_giveRoot d (by omega) e4
  refine rt_callV (pc := 72) (As := [.int a5, .long a1, .long a3]) (st := []) me_X10_giveRoot mi_X10_giveRoot wl_X10_101 dX10_sweep_72 rfl (by decide) rfl g6.1 g6.2 ?_
  refine rt_iload (pc := 75) (i := 7) (x := s0) 0 rfl dX10_sweep_75 ?_
  refine rt_iload (pc := 77) (i := 6) (x := a6) 5 rfl dX10_sweep_77 ?_
  refine rt_isub (pc := 79) (x := s0) (z := a6) dX10_sweep_79 ?_
  cases hf
  exact rt_ret (pc := 80) dX10_sweep_80 rfl
noncomputable def bX10_sweep_0 (E : ah_E) (a0 : Option Nat) (a1 : Int64) (a3 : Int64) (h : ah_H) : Option (Int32 × ah_H) :=
  (hp_gi h a0 11 51).bind fun v1 =>
  if v1 = 0 then
    if a1 ≤ a3 then
      ob2 (fX10_write E a0 (5 : Int32) a1 (0 : Int32) h) fun v7 w6 =>
      ob2 (fX10_place E a0 a1 w6) fun v11 w10 =>
      if a3 = (9223372036854775807 : Int64) then
        (hp_gi w10 a0 11 6).bind fun v14 =>
        bX10_sweep_57 E a0 a1 a3 v7 v11 v14 w10
      else
      ob2 (fX10_place E a0 (a3 + (1 : Int64)) w10) fun v18 w17 =>
      bX10_sweep_57 E a0 a1 a3 v7 v11 v18 w17
    else
    some ((-2 : Int32), h)
  else
  some ((-4 : Int32), h)
set_option maxRecDepth 20000 in
set_option maxHeartbeats 4000000 in
theorem rX10_sweep_0 {X : ah_X} {d : Nat} (hd : 141 ≤ d) {a0 : Option Nat} {a1 : Int64} {a3 : Int64} {h : ah_H} {r : Int32} {h2 : ah_H} (hf : bX10_sweep_0 X.2.2.2 a0 a1 a3 h = some (r, h2)) : Rt X yX10_sweep cX10_sweep 8 (d + 1) 0 [(0, va_rf a0), (1, .long a1), (3, .long a3)] [] h (some (.int r)) h2 := by
  unfold bX10_sweep_0 at hf
  refine rt_aload_n (pc := 0) (k0 := 0) (x := a0) 0 rfl dX10_sweep_0 ?_
  obtain ⟨v1, e2, hf⟩ := ob1 hf
  refine rt_gi (pc := 1) fd_X10_90 dX10_sweep_1 e2 ?_
  by_cases c3 : v1 = 0
  · rw [if_pos c3] at hf
    refine rt_if_eq_p (pc := 4) (x := v1) (tgt := 10) (by decide) dX10_sweep_4 c3 ?_
    refine rt_lload_n (pc := 10) (k0 := 3) (x := a3) 2 rfl dX10_sweep_10 ?_
    refine rt_lload_n (pc := 11) (k0 := 1) (x := a1) 1 rfl dX10_sweep_11 ?_
    by_cases c4 : a1 ≤ a3
    · rw [if_pos c4] at hf
      refine rt_lif_ge_p (pc := 12) (x := a3) (z := a1) (tgt := 19) (by decide) dX10_sweep_12 dX10_sweep_13 c4 ?_
      refine rt_aload_n (pc := 19) (k0 := 0) (x := a0) 0 rfl dX10_sweep_19 ?_
      refine rt_iconst (pc := 20) (n := 5) (v := (5 : Int32)) (by decide) dX10_sweep_20 ?_
      refine rt_lload_n (pc := 21) (k0 := 1) (x := a1) 1 rfl dX10_sweep_21 ?_
      refine rt_iconst (pc := 22) (n := 0) (v := (0 : Int32)) (by decide) dX10_sweep_22 ?_
      obtain ⟨v7, w6, e5, hf⟩ := ob2_of hf
      have g8 := sX10_write d (by omega) e5
      refine rt_callV (pc := 23) (As := [.int (5 : Int32), .long a1, .int (0 : Int32)]) (st := []) me_X10_write mi_X10_write wl_X10_94 dX10_sweep_23 rfl (by decide) rfl g8.1 g8.2 ?_
      refine rt_istore (pc := 26) (i := 5) (x := v7) (l2 := [(5, .int v7), (0, va_rf a0), (1, .long a1), (3, .long a3)]) (by decide) (by first | rfl | (simp [rt_cat, cat_i, cat_l]; done) | (simp [rt_cat, cat_i, cat_l]; decide)) dX10_sweep_26 ?_
      refine rt_aload_n (pc := 28) (k0 := 0) (x := a0) 1 rfl dX10_sweep_28 ?_
      refine rt_lload_n (pc := 29) (k0 := 1) (x := a1) 2 rfl dX10_sweep_29 ?_
      obtain ⟨v11, w10, e9, hf⟩ := ob2_of hf
      have g12 := sX10_place d (by omega) e9
      refine rt_callV (pc := 30) (As := [.long a1]) (st := []) me_X10_place mi_X10_place wl_X10_72 dX10_sweep_30 rfl (by decide) rfl g12.1 g12.2 ?_
      refine rt_istore (pc := 33) (i := 6) (x := v11) (l2 := [(6, .int v11), (5, .int v7), (0, va_rf a0), (1, .long a1), (3, .long a3)]) (by decide) (by first | rfl | (simp [rt_cat, cat_i, cat_l]; done) | (simp [rt_cat, cat_i, cat_l]; decide)) dX10_sweep_33 ?_
      refine rt_lload_n (pc := 35) (k0 := 3) (x := a3) 4 rfl dX10_sweep_35 ?_
      refine rt_ldc2 (pc := 36) wj_X10_105 dX10_sweep_36 ?_
      by_cases c13 : a3 = (9223372036854775807 : Int64)
      · rw [if_pos c13] at hf
        refine rt_lif_ne_p (pc := 39) (x := a3) (z := (9223372036854775807 : Int64)) (tgt := 50) (by decide) dX10_sweep_39 dX10_sweep_40 c13 ?_
        refine rt_aload_n (pc := 43) (k0 := 0) (x := a0) 2 rfl dX10_sweep_43 ?_
        obtain ⟨v14, e15, hf⟩ := ob1 hf
        refine rt_gi (pc := 44) fd_X10_16 dX10_sweep_44 e15 ?_
        refine rt_goto (pc := 47) (tgt := 57) (by decide) dX10_sweep_47 ?_
        exact rt_locals (rt_sub [2, 3, 4, 1, 0] rfl) (rX10_sweep_57 hd hf)
      rw [if_neg c13] at hf
      refine rt_lif_ne_n (pc := 39) (x := a3) (z := (9223372036854775807 : Int64)) (tgt := 50) (by decide) dX10_sweep_39 dX10_sweep_40 c13 ?_
      refine rt_aload_n (pc := 50) (k0 := 0) (x := a0) 2 rfl dX10_sweep_50 ?_
      refine rt_lload_n (pc := 51) (k0 := 3) (x := a3) 4 rfl dX10_sweep_51 ?_
      refine rt_lconst (pc := 52) (n := 1) (v := (1 : Int64)) (by decide) dX10_sweep_52 ?_
      refine rt_ladd (pc := 53) (x := a3) (z := (1 : Int64)) dX10_sweep_53 ?_
      obtain ⟨v18, w17, e16, hf⟩ := ob2_of hf
      have g19 := sX10_place d (by omega) e16
      refine rt_callV (pc := 54) (As := [.long (a3 + (1 : Int64))]) (st := []) me_X10_place mi_X10_place wl_X10_72 dX10_sweep_54 rfl (by decide) rfl g19.1 g19.2 ?_
      exact rt_locals (rt_sub [2, 3, 4, 1, 0] rfl) (rX10_sweep_57 hd hf)
    rw [if_neg c4] at hf
    refine rt_lif_ge_n (pc := 12) (x := a3) (z := a1) (tgt := 19) (by decide) dX10_sweep_12 dX10_sweep_13 c4 ?_
    refine rt_bipush (pc := 16) (n := -2) (v := (-2 : Int32)) (by decide) dX10_sweep_16 ?_
    cases hf
    exact rt_ret (pc := 18) dX10_sweep_18 rfl
  rw [if_neg c3] at hf
  refine rt_if_eq_n (pc := 4) (x := v1) (tgt := 10) (by decide) dX10_sweep_4 c3 ?_
  refine rt_bipush (pc := 7) (n := -4) (v := (-4 : Int32)) (by decide) dX10_sweep_7 ?_
  cases hf
  exact rt_ret (pc := 9) dX10_sweep_9 rfl
noncomputable def fX10_sweep (E : ah_E) (a0 : Option Nat) (a1 : Int64) (a3 : Int64) (h : ah_H) : Option (Int32 × ah_H) := if hp_rcv h a0 11 = false then none else bX10_sweep_0 E a0 a1 a3 h
set_option maxRecDepth 20000 in
set_option maxHeartbeats 4000000 in
theorem sX10_sweep {X : ah_X} (d : Nat) (hd : 142 ≤ d) {a0 : Option Nat} {a1 : Int64} {a3 : Int64} {h : ah_H} {r : Int32} {h2 : ah_H} (hf : fX10_sweep X.2.2.2 a0 a1 a3 h = some (r, h2)) : hp_rcv h a0 11 = true ∧ Rn X yX10_sweep cX10_sweep 8 (some .int) d [va_rf a0, .long a1, .long a3] h (some (.int r)) h2 := by
  unfold fX10_sweep at hf
  by_cases c0 : hp_rcv h a0 11 = false
  · rw [if_pos c0] at hf; cases hf
  rw [if_neg c0] at hf
  refine ⟨(Bool.not_eq_false _).mp c0, ?_⟩
  obtain ⟨d, rfl⟩ : ∃ k, d = k + 1 := ⟨d - 1, by omega⟩
  exact Rn.of2 me_X10_sweep (by simp [lg_sl, rt_cat, cat_i, cat_l]) (ok_i _) (l := [(0, va_rf a0), (1, .long a1), (3, .long a3)]) (by simp [lv_args, rt_cat, cat_i, cat_l]) (rX10_sweep_0 (by omega) hf)
noncomputable def bX10_sync_32 (E : ah_E) (s0 : Int32) (h : ah_H) : Option (Int32 × ah_H) :=
  some (s0, h)
set_option maxRecDepth 20000 in
set_option maxHeartbeats 4000000 in
theorem rX10_sync_32 {X : ah_X} {d : Nat} (hd : 50 ≤ d) {s0 : Int32} {h : ah_H} {r : Int32} {h2 : ah_H} (hf : bX10_sync_32 X.2.2.2 s0 h = some (r, h2)) : Rt X yX10_sync cX10_sync 2 (d + 1) 32 [] [.int s0] h (some (.int r)) h2 := by
  unfold bX10_sync_32 at hf
  cases hf
  exact rt_ret (pc := 32) dX10_sync_32 rfl
noncomputable def bX10_sync_0 (E : ah_E) (a0 : Option Nat) (h : ah_H) : Option (Int32 × ah_H) :=
  (hp_gi h a0 11 51).bind fun v1 =>
  if v1 = 0 then
    ob2 (fX10_freePlaces E a0 h) fun v6 w5 =>
    ob2 (fX10_changedPages E a0 w5) fun v10 w9 =>
    if v10 ≤ v6 then
      ob2 (fX10_writeAll E a0 w9) fun v15 w14 =>
      bX10_sync_32 E v15 w14
    else
    bX10_sync_32 E (-3 : Int32) w9
  else
  some ((-4 : Int32), h)
set_option maxRecDepth 20000 in
set_option maxHeartbeats 4000000 in
theorem rX10_sync_0 {X : ah_X} {d : Nat} (hd : 50 ≤ d) {a0 : Option Nat} {h : ah_H} {r : Int32} {h2 : ah_H} (hf : bX10_sync_0 X.2.2.2 a0 h = some (r, h2)) : Rt X yX10_sync cX10_sync 2 (d + 1) 0 [(0, va_rf a0)] [] h (some (.int r)) h2 := by
  unfold bX10_sync_0 at hf
  refine rt_aload_n (pc := 0) (k0 := 0) (x := a0) 0 rfl dX10_sync_0 ?_
  obtain ⟨v1, e2, hf⟩ := ob1 hf
  refine rt_gi (pc := 1) fd_X10_90 dX10_sync_1 e2 ?_
  by_cases c3 : v1 = 0
  · rw [if_pos c3] at hf
    refine rt_if_eq_p (pc := 4) (x := v1) (tgt := 10) (by decide) dX10_sync_4 c3 ?_
    refine rt_aload_n (pc := 10) (k0 := 0) (x := a0) 0 rfl dX10_sync_10 ?_
    obtain ⟨v6, w5, e4, hf⟩ := ob2_of hf
    have g7 := sX10_freePlaces d (by omega) e4
    refine rt_callV (pc := 11) (As := []) (st := []) me_X10_freePlaces mi_X10_freePlaces wl_X10_391 dX10_sync_11 rfl (by decide) rfl g7.1 g7.2 ?_
    refine rt_istore_n (pc := 14) (k0 := 1) (x := v6) (l2 := [(1, .int v6), (0, va_rf a0)]) (by decide) (by first | rfl | (simp [rt_cat, cat_i, cat_l]; done) | (simp [rt_cat, cat_i, cat_l]; decide)) dX10_sync_14 ?_
    refine rt_iload_n (pc := 15) (k0 := 1) (x := v6) 0 rfl dX10_sync_15 ?_
    refine rt_aload_n (pc := 16) (k0 := 0) (x := a0) 1 rfl dX10_sync_16 ?_
    obtain ⟨v10, w9, e8, hf⟩ := ob2_of hf
    have g11 := sX10_changedPages d (by omega) e8
    refine rt_callV (pc := 17) (As := []) (st := [.int v6]) me_X10_changedPages mi_X10_changedPages wl_X10_385 dX10_sync_17 rfl (by simp [rt_cat, cat_i, cat_l]) rfl g11.1 g11.2 ?_
    by_cases c12 : v10 ≤ v6
    · rw [if_pos c12] at hf
      refine rt_icmp_ge_p (pc := 20) (x := v6) (z := v10) (tgt := 28) (by decide) dX10_sync_20 c12 ?_
      refine rt_aload_n (pc := 28) (k0 := 0) (x := a0) 1 rfl dX10_sync_28 ?_
      obtain ⟨v15, w14, e13, hf⟩ := ob2_of hf
      have g16 := sX10_writeAll d (by omega) e13
      refine rt_callV (pc := 29) (As := []) (st := []) me_X10_writeAll mi_X10_writeAll wl_X10_394 dX10_sync_29 rfl (by decide) rfl g16.1 g16.2 ?_
      exact rt_locals (rt_sub [] rfl) (rX10_sync_32 hd hf)
    rw [if_neg c12] at hf
    refine rt_icmp_ge_n (pc := 20) (x := v6) (z := v10) (tgt := 28) (by decide) dX10_sync_20 c12 ?_
    refine rt_bipush (pc := 23) (n := -3) (v := (-3 : Int32)) (by decide) dX10_sync_23 ?_
    refine rt_goto (pc := 25) (tgt := 32) (by decide) dX10_sync_25 ?_
    exact rt_locals (rt_sub [] rfl) (rX10_sync_32 hd hf)
  rw [if_neg c3] at hf
  refine rt_if_eq_n (pc := 4) (x := v1) (tgt := 10) (by decide) dX10_sync_4 c3 ?_
  refine rt_bipush (pc := 7) (n := -4) (v := (-4 : Int32)) (by decide) dX10_sync_7 ?_
  cases hf
  exact rt_ret (pc := 9) dX10_sync_9 rfl
noncomputable def fX10_sync (E : ah_E) (a0 : Option Nat) (h : ah_H) : Option (Int32 × ah_H) := if hp_rcv h a0 11 = false then none else bX10_sync_0 E a0 h
set_option maxRecDepth 20000 in
set_option maxHeartbeats 4000000 in
theorem sX10_sync {X : ah_X} (d : Nat) (hd : 51 ≤ d) {a0 : Option Nat} {h : ah_H} {r : Int32} {h2 : ah_H} (hf : fX10_sync X.2.2.2 a0 h = some (r, h2)) : hp_rcv h a0 11 = true ∧ Rn X yX10_sync cX10_sync 2 (some .int) d [va_rf a0] h (some (.int r)) h2 := by
  unfold fX10_sync at hf
  by_cases c0 : hp_rcv h a0 11 = false
  · rw [if_pos c0] at hf; cases hf
  rw [if_neg c0] at hf
  refine ⟨(Bool.not_eq_false _).mp c0, ?_⟩
  obtain ⟨d, rfl⟩ : ∃ k, d = k + 1 := ⟨d - 1, by omega⟩
  exact Rn.of2 me_X10_sync (by simp [lg_sl, rt_cat, cat_i, cat_l]) (ok_i _) (l := [(0, va_rf a0)]) (by simp [lv_args, rt_cat, cat_i, cat_l]) (rX10_sync_0 (by omega) hf)
noncomputable def bX10_writes_19 (E : ah_E) (s0 : Int32) (h : ah_H) : Option (Int32 × ah_H) :=
  some (s0, h)
set_option maxRecDepth 20000 in
set_option maxHeartbeats 4000000 in
theorem rX10_writes_19 {X : ah_X} {d : Nat} {s0 : Int32} {h : ah_H} {r : Int32} {h2 : ah_H} (hf : bX10_writes_19 X.2.2.2 s0 h = some (r, h2)) : Rt X yX10_writes cX10_writes 2 d 19 [] [.int s0] h (some (.int r)) h2 := by
  unfold bX10_writes_19 at hf
  cases hf
  exact rt_ret (pc := 19) dX10_writes_19 rfl
noncomputable def bX10_writes_18 (E : ah_E) (h : ah_H) : Option (Int32 × ah_H) :=
  bX10_writes_19 E (-1 : Int32) h
set_option maxRecDepth 20000 in
set_option maxHeartbeats 4000000 in
theorem rX10_writes_18 {X : ah_X} {d : Nat}  {h : ah_H} {r : Int32} {h2 : ah_H} (hf : bX10_writes_18 X.2.2.2  h = some (r, h2)) : Rt X yX10_writes cX10_writes 2 d 18 [] [] h (some (.int r)) h2 := by
  unfold bX10_writes_18 at hf
  refine rt_iconst (pc := 18) (n := -1) (v := (-1 : Int32)) (by decide) dX10_writes_18 ?_
  exact rX10_writes_19 hf
noncomputable def bX10_writes_0 (E : ah_E) (a0 : Option Nat) (a1 : Int32) (h : ah_H) : Option (Int32 × ah_H) :=
  if a1 < 0 then
    bX10_writes_18 E  h
  else
  if (3 : Int32) < a1 then
    bX10_writes_18 E  h
  else
  (hp_gr h a0 11 75).bind fun v3 =>
  (hp_ldi h v3 a1).bind fun v5 =>
  bX10_writes_19 E v5 h
set_option maxRecDepth 20000 in
set_option maxHeartbeats 4000000 in
theorem rX10_writes_0 {X : ah_X} {d : Nat} {a0 : Option Nat} {a1 : Int32} {h : ah_H} {r : Int32} {h2 : ah_H} (hf : bX10_writes_0 X.2.2.2 a0 a1 h = some (r, h2)) : Rt X yX10_writes cX10_writes 2 d 0 [(0, va_rf a0), (1, .int a1)] [] h (some (.int r)) h2 := by
  unfold bX10_writes_0 at hf
  refine rt_iload_n (pc := 0) (k0 := 1) (x := a1) 1 rfl dX10_writes_0 ?_
  by_cases c1 : a1 < 0
  · rw [if_pos c1] at hf
    refine rt_if_lt_p (pc := 1) (x := a1) (tgt := 18) (by decide) dX10_writes_1 c1 ?_
    exact rt_locals (rt_sub [] rfl) (rX10_writes_18 hf)
  rw [if_neg c1] at hf
  refine rt_if_lt_n (pc := 1) (x := a1) (tgt := 18) (by decide) dX10_writes_1 c1 ?_
  refine rt_iload_n (pc := 4) (k0 := 1) (x := a1) 1 rfl dX10_writes_4 ?_
  refine rt_iconst (pc := 5) (n := 3) (v := (3 : Int32)) (by decide) dX10_writes_5 ?_
  by_cases c2 : (3 : Int32) < a1
  · rw [if_pos c2] at hf
    refine rt_icmp_gt_p (pc := 6) (x := a1) (z := (3 : Int32)) (tgt := 18) (by decide) dX10_writes_6 c2 ?_
    exact rt_locals (rt_sub [] rfl) (rX10_writes_18 hf)
  rw [if_neg c2] at hf
  refine rt_icmp_gt_n (pc := 6) (x := a1) (z := (3 : Int32)) (tgt := 18) (by decide) dX10_writes_6 c2 ?_
  refine rt_aload_n (pc := 9) (k0 := 0) (x := a0) 0 rfl dX10_writes_9 ?_
  obtain ⟨v3, e4, hf⟩ := ob1 hf
  refine rt_gr (pc := 10) fd_X10_261 dX10_writes_10 e4 ?_
  refine rt_iload_n (pc := 13) (k0 := 1) (x := a1) 1 rfl dX10_writes_13 ?_
  obtain ⟨v5, e6, hf⟩ := ob1 hf
  refine rt_iald (pc := 14) dX10_writes_14 e6 ?_
  refine rt_goto (pc := 15) (tgt := 19) (by decide) dX10_writes_15 ?_
  exact rt_locals (rt_sub [] rfl) (rX10_writes_19 hf)
noncomputable def fX10_writes (E : ah_E) (a0 : Option Nat) (a1 : Int32) (h : ah_H) : Option (Int32 × ah_H) := if hp_rcv h a0 11 = false then none else bX10_writes_0 E a0 a1 h
set_option maxRecDepth 20000 in
set_option maxHeartbeats 4000000 in
theorem sX10_writes {X : ah_X} (d : Nat) (hd : 0 ≤ d) {a0 : Option Nat} {a1 : Int32} {h : ah_H} {r : Int32} {h2 : ah_H} (hf : fX10_writes X.2.2.2 a0 a1 h = some (r, h2)) : hp_rcv h a0 11 = true ∧ Rn X yX10_writes cX10_writes 2 (some .int) d [va_rf a0, .int a1] h (some (.int r)) h2 := by
  unfold fX10_writes at hf
  by_cases c0 : hp_rcv h a0 11 = false
  · rw [if_pos c0] at hf; cases hf
  rw [if_neg c0] at hf
  refine ⟨(Bool.not_eq_false _).mp c0, ?_⟩
  exact Rn.of2 me_X10_writes (by simp [lg_sl, rt_cat, cat_i, cat_l]) (ok_i _) (l := [(0, va_rf a0), (1, .int a1)]) (by simp [lv_args, rt_cat, cat_i, cat_l]) (rX10_writes_0 hf)
