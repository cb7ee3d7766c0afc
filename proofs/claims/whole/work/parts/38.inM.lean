noncomputable def inM (a0 : Option Nat) (h : ah_H) (T : ah_H → Option ah_H) : Option ah_H :=
  if hp_rcv h a0 11 = false then none else
  (hp_na h 0 (40 : Int32) (.inl (fun _ => 0))).bind fun w3 =>
  (hp_pv w3 a0 11 1 (va_rf (some h.1))).bind fun w5 =>
  (hp_na w5 3 (4200 : Int32) (.inr (.inl (fun _ => 0)))).bind fun w7 =>
  (hp_pv w7 a0 11 3 (va_rf (some w5.1))).bind fun w9 =>
  (hp_na w9 2 (4200 : Int32) (.inl (fun _ => 0))).bind fun w11 =>
  (hp_pv w11 a0 11 4 (va_rf (some w9.1))).bind fun w13 =>
  (hp_na w13 0 (84000 : Int32) (.inl (fun _ => 0))).bind fun w15 =>
  (hp_pv w15 a0 11 5 (va_rf (some w13.1))).bind fun w17 =>
  (hp_na w17 2 (4200 : Int32) (.inl (fun _ => 0))).bind fun w19 =>
  (hp_pv w19 a0 11 8 (va_rf (some w17.1))).bind fun w21 =>
  (hp_na w21 3 (4200 : Int32) (.inr (.inl (fun _ => 0)))).bind fun w23 =>
  (hp_pv w23 a0 11 9 (va_rf (some w21.1))).bind fun w25 =>
  (hp_na w25 2 (4200 : Int32) (.inl (fun _ => 0))).bind fun w27 =>
  (hp_pv w27 a0 11 10 (va_rf (some w25.1))).bind fun w29 =>
  (hp_na w29 2 (4200 : Int32) (.inl (fun _ => 0))).bind fun w31 =>
  (hp_pv w31 a0 11 11 (va_rf (some w29.1))).bind fun w33 =>
  (hp_na w33 0 (168000 : Int32) (.inl (fun _ => 0))).bind fun w35 =>
  (hp_pv w35 a0 11 12 (va_rf (some w33.1))).bind fun w37 =>
  (hp_na w37 2 (4200 : Int32) (.inl (fun _ => 0))).bind fun w39 =>
  (hp_pv w39 a0 11 13 (va_rf (some w37.1))).bind fun w41 =>
  (hp_na w41 0 (20 : Int32) (.inl (fun _ => 0))).bind fun w43 =>
  (hp_pv w43 a0 11 16 (va_rf (some w41.1))).bind fun w45 =>
  (hp_na w45 1 (2700 : Int32) (.inl (fun _ => 0))).bind fun w47 =>
  (hp_pv w47 a0 11 18 (va_rf (some w45.1))).bind fun w49 =>
  (hp_na w49 2 (2700 : Int32) (.inl (fun _ => 0))).bind fun w51 =>
  (hp_pv w51 a0 11 19 (va_rf (some w49.1))).bind fun w53 =>
  (hp_na w53 2 (2700 : Int32) (.inl (fun _ => 0))).bind fun w55 =>
  (hp_pv w55 a0 11 20 (va_rf (some w53.1))).bind fun w57 =>
  (hp_na w57 2 (2700 : Int32) (.inl (fun _ => 0))).bind fun w59 =>
  (hp_pv w59 a0 11 21 (va_rf (some w57.1))).bind fun w61 =>
  (hp_na w61 2 (345600 : Int32) (.inl (fun _ => 0))).bind fun w63 =>
  (hp_pv w63 a0 11 22 (va_rf (some w61.1))).bind fun w65 =>
  (hp_na w65 3 (345600 : Int32) (.inr (.inl (fun _ => 0)))).bind fun w67 =>
  (hp_pv w67 a0 11 23 (va_rf (some w65.1))).bind fun w69 =>
  (hp_na w69 2 (2700 : Int32) (.inl (fun _ => 0))).bind fun w71 =>
  (hp_pv w71 a0 11 24 (va_rf (some w69.1))).bind fun w73 =>
  (hp_na w73 2 (2700 : Int32) (.inl (fun _ => 0))).bind fun w75 =>
  (hp_pv w75 a0 11 25 (va_rf (some w73.1))).bind fun w77 =>
  (hp_na w77 2 (2700 : Int32) (.inl (fun _ => 0))).bind fun w79 =>
  (hp_pv w79 a0 11 26 (va_rf (some w77.1))).bind fun w81 =>
  (hp_na w81 2 (2700 : Int32) (.inl (fun _ => 0))).bind fun w83 =>
  (hp_pv w83 a0 11 27 (va_rf (some w81.1))).bind fun w85 =>
  (hp_na w85 2 (2700 : Int32) (.inl (fun _ => 0))).bind fun w87 =>
  (hp_pv w87 a0 11 28 (va_rf (some w85.1))).bind fun w89 =>
  (hp_na w89 3 (7000 : Int32) (.inr (.inl (fun _ => 0)))).bind fun w91 =>
  (hp_pv w91 a0 11 31 (va_rf (some w89.1))).bind fun w93 =>
  (hp_na w93 2 (7000 : Int32) (.inl (fun _ => 0))).bind fun w95 =>
  (hp_pv w95 a0 11 32 (va_rf (some w93.1))).bind fun w97 =>
  (hp_na w97 0 (140000 : Int32) (.inl (fun _ => 0))).bind fun w99 =>
  (hp_pv w99 a0 11 33 (va_rf (some w97.1))).bind fun w101 =>
  (hp_na w101 2 (7000 : Int32) (.inl (fun _ => 0))).bind fun w103 =>
  (hp_pv w103 a0 11 34 (va_rf (some w101.1))).bind fun w105 =>
  (hp_na w105 2 (14000 : Int32) (.inl (fun _ => 0))).bind fun w107 =>
  (hp_pv w107 a0 11 36 (va_rf (some w105.1))).bind fun w109 =>
  (hp_na w109 3 (14000 : Int32) (.inr (.inl (fun _ => 0)))).bind fun w111 =>
  (hp_pv w111 a0 11 37 (va_rf (some w109.1))).bind fun w113 =>
  (hp_na w113 3 (14000 : Int32) (.inr (.inl (fun _ => 0)))).bind fun w115 =>
  (hp_pv w115 a0 11 38 (va_rf (some w113.1))).bind fun w117 =>
  (hp_na w117 2 (14000 : Int32) (.inl (fun _ => 0))).bind fun w119 =>
  (hp_pv w119 a0 11 39 (va_rf (some w117.1))).bind fun w121 =>
  (hp_na w121 2 (14000 : Int32) (.inl (fun _ => 0))).bind fun w123 =>
  (hp_pv w123 a0 11 41 (va_rf (some w121.1))).bind fun w125 =>
  (hp_na w125 2 (128 : Int32) (.inl (fun _ => 0))).bind fun w127 =>
  (hp_pv w127 a0 11 43 (va_rf (some w125.1))).bind fun w129 =>
  (hp_na w129 2 (64 : Int32) (.inl (fun _ => 0))).bind fun w131 =>
  (hp_pv w131 a0 11 44 (va_rf (some w129.1))).bind fun w133 =>
  (hp_na w133 3 (64 : Int32) (.inr (.inl (fun _ => 0)))).bind fun w135 =>
  (hp_pv w135 a0 11 45 (va_rf (some w133.1))).bind fun w137 =>
  (hp_na w137 2 (2700 : Int32) (.inl (fun _ => 0))).bind fun w139 =>
  (hp_pv w139 a0 11 47 (va_rf (some w137.1))).bind fun w141 =>
  (hp_na w141 2 (2700 : Int32) (.inl (fun _ => 0))).bind fun w143 =>
  (hp_pv w143 a0 11 48 (va_rf (some w141.1))).bind fun w145 =>
  (hp_na w145 2 (2700 : Int32) (.inl (fun _ => 0))).bind fun w147 =>
  (hp_pv w147 a0 11 49 (va_rf (some w145.1))).bind fun w149 =>
  (hp_na w149 1 (1000 : Int32) (.inl (fun _ => 0))).bind fun w151 =>
  (hp_pv w151 a0 11 52 (va_rf (some w149.1))).bind fun w153 =>
  (hp_na w153 2 (1000 : Int32) (.inl (fun _ => 0))).bind fun w155 =>
  (hp_pv w155 a0 11 53 (va_rf (some w153.1))).bind fun w157 =>
  (hp_na w157 3 (6000 : Int32) (.inr (.inl (fun _ => 0)))).bind fun w159 =>
  (hp_pv w159 a0 11 54 (va_rf (some w157.1))).bind fun w161 =>
  (hp_na w161 2 (6000 : Int32) (.inl (fun _ => 0))).bind fun w163 =>
  (hp_pv w163 a0 11 55 (va_rf (some w161.1))).bind fun w165 =>
  (hp_na w165 0 (120000 : Int32) (.inl (fun _ => 0))).bind fun w167 =>
  (hp_pv w167 a0 11 56 (va_rf (some w165.1))).bind fun w169 =>
  (hp_na w169 2 (6000 : Int32) (.inl (fun _ => 0))).bind fun w171 =>
  (hp_pv w171 a0 11 57 (va_rf (some w169.1))).bind fun w173 =>
  (hp_na w173 2 (1000 : Int32) (.inl (fun _ => 0))).bind fun w175 =>
  (hp_pv w175 a0 11 58 (va_rf (some w173.1))).bind fun w177 =>
  (hp_na w177 2 (8000 : Int32) (.inl (fun _ => 0))).bind fun w179 =>
  (hp_pv w179 a0 11 59 (va_rf (some w177.1))).bind fun w181 =>
  (hp_na w181 3 (8000 : Int32) (.inr (.inl (fun _ => 0)))).bind fun w183 =>
  (hp_pv w183 a0 11 60 (va_rf (some w181.1))).bind fun w185 =>
  (hp_na w185 3 (8000 : Int32) (.inr (.inl (fun _ => 0)))).bind fun w187 =>
  (hp_pv w187 a0 11 61 (va_rf (some w185.1))).bind fun w189 =>
  (hp_na w189 2 (2 : Int32) (.inl (fun _ => 0))).bind fun w191 =>
  (hp_pv w191 a0 11 62 (va_rf (some w189.1))).bind fun w193 =>
  (hp_na w193 2 (2 : Int32) (.inl (fun _ => 0))).bind fun w195 =>
  (hp_pv w195 a0 11 63 (va_rf (some w193.1))).bind fun w197 =>
  (hp_na w197 2 (2 : Int32) (.inl (fun _ => 0))).bind fun w199 =>
  (hp_pv w199 a0 11 64 (va_rf (some w197.1))).bind fun w201 =>
  (hp_na w201 2 (2 : Int32) (.inl (fun _ => 0))).bind fun w203 =>
  (hp_pv w203 a0 11 65 (va_rf (some w201.1))).bind fun w205 =>
  (hp_na w205 2 (2 : Int32) (.inl (fun _ => 0))).bind fun w207 =>
  (hp_pv w207 a0 11 66 (va_rf (some w205.1))).bind fun w209 =>
  (hp_na w209 2 (24 : Int32) (.inl (fun _ => 0))).bind fun w211 =>
  (hp_pv w211 a0 11 67 (va_rf (some w209.1))).bind fun w213 =>
  (hp_na w213 2 (24 : Int32) (.inl (fun _ => 0))).bind fun w215 =>
  (hp_pv w215 a0 11 68 (va_rf (some w213.1))).bind fun w217 =>
  (hp_na w217 2 (13 : Int32) (.inl (fun _ => 0))).bind fun w219 =>
  (hp_pv w219 a0 11 69 (va_rf (some w217.1))).bind fun w221 =>
  (hp_na w221 2 (13 : Int32) (.inl (fun _ => 0))).bind fun w223 =>
  (hp_pv w223 a0 11 70 (va_rf (some w221.1))).bind fun w225 =>
  (hp_pv w225 a0 11 72 (.int (1 : Int32))).bind fun w227 =>
  (hp_na w227 2 (4 : Int32) (.inl (fun _ => 0))).bind fun w229 =>
  (hp_pv w229 a0 11 75 (va_rf (some w227.1))).bind fun w231 =>
  (hp_na w231 1 (1000 : Int32) (.inl (fun _ => 0))).bind fun w233 =>
  (hp_pv w233 a0 11 76 (va_rf (some w231.1))).bind fun w235 =>
  (hp_na w235 2 (60 : Int32) (.inl (fun _ => 0))).bind fun w237 =>
  (hp_pv w237 a0 11 77 (va_rf (some w235.1))).bind fun w239 =>
  T w239
noncomputable def tlM (E : ah_E) (a0 : Option Nat) (w : ah_H) : Option ah_H :=
  (fX10_clearPages E a0 w).bind fun w242 =>
  ob2 (fX10_page E a0 (1 : Int32) w242) fun v246 w245 =>
  (hp_pv w245 a0 11 30 (.int v246)).bind fun w248 =>
  some w248
theorem inM_eq (E : ah_E) (a0 : Option Nat) (h : ah_H) : bX10_init_0 E a0 h = inM a0 h (tlM E a0) := rfl
theorem nf_len : nf_11.length = 78 := rfl
def rowL : List ah_C := [.inl (0, 40, .inl (fun _ => 0)), .inl (3, 4200, .inr (.inl (fun _ => 0))), .inl (2, 4200, .inl (fun _ => 0)), .inl (0, 84000, .inl (fun _ => 0)), .inl (2, 4200, .inl (fun _ => 0)), .inl (3, 4200, .inr (.inl (fun _ => 0))), .inl (2, 4200, .inl (fun _ => 0)), .inl (2, 4200, .inl (fun _ => 0)), .inl (0, 168000, .inl (fun _ => 0)), .inl (2, 4200, .inl (fun _ => 0)), .inl (0, 20, .inl (fun _ => 0)), .inl (1, 2700, .inl (fun _ => 0)), .inl (2, 2700, .inl (fun _ => 0)), .inl (2, 2700, .inl (fun _ => 0)), .inl (2, 2700, .inl (fun _ => 0)), .inl (2, 345600, .inl (fun _ => 0)), .inl (3, 345600, .inr (.inl (fun _ => 0))), .inl (2, 2700, .inl (fun _ => 0)), .inl (2, 2700, .inl (fun _ => 0)), .inl (2, 2700, .inl (fun _ => 0)), .inl (2, 2700, .inl (fun _ => 0)), .inl (2, 2700, .inl (fun _ => 0)), .inl (3, 7000, .inr (.inl (fun _ => 0))), .inl (2, 7000, .inl (fun _ => 0)), .inl (0, 140000, .inl (fun _ => 0)), .inl (2, 7000, .inl (fun _ => 0)), .inl (2, 14000, .inl (fun _ => 0)), .inl (3, 14000, .inr (.inl (fun _ => 0))), .inl (3, 14000, .inr (.inl (fun _ => 0))), .inl (2, 14000, .inl (fun _ => 0)), .inl (2, 14000, .inl (fun _ => 0)), .inl (2, 128, .inl (fun _ => 0)), .inl (2, 64, .inl (fun _ => 0)), .inl (3, 64, .inr (.inl (fun _ => 0))), .inl (2, 2700, .inl (fun _ => 0)), .inl (2, 2700, .inl (fun _ => 0)), .inl (2, 2700, .inl (fun _ => 0)), .inl (1, 1000, .inl (fun _ => 0)), .inl (2, 1000, .inl (fun _ => 0)), .inl (3, 6000, .inr (.inl (fun _ => 0))), .inl (2, 6000, .inl (fun _ => 0)), .inl (0, 120000, .inl (fun _ => 0)), .inl (2, 6000, .inl (fun _ => 0)), .inl (2, 1000, .inl (fun _ => 0)), .inl (2, 8000, .inl (fun _ => 0)), .inl (3, 8000, .inr (.inl (fun _ => 0))), .inl (3, 8000, .inr (.inl (fun _ => 0))), .inl (2, 2, .inl (fun _ => 0)), .inl (2, 2, .inl (fun _ => 0)), .inl (2, 2, .inl (fun _ => 0)), .inl (2, 2, .inl (fun _ => 0)), .inl (2, 2, .inl (fun _ => 0)), .inl (2, 24, .inl (fun _ => 0)), .inl (2, 24, .inl (fun _ => 0)), .inl (2, 13, .inl (fun _ => 0)), .inl (2, 13, .inl (fun _ => 0)), .inl (2, 4, .inl (fun _ => 0)), .inl (1, 1000, .inl (fun _ => 0)), .inl (2, 60, .inl (fun _ => 0))]
def St (m : Nat) (h0 W : ah_H) (k s : Nat) (fs : List Value) : Prop := W.1 = m + (k + 1) ∧ W.2.1 = s ∧ W.2.2 m = some (.inr (11, fs)) ∧ fs.length = 78 ∧ (∀ j c, rowL[j]? = some c → j < k → W.2.2 (m + (j + 1)) = some c) ∧ (∀ b, b < m ∨ m + k < b → W.2.2 b = h0.2.2 b)
theorem inS {m k s n f : Nat} {h0 W : ah_H} {fs : List Value} {kd : Nat} {i : Int32} {z : (Nat → Int32) ⊕ (Nat → Int64) ⊕ (Nat → UInt32) ⊕ (Nat → UInt64) ⊕ (Nat → Option Nat)} (S : St m h0 W k s fs) (hi : ¬ (i < 0 ∨ 1000000 < i.toNatClampNeg)) (hn : i.toNatClampNeg = n) (hA : rowL[k]? = some (.inl (kd, n, z))) (hf : f < 78) : ∃ W2, (∀ K : ah_H → Option ah_H, ((hp_na W kd i z).bind fun w3 => (hp_pv w3 (some m) 11 f (va_rf (some W.1))).bind fun w5 => K w5) = K W2) ∧ St m h0 W2 (k + 1) (s + n) (fs.set f (.ref (m + (k + 1)))) := by
  obtain ⟨s1, s2, s3, s4, s5, s6⟩ := S
  have e1 : hp_na W kd i z = some (ah_new W (.inl (kd, n, z)) n) := by
    unfold hp_na
    rw [if_neg hi, hn]
  have g : (ah_new W (.inl (kd, n, z)) n).2.2 m = some (.inr (11, fs)) := by
    rw [rn_ne (by omega)]
    exact s3
  have e2 : hp_pv (ah_new W (.inl (kd, n, z)) n) (some m) 11 f (va_rf (some W.1)) = some (ah_set (ah_new W (.inl (kd, n, z)) n) m (.inr (11, fs.set f (.ref (m + (k + 1)))))) := by
    rw [rd_p_of, g, rd_p_o, if_pos (by omega), s1]
    rfl
  refine ⟨ah_set (ah_new W (.inl (kd, n, z)) n) m (.inr (11, fs.set f (.ref (m + (k + 1))))), fun K => by rw [e1]; simp only [Option.bind_some, e2], ?_, ?_, ?_, ?_, fun j c hj hk => ?_, fun b hb => ?_⟩
  · simp only [rs_1, rn_1]; omega
  · simp only [rs_2, rn_2]; omega
  · rw [rs_at, if_pos rfl]
  · rw [List.length_set]; exact s4
  · rw [rs_ne (by omega)]
    by_cases e : j = k
    · subst e
      rw [rn_at, if_pos (by omega)]
      rw [hA] at hj
      cases hj
      rfl
    · rw [rn_ne (by omega)]
      exact s5 j c hj (by omega)
  · rw [rs_ne (by omega), rn_at, if_neg (by omega)]
    exact s6 b (by omega)
theorem inP {m k s f : Nat} {h0 W : ah_H} {fs : List Value} {v : Value} (S : St m h0 W k s fs) (hf : f < 78) : ∃ W2, (∀ K : ah_H → Option ah_H, ((hp_pv W (some m) 11 f v).bind fun w5 => K w5) = K W2) ∧ St m h0 W2 k s (fs.set f v) := by
  obtain ⟨s1, s2, s3, s4, s5, s6⟩ := S
  have e2 : hp_pv W (some m) 11 f v = some (ah_set W m (.inr (11, fs.set f v))) := by
    rw [rd_p_of, s3, rd_p_o, if_pos (by omega)]
  refine ⟨ah_set W m (.inr (11, fs.set f v)), fun K => by simp only [Option.bind_some, e2], s1, s2, ?_, ?_, fun j c hj hk => ?_, fun b hb => ?_⟩
  · rw [rs_at, if_pos rfl]
  · rw [List.length_set]; exact s4
  · rw [rs_ne (by omega)]
    exact s5 j c hj hk
  · rw [rs_ne (by omega)]
    exact s6 b hb
set_option maxRecDepth 100000 in
set_option maxHeartbeats 1000000 in
theorem inM_run {m : Nat} {h : ah_H} (hn : h.1 = m) : ∃ W, (∀ T, inM (some m) (ah_new h (.inr (11, nf_11)) 78) T = T W) ∧ St m h W 59 (h.2.1 + 78 + 1402464) (preM m) := by
  have S0 : St m h (ah_new h (.inr (11, nf_11)) 78) 0 (h.2.1 + 78) nf_11 := ⟨by rw [rn_1, hn], rfl, by rw [rn_at, if_pos hn.symm], rfl, fun j c hj hk => absurd hk (Nat.not_lt_zero j), fun b hb => by rw [rn_at, if_neg (by omega)]⟩
  obtain ⟨W1, e1, S1⟩ := inS (f := 1) (kd := 0) (i := 40) (z := .inl (fun _ => 0)) (n := 40) S0 (by decide) (by decide) rfl (by decide)
  obtain ⟨W2, e2, S2⟩ := inS (f := 3) (kd := 3) (i := 4200) (z := .inr (.inl (fun _ => 0))) (n := 4200) S1 (by decide) (by decide) rfl (by decide)
  obtain ⟨W3, e3, S3⟩ := inS (f := 4) (kd := 2) (i := 4200) (z := .inl (fun _ => 0)) (n := 4200) S2 (by decide) (by decide) rfl (by decide)
  obtain ⟨W4, e4, S4⟩ := inS (f := 5) (kd := 0) (i := 84000) (z := .inl (fun _ => 0)) (n := 84000) S3 (by decide) (by decide) rfl (by decide)
  obtain ⟨W5, e5, S5⟩ := inS (f := 8) (kd := 2) (i := 4200) (z := .inl (fun _ => 0)) (n := 4200) S4 (by decide) (by decide) rfl (by decide)
  obtain ⟨W6, e6, S6⟩ := inS (f := 9) (kd := 3) (i := 4200) (z := .inr (.inl (fun _ => 0))) (n := 4200) S5 (by decide) (by decide) rfl (by decide)
  obtain ⟨W7, e7, S7⟩ := inS (f := 10) (kd := 2) (i := 4200) (z := .inl (fun _ => 0)) (n := 4200) S6 (by decide) (by decide) rfl (by decide)
  obtain ⟨W8, e8, S8⟩ := inS (f := 11) (kd := 2) (i := 4200) (z := .inl (fun _ => 0)) (n := 4200) S7 (by decide) (by decide) rfl (by decide)
  obtain ⟨W9, e9, S9⟩ := inS (f := 12) (kd := 0) (i := 168000) (z := .inl (fun _ => 0)) (n := 168000) S8 (by decide) (by decide) rfl (by decide)
  obtain ⟨W10, e10, S10⟩ := inS (f := 13) (kd := 2) (i := 4200) (z := .inl (fun _ => 0)) (n := 4200) S9 (by decide) (by decide) rfl (by decide)
  obtain ⟨W11, e11, S11⟩ := inS (f := 16) (kd := 0) (i := 20) (z := .inl (fun _ => 0)) (n := 20) S10 (by decide) (by decide) rfl (by decide)
  obtain ⟨W12, e12, S12⟩ := inS (f := 18) (kd := 1) (i := 2700) (z := .inl (fun _ => 0)) (n := 2700) S11 (by decide) (by decide) rfl (by decide)
  obtain ⟨W13, e13, S13⟩ := inS (f := 19) (kd := 2) (i := 2700) (z := .inl (fun _ => 0)) (n := 2700) S12 (by decide) (by decide) rfl (by decide)
  obtain ⟨W14, e14, S14⟩ := inS (f := 20) (kd := 2) (i := 2700) (z := .inl (fun _ => 0)) (n := 2700) S13 (by decide) (by decide) rfl (by decide)
  obtain ⟨W15, e15, S15⟩ := inS (f := 21) (kd := 2) (i := 2700) (z := .inl (fun _ => 0)) (n := 2700) S14 (by decide) (by decide) rfl (by decide)
  obtain ⟨W16, e16, S16⟩ := inS (f := 22) (kd := 2) (i := 345600) (z := .inl (fun _ => 0)) (n := 345600) S15 (by decide) (by decide) rfl (by decide)
  obtain ⟨W17, e17, S17⟩ := inS (f := 23) (kd := 3) (i := 345600) (z := .inr (.inl (fun _ => 0))) (n := 345600) S16 (by decide) (by decide) rfl (by decide)
  obtain ⟨W18, e18, S18⟩ := inS (f := 24) (kd := 2) (i := 2700) (z := .inl (fun _ => 0)) (n := 2700) S17 (by decide) (by decide) rfl (by decide)
  obtain ⟨W19, e19, S19⟩ := inS (f := 25) (kd := 2) (i := 2700) (z := .inl (fun _ => 0)) (n := 2700) S18 (by decide) (by decide) rfl (by decide)
  obtain ⟨W20, e20, S20⟩ := inS (f := 26) (kd := 2) (i := 2700) (z := .inl (fun _ => 0)) (n := 2700) S19 (by decide) (by decide) rfl (by decide)
  obtain ⟨W21, e21, S21⟩ := inS (f := 27) (kd := 2) (i := 2700) (z := .inl (fun _ => 0)) (n := 2700) S20 (by decide) (by decide) rfl (by decide)
  obtain ⟨W22, e22, S22⟩ := inS (f := 28) (kd := 2) (i := 2700) (z := .inl (fun _ => 0)) (n := 2700) S21 (by decide) (by decide) rfl (by decide)
  obtain ⟨W23, e23, S23⟩ := inS (f := 31) (kd := 3) (i := 7000) (z := .inr (.inl (fun _ => 0))) (n := 7000) S22 (by decide) (by decide) rfl (by decide)
  obtain ⟨W24, e24, S24⟩ := inS (f := 32) (kd := 2) (i := 7000) (z := .inl (fun _ => 0)) (n := 7000) S23 (by decide) (by decide) rfl (by decide)
  obtain ⟨W25, e25, S25⟩ := inS (f := 33) (kd := 0) (i := 140000) (z := .inl (fun _ => 0)) (n := 140000) S24 (by decide) (by decide) rfl (by decide)
  obtain ⟨W26, e26, S26⟩ := inS (f := 34) (kd := 2) (i := 7000) (z := .inl (fun _ => 0)) (n := 7000) S25 (by decide) (by decide) rfl (by decide)
  obtain ⟨W27, e27, S27⟩ := inS (f := 36) (kd := 2) (i := 14000) (z := .inl (fun _ => 0)) (n := 14000) S26 (by decide) (by decide) rfl (by decide)
  obtain ⟨W28, e28, S28⟩ := inS (f := 37) (kd := 3) (i := 14000) (z := .inr (.inl (fun _ => 0))) (n := 14000) S27 (by decide) (by decide) rfl (by decide)
  obtain ⟨W29, e29, S29⟩ := inS (f := 38) (kd := 3) (i := 14000) (z := .inr (.inl (fun _ => 0))) (n := 14000) S28 (by decide) (by decide) rfl (by decide)
  obtain ⟨W30, e30, S30⟩ := inS (f := 39) (kd := 2) (i := 14000) (z := .inl (fun _ => 0)) (n := 14000) S29 (by decide) (by decide) rfl (by decide)
  obtain ⟨W31, e31, S31⟩ := inS (f := 41) (kd := 2) (i := 14000) (z := .inl (fun _ => 0)) (n := 14000) S30 (by decide) (by decide) rfl (by decide)
  obtain ⟨W32, e32, S32⟩ := inS (f := 43) (kd := 2) (i := 128) (z := .inl (fun _ => 0)) (n := 128) S31 (by decide) (by decide) rfl (by decide)
  obtain ⟨W33, e33, S33⟩ := inS (f := 44) (kd := 2) (i := 64) (z := .inl (fun _ => 0)) (n := 64) S32 (by decide) (by decide) rfl (by decide)
  obtain ⟨W34, e34, S34⟩ := inS (f := 45) (kd := 3) (i := 64) (z := .inr (.inl (fun _ => 0))) (n := 64) S33 (by decide) (by decide) rfl (by decide)
  obtain ⟨W35, e35, S35⟩ := inS (f := 47) (kd := 2) (i := 2700) (z := .inl (fun _ => 0)) (n := 2700) S34 (by decide) (by decide) rfl (by decide)
  obtain ⟨W36, e36, S36⟩ := inS (f := 48) (kd := 2) (i := 2700) (z := .inl (fun _ => 0)) (n := 2700) S35 (by decide) (by decide) rfl (by decide)
  obtain ⟨W37, e37, S37⟩ := inS (f := 49) (kd := 2) (i := 2700) (z := .inl (fun _ => 0)) (n := 2700) S36 (by decide) (by decide) rfl (by decide)
  obtain ⟨W38, e38, S38⟩ := inS (f := 52) (kd := 1) (i := 1000) (z := .inl (fun _ => 0)) (n := 1000) S37 (by decide) (by decide) rfl (by decide)
  obtain ⟨W39, e39, S39⟩ := inS (f := 53) (kd := 2) (i := 1000) (z := .inl (fun _ => 0)) (n := 1000) S38 (by decide) (by decide) rfl (by decide)
  obtain ⟨W40, e40, S40⟩ := inS (f := 54) (kd := 3) (i := 6000) (z := .inr (.inl (fun _ => 0))) (n := 6000) S39 (by decide) (by decide) rfl (by decide)
  obtain ⟨W41, e41, S41⟩ := inS (f := 55) (kd := 2) (i := 6000) (z := .inl (fun _ => 0)) (n := 6000) S40 (by decide) (by decide) rfl (by decide)
  obtain ⟨W42, e42, S42⟩ := inS (f := 56) (kd := 0) (i := 120000) (z := .inl (fun _ => 0)) (n := 120000) S41 (by decide) (by decide) rfl (by decide)
  obtain ⟨W43, e43, S43⟩ := inS (f := 57) (kd := 2) (i := 6000) (z := .inl (fun _ => 0)) (n := 6000) S42 (by decide) (by decide) rfl (by decide)
  obtain ⟨W44, e44, S44⟩ := inS (f := 58) (kd := 2) (i := 1000) (z := .inl (fun _ => 0)) (n := 1000) S43 (by decide) (by decide) rfl (by decide)
  obtain ⟨W45, e45, S45⟩ := inS (f := 59) (kd := 2) (i := 8000) (z := .inl (fun _ => 0)) (n := 8000) S44 (by decide) (by decide) rfl (by decide)
  obtain ⟨W46, e46, S46⟩ := inS (f := 60) (kd := 3) (i := 8000) (z := .inr (.inl (fun _ => 0))) (n := 8000) S45 (by decide) (by decide) rfl (by decide)
  obtain ⟨W47, e47, S47⟩ := inS (f := 61) (kd := 3) (i := 8000) (z := .inr (.inl (fun _ => 0))) (n := 8000) S46 (by decide) (by decide) rfl (by decide)
  obtain ⟨W48, e48, S48⟩ := inS (f := 62) (kd := 2) (i := 2) (z := .inl (fun _ => 0)) (n := 2) S47 (by decide) (by decide) rfl (by decide)
  obtain ⟨W49, e49, S49⟩ := inS (f := 63) (kd := 2) (i := 2) (z := .inl (fun _ => 0)) (n := 2) S48 (by decide) (by decide) rfl (by decide)
  obtain ⟨W50, e50, S50⟩ := inS (f := 64) (kd := 2) (i := 2) (z := .inl (fun _ => 0)) (n := 2) S49 (by decide) (by decide) rfl (by decide)
  obtain ⟨W51, e51, S51⟩ := inS (f := 65) (kd := 2) (i := 2) (z := .inl (fun _ => 0)) (n := 2) S50 (by decide) (by decide) rfl (by decide)
  obtain ⟨W52, e52, S52⟩ := inS (f := 66) (kd := 2) (i := 2) (z := .inl (fun _ => 0)) (n := 2) S51 (by decide) (by decide) rfl (by decide)
  obtain ⟨W53, e53, S53⟩ := inS (f := 67) (kd := 2) (i := 24) (z := .inl (fun _ => 0)) (n := 24) S52 (by decide) (by decide) rfl (by decide)
  obtain ⟨W54, e54, S54⟩ := inS (f := 68) (kd := 2) (i := 24) (z := .inl (fun _ => 0)) (n := 24) S53 (by decide) (by decide) rfl (by decide)
  obtain ⟨W55, e55, S55⟩ := inS (f := 69) (kd := 2) (i := 13) (z := .inl (fun _ => 0)) (n := 13) S54 (by decide) (by decide) rfl (by decide)
  obtain ⟨W56, e56, S56⟩ := inS (f := 70) (kd := 2) (i := 13) (z := .inl (fun _ => 0)) (n := 13) S55 (by decide) (by decide) rfl (by decide)
  obtain ⟨W57, e57, S57⟩ := inP (f := 72) (v := .int 1) S56 (by decide)
  obtain ⟨W58, e58, S58⟩ := inS (f := 75) (kd := 2) (i := 4) (z := .inl (fun _ => 0)) (n := 4) S57 (by decide) (by decide) rfl (by decide)
  obtain ⟨W59, e59, S59⟩ := inS (f := 76) (kd := 1) (i := 1000) (z := .inl (fun _ => 0)) (n := 1000) S58 (by decide) (by decide) rfl (by decide)
  obtain ⟨W60, e60, S60⟩ := inS (f := 77) (kd := 2) (i := 60) (z := .inl (fun _ => 0)) (n := 60) S59 (by decide) (by decide) rfl (by decide)
  have fin : St m h W60 59 (h.2.1 + 78 + 1402464) (preM m) := by
    obtain ⟨s1, s2, s3, s4, s5, s6⟩ := S60
    simp only [nf_11, List.set_cons_succ, List.set_cons_zero, Nat.zero_add, Nat.reduceAdd] at s3
    exact ⟨s1, by omega, s3, rfl, s5, s6⟩
  refine ⟨W60, fun T => ?_, fin⟩
  unfold inM
  rw [show hp_rcv (ah_new h (.inr (11, nf_11)) 78) (some m) 11 = true from by rw [rd_c_of, rn_at, if_pos hn.symm, rd_c_o], if_neg (by decide)]
  refine (e1 _).trans ?_
  refine (e2 _).trans ?_
  refine (e3 _).trans ?_
  refine (e4 _).trans ?_
  refine (e5 _).trans ?_
  refine (e6 _).trans ?_
  refine (e7 _).trans ?_
  refine (e8 _).trans ?_
  refine (e9 _).trans ?_
  refine (e10 _).trans ?_
  refine (e11 _).trans ?_
  refine (e12 _).trans ?_
  refine (e13 _).trans ?_
  refine (e14 _).trans ?_
  refine (e15 _).trans ?_
  refine (e16 _).trans ?_
  refine (e17 _).trans ?_
  refine (e18 _).trans ?_
  refine (e19 _).trans ?_
  refine (e20 _).trans ?_
  refine (e21 _).trans ?_
  refine (e22 _).trans ?_
  refine (e23 _).trans ?_
  refine (e24 _).trans ?_
  refine (e25 _).trans ?_
  refine (e26 _).trans ?_
  refine (e27 _).trans ?_
  refine (e28 _).trans ?_
  refine (e29 _).trans ?_
  refine (e30 _).trans ?_
  refine (e31 _).trans ?_
  refine (e32 _).trans ?_
  refine (e33 _).trans ?_
  refine (e34 _).trans ?_
  refine (e35 _).trans ?_
  refine (e36 _).trans ?_
  refine (e37 _).trans ?_
  refine (e38 _).trans ?_
  refine (e39 _).trans ?_
  refine (e40 _).trans ?_
  refine (e41 _).trans ?_
  refine (e42 _).trans ?_
  refine (e43 _).trans ?_
  refine (e44 _).trans ?_
  refine (e45 _).trans ?_
  refine (e46 _).trans ?_
  refine (e47 _).trans ?_
  refine (e48 _).trans ?_
  refine (e49 _).trans ?_
  refine (e50 _).trans ?_
  refine (e51 _).trans ?_
  refine (e52 _).trans ?_
  refine (e53 _).trans ?_
  refine (e54 _).trans ?_
  refine (e55 _).trans ?_
  refine (e56 _).trans ?_
  refine (e57 _).trans ?_
  refine (e58 _).trans ?_
  refine (e59 _).trans ?_
  refine (e60 _).trans ?_
  rfl
