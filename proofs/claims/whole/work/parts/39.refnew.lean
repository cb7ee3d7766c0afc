def fs4 (m : Nat) : List Value := [.int 0, .ref (m + 1), .int 0, .ref (m + 2), .ref (m + 3), .ref (m + 4), .int 0, .long 0, .ref (m + 5), .ref (m + 6), .ref (m + 7), .ref (m + 8), .ref (m + 9), .ref (m + 10), .int 0, .int 0, .ref (m + 11), .int 0, .ref (m + 12), .ref (m + 13), .ref (m + 14), .ref (m + 15), .ref (m + 16), .ref (m + 17), .ref (m + 18), .ref (m + 19), .ref (m + 20), .ref (m + 21), .ref (m + 22), .int 2700, .int 0, .ref (m + 23), .ref (m + 24), .ref (m + 25), .ref (m + 26), .int 0, .ref (m + 27), .ref (m + 28), .ref (m + 29), .ref (m + 30), .int 0, .ref (m + 31), .int 0, .ref (m + 32), .ref (m + 33), .ref (m + 34), .int 0, .ref (m + 35), .ref (m + 36), .ref (m + 37), .int 0, .int 0, .ref (m + 38), .ref (m + 39), .ref (m + 40), .ref (m + 41), .ref (m + 42), .ref (m + 43), .ref (m + 44), .ref (m + 45), .ref (m + 46), .ref (m + 47), .ref (m + 48), .ref (m + 49), .ref (m + 50), .ref (m + 51), .ref (m + 52), .ref (m + 53), .ref (m + 54), .ref (m + 55), .ref (m + 56), .int 0, .int 1, .int 0, .int 0, .ref (m + 57), .ref (m + 58), .ref (m + 59)]
theorem f4_len (m : Nat) : (fs4 m).length = 78 := rfl
theorem f4_18 (m : Nat) : (fs4 m)[18]? = some (.ref (m + 12)) := rfl
theorem f4_19 (m : Nat) : (fs4 m)[19]? = some (.ref (m + 13)) := rfl
theorem f4_20 (m : Nat) : (fs4 m)[20]? = some (.ref (m + 14)) := rfl
theorem f4_21 (m : Nat) : (fs4 m)[21]? = some (.ref (m + 15)) := rfl
theorem f4_24 (m : Nat) : (fs4 m)[24]? = some (.ref (m + 18)) := rfl
theorem f4_25 (m : Nat) : (fs4 m)[25]? = some (.ref (m + 19)) := rfl
theorem f4_26 (m : Nat) : (fs4 m)[26]? = some (.ref (m + 20)) := rfl
theorem f4_27 (m : Nat) : (fs4 m)[27]? = some (.ref (m + 21)) := rfl
theorem f4_28 (m : Nat) : (fs4 m)[28]? = some (.ref (m + 22)) := rfl
theorem f4_29 (m : Nat) : (fs4 m)[29]? = some (.int 2700) := rfl
theorem f4_30 (m : Nat) : (fs4 m)[30]? = some (.int 0) := rfl
theorem pm_clear {E : ah_E} {m : Nat} {W : ah_H} (p0 : W.2.2 m = some (.inr (11, preM m))) (p28 : W.2.2 (m + 22) = some (.inl (2, 2700, .inl (fun _ => 0)))) (p34 : W.2.2 (m + 26) = some (.inl (2, 7000, .inl (fun _ => 0)))) (p39 : W.2.2 (m + 30) = some (.inl (2, 14000, .inl (fun _ => 0)))) : ∃ (h4 : ah_H) (f1 f2 f3 : Nat → Int32), fX10_clearPages E (some m) W = some h4 ∧ f1 2699 = 0 ∧ h4.1 = W.1 ∧ h4.2.1 = W.2.1 ∧ h4.2.2 m = some (.inr (11, fs4 m)) ∧ h4.2.2 (m + 22) = some (.inl (2, 2700, .inl f1)) ∧ h4.2.2 (m + 26) = some (.inl (2, 7000, .inl f2)) ∧ h4.2.2 (m + 30) = some (.inl (2, 14000, .inl f3)) ∧ ∀ b, b ≠ m → b ≠ m + 22 → b ≠ m + 26 → b ≠ m + 30 → h4.2.2 b = W.2.2 b := by
  obtain ⟨f1, h1, a1, a2, a3, a4, a5, a6, a7⟩ := lm_9 E m (m + 22) (by omega) 2700 zf 0 W (fun _ => 0) (preM m) rfl (by decide) p0 rfl rfl (by show 29 < 78; decide) p28 (fun h => absurd h (by decide))
  have a6' : h1.2.2 m = some (.inr (11, fs4 m)) := a6
  obtain ⟨f2, b1⟩ := lm_41 E m (m + 26) (by omega) 7000 zf 0 h1 (fun _ => 0) rfl (by decide) (by rw [rd_r_of, a6', rd_r_o]; rfl) (by rw [a7 _ (by omega) (by omega)]; exact p34)
  have m2 : (ah_set h1 (m + 26) (.inl (2, 7000, .inl f2))).2.2 m = some (.inr (11, fs4 m)) := by rw [rs_ne (by omega)]; exact a6'
  have b2 : hp_pv (ah_set h1 (m + 26) (.inl (2, 7000, .inl f2))) (some m) 11 35 (.int (0 : Int32)) = some (ah_set h1 (m + 26) (.inl (2, 7000, .inl f2))) := by
    rw [rd_p_of, m2, rd_p_o, if_pos (by show 35 < 78; decide), show (fs4 m).set 35 (.int (0 : Int32)) = fs4 m from rfl, ah_set_id m2]
  obtain ⟨f3, d1⟩ := lm_83 E m (m + 30) (by omega) 14000 zf 0 (ah_set h1 (m + 26) (.inl (2, 7000, .inl f2))) (fun _ => 0) rfl (by decide) (by rw [rd_r_of, m2, rd_r_o]; rfl) (by rw [rs_ne (by omega), a7 _ (by omega) (by omega)]; exact p39)
  have m3 : (ah_set (ah_set h1 (m + 26) (.inl (2, 7000, .inl f2))) (m + 30) (.inl (2, 14000, .inl f3))).2.2 m = some (.inr (11, fs4 m)) := by rw [rs_ne (by omega)]; exact m2
  have d2 : hp_pv (ah_set (ah_set h1 (m + 26) (.inl (2, 7000, .inl f2))) (m + 30) (.inl (2, 14000, .inl f3))) (some m) 11 40 (.int (0 : Int32)) = some (ah_set (ah_set h1 (m + 26) (.inl (2, 7000, .inl f2))) (m + 30) (.inl (2, 14000, .inl f3))) := by
    rw [rd_p_of, m3, rd_p_o, if_pos (by show 40 < 78; decide), show (fs4 m).set 40 (.int (0 : Int32)) = fs4 m from rfl, ah_set_id m3]
  have c0 : hp_pv W (some m) 11 29 (.int (0 : Int32)) = some W := by
    rw [rd_p_of, p0, rd_p_o, if_pos (by show 29 < 78; decide), show (preM m).set 29 (.int (0 : Int32)) = preM m from rfl, ah_set_id p0]
  have r0 : hp_rcv W (some m) 11 = true := by rw [rd_c_of, p0, rd_c_o]
  have g1 : bX10_clearPages_9 E zf (some m) (2699 : Int32) W = bX10_clearPages_41 E zf (some m) (0 : Int32) h1 := a1
  have g2 : bX10_clearPages_41 E zf (some m) (0 : Int32) h1 = _ := b1
  have g3 : bX10_clearPages_83 E zf (some m) (0 : Int32) (ah_set h1 (m + 26) (.inl (2, 7000, .inl f2))) = _ := d1
  refine ⟨ah_set (ah_set h1 (m + 26) (.inl (2, 7000, .inl f2))) (m + 30) (.inl (2, 14000, .inl f3)), f1, f2, f3, ?_, a2, a3, a4, m3, ?_, ?_, ?_, fun b h0 h1 h2 h3 => ?_⟩
  · unfold fX10_clearPages bX10_clearPages_0
    rw [r0, if_neg (by decide), c0, Option.bind_some, g1, g2, b2, Option.bind_some, g3, d2, Option.bind_some]
  · rw [rs_ne (by omega), rs_ne (by omega)]; exact a5
  · rw [rs_ne (by omega), rs_at, if_pos rfl]
  · rw [rs_at, if_pos rfl]
  · rw [rs_ne h3, rs_ne h2, a7 b h1 h0]
