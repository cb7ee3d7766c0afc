def preM (m : Nat) : List Value := [.int 0, .ref (m + 1), .int 0, .ref (m + 2), .ref (m + 3), .ref (m + 4), .int 0, .long 0, .ref (m + 5), .ref (m + 6), .ref (m + 7), .ref (m + 8), .ref (m + 9), .ref (m + 10), .int 0, .int 0, .ref (m + 11), .int 0, .ref (m + 12), .ref (m + 13), .ref (m + 14), .ref (m + 15), .ref (m + 16), .ref (m + 17), .ref (m + 18), .ref (m + 19), .ref (m + 20), .ref (m + 21), .ref (m + 22), .int 0, .int 0, .ref (m + 23), .ref (m + 24), .ref (m + 25), .ref (m + 26), .int 0, .ref (m + 27), .ref (m + 28), .ref (m + 29), .ref (m + 30), .int 0, .ref (m + 31), .int 0, .ref (m + 32), .ref (m + 33), .ref (m + 34), .int 0, .ref (m + 35), .ref (m + 36), .ref (m + 37), .int 0, .int 0, .ref (m + 38), .ref (m + 39), .ref (m + 40), .ref (m + 41), .ref (m + 42), .ref (m + 43), .ref (m + 44), .ref (m + 45), .ref (m + 46), .ref (m + 47), .ref (m + 48), .ref (m + 49), .ref (m + 50), .ref (m + 51), .ref (m + 52), .ref (m + 53), .ref (m + 54), .ref (m + 55), .ref (m + 56), .int 0, .int 1, .int 0, .int 0, .ref (m + 57), .ref (m + 58), .ref (m + 59)]
def fsM (m : Nat) : List Value := [.int 0, .ref (m + 1), .int 0, .ref (m + 2), .ref (m + 3), .ref (m + 4), .int 0, .long 0, .ref (m + 5), .ref (m + 6), .ref (m + 7), .ref (m + 8), .ref (m + 9), .ref (m + 10), .int 0, .int 0, .ref (m + 11), .int 0, .ref (m + 12), .ref (m + 13), .ref (m + 14), .ref (m + 15), .ref (m + 16), .ref (m + 17), .ref (m + 18), .ref (m + 19), .ref (m + 20), .ref (m + 21), .ref (m + 22), .int 2699, .int 0, .ref (m + 23), .ref (m + 24), .ref (m + 25), .ref (m + 26), .int 0, .ref (m + 27), .ref (m + 28), .ref (m + 29), .ref (m + 30), .int 0, .ref (m + 31), .int 0, .ref (m + 32), .ref (m + 33), .ref (m + 34), .int 0, .ref (m + 35), .ref (m + 36), .ref (m + 37), .int 0, .int 0, .ref (m + 38), .ref (m + 39), .ref (m + 40), .ref (m + 41), .ref (m + 42), .ref (m + 43), .ref (m + 44), .ref (m + 45), .ref (m + 46), .ref (m + 47), .ref (m + 48), .ref (m + 49), .ref (m + 50), .ref (m + 51), .ref (m + 52), .ref (m + 53), .ref (m + 54), .ref (m + 55), .ref (m + 56), .int 0, .int 1, .int 0, .int 0, .ref (m + 57), .ref (m + 58), .ref (m + 59)]
theorem fm_len (m : Nat) : (fsM m).length = 78 := rfl
theorem fm_0 (m : Nat) : (fsM m)[0]? = some (.int 0) := rfl
theorem fm_1 (m : Nat) : (fsM m)[1]? = some (.ref (m + 1)) := rfl
theorem fm_2 (m : Nat) : (fsM m)[2]? = some (.int 0) := rfl
theorem fm_3 (m : Nat) : (fsM m)[3]? = some (.ref (m + 2)) := rfl
theorem fm_4 (m : Nat) : (fsM m)[4]? = some (.ref (m + 3)) := rfl
theorem fm_5 (m : Nat) : (fsM m)[5]? = some (.ref (m + 4)) := rfl
theorem fm_6 (m : Nat) : (fsM m)[6]? = some (.int 0) := rfl
theorem fm_7 (m : Nat) : (fsM m)[7]? = some (.long 0) := rfl
theorem fm_8 (m : Nat) : (fsM m)[8]? = some (.ref (m + 5)) := rfl
theorem fm_9 (m : Nat) : (fsM m)[9]? = some (.ref (m + 6)) := rfl
theorem fm_10 (m : Nat) : (fsM m)[10]? = some (.ref (m + 7)) := rfl
theorem fm_11 (m : Nat) : (fsM m)[11]? = some (.ref (m + 8)) := rfl
theorem fm_12 (m : Nat) : (fsM m)[12]? = some (.ref (m + 9)) := rfl
theorem fm_13 (m : Nat) : (fsM m)[13]? = some (.ref (m + 10)) := rfl
theorem fm_14 (m : Nat) : (fsM m)[14]? = some (.int 0) := rfl
theorem fm_15 (m : Nat) : (fsM m)[15]? = some (.int 0) := rfl
theorem fm_16 (m : Nat) : (fsM m)[16]? = some (.ref (m + 11)) := rfl
theorem fm_17 (m : Nat) : (fsM m)[17]? = some (.int 0) := rfl
theorem fm_18 (m : Nat) : (fsM m)[18]? = some (.ref (m + 12)) := rfl
theorem fm_19 (m : Nat) : (fsM m)[19]? = some (.ref (m + 13)) := rfl
theorem fm_20 (m : Nat) : (fsM m)[20]? = some (.ref (m + 14)) := rfl
theorem fm_21 (m : Nat) : (fsM m)[21]? = some (.ref (m + 15)) := rfl
theorem fm_22 (m : Nat) : (fsM m)[22]? = some (.ref (m + 16)) := rfl
theorem fm_23 (m : Nat) : (fsM m)[23]? = some (.ref (m + 17)) := rfl
theorem fm_24 (m : Nat) : (fsM m)[24]? = some (.ref (m + 18)) := rfl
theorem fm_25 (m : Nat) : (fsM m)[25]? = some (.ref (m + 19)) := rfl
theorem fm_26 (m : Nat) : (fsM m)[26]? = some (.ref (m + 20)) := rfl
theorem fm_27 (m : Nat) : (fsM m)[27]? = some (.ref (m + 21)) := rfl
theorem fm_28 (m : Nat) : (fsM m)[28]? = some (.ref (m + 22)) := rfl
theorem fm_29 (m : Nat) : (fsM m)[29]? = some (.int 2699) := rfl
theorem fm_30 (m : Nat) : (fsM m)[30]? = some (.int 0) := rfl
theorem fm_31 (m : Nat) : (fsM m)[31]? = some (.ref (m + 23)) := rfl
theorem fm_32 (m : Nat) : (fsM m)[32]? = some (.ref (m + 24)) := rfl
theorem fm_33 (m : Nat) : (fsM m)[33]? = some (.ref (m + 25)) := rfl
theorem fm_34 (m : Nat) : (fsM m)[34]? = some (.ref (m + 26)) := rfl
theorem fm_35 (m : Nat) : (fsM m)[35]? = some (.int 0) := rfl
theorem fm_36 (m : Nat) : (fsM m)[36]? = some (.ref (m + 27)) := rfl
theorem fm_37 (m : Nat) : (fsM m)[37]? = some (.ref (m + 28)) := rfl
theorem fm_38 (m : Nat) : (fsM m)[38]? = some (.ref (m + 29)) := rfl
theorem fm_39 (m : Nat) : (fsM m)[39]? = some (.ref (m + 30)) := rfl
theorem fm_40 (m : Nat) : (fsM m)[40]? = some (.int 0) := rfl
theorem fm_41 (m : Nat) : (fsM m)[41]? = some (.ref (m + 31)) := rfl
theorem fm_42 (m : Nat) : (fsM m)[42]? = some (.int 0) := rfl
theorem fm_43 (m : Nat) : (fsM m)[43]? = some (.ref (m + 32)) := rfl
theorem fm_44 (m : Nat) : (fsM m)[44]? = some (.ref (m + 33)) := rfl
theorem fm_45 (m : Nat) : (fsM m)[45]? = some (.ref (m + 34)) := rfl
theorem fm_46 (m : Nat) : (fsM m)[46]? = some (.int 0) := rfl
theorem fm_47 (m : Nat) : (fsM m)[47]? = some (.ref (m + 35)) := rfl
theorem fm_48 (m : Nat) : (fsM m)[48]? = some (.ref (m + 36)) := rfl
theorem fm_49 (m : Nat) : (fsM m)[49]? = some (.ref (m + 37)) := rfl
theorem fm_50 (m : Nat) : (fsM m)[50]? = some (.int 0) := rfl
theorem fm_51 (m : Nat) : (fsM m)[51]? = some (.int 0) := rfl
theorem fm_52 (m : Nat) : (fsM m)[52]? = some (.ref (m + 38)) := rfl
theorem fm_53 (m : Nat) : (fsM m)[53]? = some (.ref (m + 39)) := rfl
theorem fm_54 (m : Nat) : (fsM m)[54]? = some (.ref (m + 40)) := rfl
theorem fm_55 (m : Nat) : (fsM m)[55]? = some (.ref (m + 41)) := rfl
theorem fm_56 (m : Nat) : (fsM m)[56]? = some (.ref (m + 42)) := rfl
theorem fm_57 (m : Nat) : (fsM m)[57]? = some (.ref (m + 43)) := rfl
theorem fm_58 (m : Nat) : (fsM m)[58]? = some (.ref (m + 44)) := rfl
theorem fm_59 (m : Nat) : (fsM m)[59]? = some (.ref (m + 45)) := rfl
theorem fm_60 (m : Nat) : (fsM m)[60]? = some (.ref (m + 46)) := rfl
theorem fm_61 (m : Nat) : (fsM m)[61]? = some (.ref (m + 47)) := rfl
theorem fm_62 (m : Nat) : (fsM m)[62]? = some (.ref (m + 48)) := rfl
theorem fm_63 (m : Nat) : (fsM m)[63]? = some (.ref (m + 49)) := rfl
theorem fm_64 (m : Nat) : (fsM m)[64]? = some (.ref (m + 50)) := rfl
theorem fm_65 (m : Nat) : (fsM m)[65]? = some (.ref (m + 51)) := rfl
theorem fm_66 (m : Nat) : (fsM m)[66]? = some (.ref (m + 52)) := rfl
theorem fm_67 (m : Nat) : (fsM m)[67]? = some (.ref (m + 53)) := rfl
theorem fm_68 (m : Nat) : (fsM m)[68]? = some (.ref (m + 54)) := rfl
theorem fm_69 (m : Nat) : (fsM m)[69]? = some (.ref (m + 55)) := rfl
theorem fm_70 (m : Nat) : (fsM m)[70]? = some (.ref (m + 56)) := rfl
theorem fm_71 (m : Nat) : (fsM m)[71]? = some (.int 0) := rfl
theorem fm_72 (m : Nat) : (fsM m)[72]? = some (.int 1) := rfl
theorem fm_73 (m : Nat) : (fsM m)[73]? = some (.int 0) := rfl
theorem fm_74 (m : Nat) : (fsM m)[74]? = some (.int 0) := rfl
theorem fm_75 (m : Nat) : (fsM m)[75]? = some (.ref (m + 57)) := rfl
theorem fm_76 (m : Nat) : (fsM m)[76]? = some (.ref (m + 58)) := rfl
theorem fm_77 (m : Nat) : (fsM m)[77]? = some (.ref (m + 59)) := rfl
theorem fs_set (l : List Value) (i j : Nat) (v : Value) : (l.set i v)[j]? = if i = j then (if i < l.length then some v else none) else l[j]? := List.getElem?_set
def FrM (f1 f2 f3 : Nat → Int32) (m : Nat) (h : ah_H) : Prop := h.2.2 m = some (.inr (11, fsM m)) ∧ h.2.2 (m + 1) = some (.inl (0, 40, .inl (fun _ => 0))) ∧ h.2.2 (m + 2) = some (.inl (3, 4200, .inr (.inl (fun _ => 0)))) ∧ h.2.2 (m + 3) = some (.inl (2, 4200, .inl (fun _ => 0))) ∧ h.2.2 (m + 4) = some (.inl (0, 84000, .inl (fun _ => 0))) ∧ h.2.2 (m + 5) = some (.inl (2, 4200, .inl (fun _ => 0))) ∧ h.2.2 (m + 6) = some (.inl (3, 4200, .inr (.inl (fun _ => 0)))) ∧ h.2.2 (m + 7) = some (.inl (2, 4200, .inl (fun _ => 0))) ∧ h.2.2 (m + 8) = some (.inl (2, 4200, .inl (fun _ => 0))) ∧ h.2.2 (m + 9) = some (.inl (0, 168000, .inl (fun _ => 0))) ∧ h.2.2 (m + 10) = some (.inl (2, 4200, .inl (fun _ => 0))) ∧ h.2.2 (m + 11) = some (.inl (0, 20, .inl (fun _ => 0))) ∧ h.2.2 (m + 12) = some (.inl (1, 2700, .inl (upd (fun _ => 0) 0 1))) ∧ h.2.2 (m + 13) = some (.inl (2, 2700, .inl (upd (fun _ => 0) 0 (-1)))) ∧ h.2.2 (m + 14) = some (.inl (2, 2700, .inl (fun _ => 0))) ∧ h.2.2 (m + 15) = some (.inl (2, 2700, .inl (fun _ => 0))) ∧ h.2.2 (m + 16) = some (.inl (2, 345600, .inl (fun _ => 0))) ∧ h.2.2 (m + 17) = some (.inl (3, 345600, .inr (.inl (fun _ => 0)))) ∧ h.2.2 (m + 18) = some (.inl (2, 2700, .inl (upd (fun _ => 0) 0 (-1)))) ∧ h.2.2 (m + 19) = some (.inl (2, 2700, .inl (upd (fun _ => 0) 0 (-1)))) ∧ h.2.2 (m + 20) = some (.inl (2, 2700, .inl (fun _ => 0))) ∧ h.2.2 (m + 21) = some (.inl (2, 2700, .inl (upd (fun _ => 0) 0 (-1)))) ∧ h.2.2 (m + 22) = some (.inl (2, 2700, .inl f1)) ∧ h.2.2 (m + 23) = some (.inl (3, 7000, .inr (.inl (fun _ => 0)))) ∧ h.2.2 (m + 24) = some (.inl (2, 7000, .inl (fun _ => 0))) ∧ h.2.2 (m + 25) = some (.inl (0, 140000, .inl (fun _ => 0))) ∧ h.2.2 (m + 26) = some (.inl (2, 7000, .inl f2)) ∧ h.2.2 (m + 27) = some (.inl (2, 14000, .inl (fun _ => 0))) ∧ h.2.2 (m + 28) = some (.inl (3, 14000, .inr (.inl (fun _ => 0)))) ∧ h.2.2 (m + 29) = some (.inl (3, 14000, .inr (.inl (fun _ => 0)))) ∧ h.2.2 (m + 30) = some (.inl (2, 14000, .inl f3)) ∧ h.2.2 (m + 31) = some (.inl (2, 14000, .inl (fun _ => 0))) ∧ h.2.2 (m + 32) = some (.inl (2, 128, .inl (fun _ => 0))) ∧ h.2.2 (m + 33) = some (.inl (2, 64, .inl (fun _ => 0))) ∧ h.2.2 (m + 34) = some (.inl (3, 64, .inr (.inl (fun _ => 0)))) ∧ h.2.2 (m + 35) = some (.inl (2, 2700, .inl (fun _ => 0))) ∧ h.2.2 (m + 36) = some (.inl (2, 2700, .inl (fun _ => 0))) ∧ h.2.2 (m + 37) = some (.inl (2, 2700, .inl (fun _ => 0))) ∧ h.2.2 (m + 38) = some (.inl (1, 1000, .inl (fun _ => 0))) ∧ h.2.2 (m + 39) = some (.inl (2, 1000, .inl (fun _ => 0))) ∧ h.2.2 (m + 40) = some (.inl (3, 6000, .inr (.inl (fun _ => 0)))) ∧ h.2.2 (m + 41) = some (.inl (2, 6000, .inl (fun _ => 0))) ∧ h.2.2 (m + 42) = some (.inl (0, 120000, .inl (fun _ => 0))) ∧ h.2.2 (m + 43) = some (.inl (2, 6000, .inl (fun _ => 0))) ∧ h.2.2 (m + 44) = some (.inl (2, 1000, .inl (fun _ => 0))) ∧ h.2.2 (m + 45) = some (.inl (2, 8000, .inl (fun _ => 0))) ∧ h.2.2 (m + 46) = some (.inl (3, 8000, .inr (.inl (fun _ => 0)))) ∧ h.2.2 (m + 47) = some (.inl (3, 8000, .inr (.inl (fun _ => 0)))) ∧ h.2.2 (m + 48) = some (.inl (2, 2, .inl (fun _ => 0))) ∧ h.2.2 (m + 49) = some (.inl (2, 2, .inl (fun _ => 0))) ∧ h.2.2 (m + 50) = some (.inl (2, 2, .inl (fun _ => 0))) ∧ h.2.2 (m + 51) = some (.inl (2, 2, .inl (fun _ => 0))) ∧ h.2.2 (m + 52) = some (.inl (2, 2, .inl (fun _ => 0))) ∧ h.2.2 (m + 53) = some (.inl (2, 24, .inl (fun _ => 0))) ∧ h.2.2 (m + 54) = some (.inl (2, 24, .inl (fun _ => 0))) ∧ h.2.2 (m + 55) = some (.inl (2, 13, .inl (fun _ => 0))) ∧ h.2.2 (m + 56) = some (.inl (2, 13, .inl (fun _ => 0))) ∧ h.2.2 (m + 57) = some (.inl (2, 4, .inl (fun _ => 0))) ∧ h.2.2 (m + 58) = some (.inl (1, 1000, .inl (fun _ => 0))) ∧ h.2.2 (m + 59) = some (.inl (2, 60, .inl (fun _ => 0)))
theorem FrM.keep {f1 f2 f3 : Nat → Int32} {nx m : Nat} {h h2 : ah_H} (G : FrM f1 f2 f3 m h) (hm : m = nx + 16) (hn : h.1 = nx + 76) (k : Kp nx h h2) : FrM f1 f2 f3 m h2 := by
  obtain ⟨q0, q1, q2, q3, q4, q5, q6, q7, q8, q9, q10, q11, q12, q13, q14, q15, q16, q17, q18, q19, q20, q21, q22, q23, q24, q25, q26, q27, q28, q29, q30, q31, q32, q33, q34, q35, q36, q37, q38, q39, q40, q41, q42, q43, q44, q45, q46, q47, q48, q49, q50, q51, q52, q53, q54, q55, q56, q57, q58, q59⟩ := G
  have fr := k.2.2.2
  exact ⟨(fr _ (by omega) (by omega)).trans q0, (fr _ (by omega) (by omega)).trans q1, (fr _ (by omega) (by omega)).trans q2, (fr _ (by omega) (by omega)).trans q3, (fr _ (by omega) (by omega)).trans q4, (fr _ (by omega) (by omega)).trans q5, (fr _ (by omega) (by omega)).trans q6, (fr _ (by omega) (by omega)).trans q7, (fr _ (by omega) (by omega)).trans q8, (fr _ (by omega) (by omega)).trans q9, (fr _ (by omega) (by omega)).trans q10, (fr _ (by omega) (by omega)).trans q11, (fr _ (by omega) (by omega)).trans q12, (fr _ (by omega) (by omega)).trans q13, (fr _ (by omega) (by omega)).trans q14, (fr _ (by omega) (by omega)).trans q15, (fr _ (by omega) (by omega)).trans q16, (fr _ (by omega) (by omega)).trans q17, (fr _ (by omega) (by omega)).trans q18, (fr _ (by omega) (by omega)).trans q19, (fr _ (by omega) (by omega)).trans q20, (fr _ (by omega) (by omega)).trans q21, (fr _ (by omega) (by omega)).trans q22, (fr _ (by omega) (by omega)).trans q23, (fr _ (by omega) (by omega)).trans q24, (fr _ (by omega) (by omega)).trans q25, (fr _ (by omega) (by omega)).trans q26, (fr _ (by omega) (by omega)).trans q27, (fr _ (by omega) (by omega)).trans q28, (fr _ (by omega) (by omega)).trans q29, (fr _ (by omega) (by omega)).trans q30, (fr _ (by omega) (by omega)).trans q31, (fr _ (by omega) (by omega)).trans q32, (fr _ (by omega) (by omega)).trans q33, (fr _ (by omega) (by omega)).trans q34, (fr _ (by omega) (by omega)).trans q35, (fr _ (by omega) (by omega)).trans q36, (fr _ (by omega) (by omega)).trans q37, (fr _ (by omega) (by omega)).trans q38, (fr _ (by omega) (by omega)).trans q39, (fr _ (by omega) (by omega)).trans q40, (fr _ (by omega) (by omega)).trans q41, (fr _ (by omega) (by omega)).trans q42, (fr _ (by omega) (by omega)).trans q43, (fr _ (by omega) (by omega)).trans q44, (fr _ (by omega) (by omega)).trans q45, (fr _ (by omega) (by omega)).trans q46, (fr _ (by omega) (by omega)).trans q47, (fr _ (by omega) (by omega)).trans q48, (fr _ (by omega) (by omega)).trans q49, (fr _ (by omega) (by omega)).trans q50, (fr _ (by omega) (by omega)).trans q51, (fr _ (by omega) (by omega)).trans q52, (fr _ (by omega) (by omega)).trans q53, (fr _ (by omega) (by omega)).trans q54, (fr _ (by omega) (by omega)).trans q55, (fr _ (by omega) (by omega)).trans q56, (fr _ (by omega) (by omega)).trans q57, (fr _ (by omega) (by omega)).trans q58, (fr _ (by omega) (by omega)).trans q59⟩
theorem ah_set_set (h : ah_H) (a : Nat) (c d : ah_C) : ah_set (ah_set h a c) a d = ah_set h a d := by
  unfold ah_set
  have : va_up (va_up h.2.2 a (some c)) a (some d) = va_up h.2.2 a (some d) := by
    funext b
    by_cases hb : b = a <;> simp [va_up, hb]
  show (h.1, h.2.1, va_up (va_up h.2.2 a (some c)) a (some d)) = _
  rw [this]
theorem set_id {fs : List Value} {k : Nat} {v : Value} (e : fs[k]? = some v) : fs.set k v = fs := by
  apply List.ext_getElem?
  intro i
  rw [fs_set]
  by_cases hi : k = i
  · subst hi
    have : k < fs.length := (List.getElem?_eq_some_iff.mp e).1
    rw [if_pos rfl, if_pos this, e]
  · rw [if_neg hi]
theorem aa_s (j : Nat) : Int32.ofNat (j + 1) + (-1) = Int32.ofNat j := by
  rw [Int32.ofNat_add, Int32.add_assoc]
  have : Int32.ofNat 1 + (-1) = 0 := by decide
  rw [this, Int32.add_zero]
theorem lm_st {h : ah_H} {a k N : Nat} {f : Nat → Int32} (v : Int32) (hk : k < N) (hN : N < 2 ^ 31) (ha : h.2.2 a = some (.inl (2, N, .inl f))) : hp_sti h (some a) (Int32.ofNat k) v = some (ah_set h a (.inl (2, N, .inl (upd f k v)))) := by
  have e : ¬ (Int32.ofNat k < 0 ∨ N ≤ (Int32.ofNat k).toNatClampNeg) := by
    rw [ik_t (by omega)]
    rintro (h | h)
    · exact ik_n (by omega) h
    · omega
  unfold hp_sti
  rw [hp_ar_of ha]
  simp only [if_neg e]
  rw [ik_t (show k < 2 ^ 31 by omega)]
theorem lm_83 (E : ah_E) (m a : Nat) (hma : m ≠ a) : ∀ (j n k : Nat) (h : ah_H) (f : Nat → Int32), j + k = 14000 → j < n → hp_gr h (some m) 11 39 = some (some a) → h.2.2 a = some (.inl (2, 14000, .inl f)) → ∃ f' : Nat → Int32, bX10_clearPages_83 E n (some m) (Int32.ofNat k) h = (hp_pv (ah_set h a (.inl (2, 14000, .inl f'))) (some m) 11 40 (.int (0 : Int32))).bind fun w2 => some w2 := by
  intro j
  induction j with
  | zero =>
    intro n k h f hk hn hg ha
    obtain ⟨n, rfl⟩ : ∃ n', n = n' + 1 := ⟨n - 1, by omega⟩
    have : k = 14000 := by omega
    subst this
    refine ⟨f, ?_⟩
    rw [ah_set_id ha]
    simp only [bX10_clearPages_83]
    exact if_pos (by decide)
  | succ j ih =>
    intro n k h f hk hn hg ha
    obtain ⟨n, rfl⟩ : ∃ n', n = n' + 1 := ⟨n - 1, by omega⟩
    have e : ¬ ((14000 : Int32) ≤ Int32.ofNat k) := fun h => by
      have := (Int32.ofNat_le_ofNat (by decide : (14000 : Nat) < 2 ^ 31) (by omega)).mp h
      omega
    have st : ∃ v, bX10_clearPages_83 E (n + 1) (some m) (Int32.ofNat k) h = bX10_clearPages_83 E n (some m) (Int32.ofNat (k + 1)) (ah_set h a (.inl (2, 14000, .inl (upd f k v)))) := by
      by_cases c : (14000 : Int32) ≤ Int32.ofNat k + 1
      · refine ⟨-1, ?_⟩
        have q := lm_st (h := h) (-1) (show k < 14000 by omega) (by decide) ha
        simp only [bX10_clearPages_83, bX10_clearPages_111, if_neg e, if_pos c, hg, q, Option.bind_some]
        rw [ik_s]
      · refine ⟨Int32.ofNat k + 1, ?_⟩
        have q := lm_st (h := h) (Int32.ofNat k + 1) (show k < 14000 by omega) (by decide) ha
        simp only [bX10_clearPages_83, bX10_clearPages_111, if_neg e, if_neg c, hg, q, Option.bind_some]
        rw [ik_s]
    obtain ⟨v, hv⟩ := st
    obtain ⟨f', hf⟩ := ih n (k + 1) (ah_set h a (.inl (2, 14000, .inl (upd f k v)))) (upd f k v) (by omega) (by omega) (by rw [rd_r_of, rs_ne hma, ← rd_r_of]; exact hg) (by rw [rs_at, if_pos rfl])
    refine ⟨f', ?_⟩
    rw [hv, hf, ah_set_set]
theorem lm_41 (E : ah_E) (m a : Nat) (hma : m ≠ a) : ∀ (j n k : Nat) (h : ah_H) (f : Nat → Int32), j + k = 7000 → j < n → hp_gr h (some m) 11 34 = some (some a) → h.2.2 a = some (.inl (2, 7000, .inl f)) → ∃ f' : Nat → Int32, bX10_clearPages_41 E n (some m) (Int32.ofNat k) h = (hp_pv (ah_set h a (.inl (2, 7000, .inl f'))) (some m) 11 35 (.int (0 : Int32))).bind fun w2 => bX10_clearPages_83 E zf (some m) (0 : Int32) w2 := by
  intro j
  induction j with
  | zero =>
    intro n k h f hk hn hg ha
    obtain ⟨n, rfl⟩ : ∃ n', n = n' + 1 := ⟨n - 1, by omega⟩
    have : k = 7000 := by omega
    subst this
    refine ⟨f, ?_⟩
    rw [ah_set_id ha]
    simp only [bX10_clearPages_41]
    exact if_pos (by decide)
  | succ j ih =>
    intro n k h f hk hn hg ha
    obtain ⟨n, rfl⟩ : ∃ n', n = n' + 1 := ⟨n - 1, by omega⟩
    have e : ¬ ((7000 : Int32) ≤ Int32.ofNat k) := fun h => by
      have := (Int32.ofNat_le_ofNat (by decide : (7000 : Nat) < 2 ^ 31) (by omega)).mp h
      omega
    have st : ∃ v, bX10_clearPages_41 E (n + 1) (some m) (Int32.ofNat k) h = bX10_clearPages_41 E n (some m) (Int32.ofNat (k + 1)) (ah_set h a (.inl (2, 7000, .inl (upd f k v)))) := by
      by_cases c : (7000 : Int32) ≤ Int32.ofNat k + 1
      · refine ⟨-1, ?_⟩
        have q := lm_st (h := h) (-1) (show k < 7000 by omega) (by decide) ha
        simp only [bX10_clearPages_41, bX10_clearPages_69, if_neg e, if_pos c, hg, q, Option.bind_some]
        rw [ik_s]
      · refine ⟨Int32.ofNat k + 1, ?_⟩
        have q := lm_st (h := h) (Int32.ofNat k + 1) (show k < 7000 by omega) (by decide) ha
        simp only [bX10_clearPages_41, bX10_clearPages_69, if_neg e, if_neg c, hg, q, Option.bind_some]
        rw [ik_s]
    obtain ⟨v, hv⟩ := st
    obtain ⟨f', hf⟩ := ih n (k + 1) (ah_set h a (.inl (2, 7000, .inl (upd f k v)))) (upd f k v) (by omega) (by omega) (by rw [rd_r_of, rs_ne hma, ← rd_r_of]; exact hg) (by rw [rs_at, if_pos rfl])
    refine ⟨f', ?_⟩
    rw [hv, hf, ah_set_set]
theorem lm_9 (E : ah_E) (m a : Nat) (hma : m ≠ a) : ∀ (j n c : Nat) (h : ah_H) (f : Nat → Int32) (fs : List Value), j + c = 2700 → j < n → h.2.2 m = some (.inr (11, fs)) → fs[28]? = some (.ref a) → fs[29]? = some (.int (Int32.ofNat c)) → 29 < fs.length → h.2.2 a = some (.inl (2, 2700, .inl f)) → (j = 0 → f 2699 = 0) → ∃ (f' : Nat → Int32) (h' : ah_H), bX10_clearPages_9 E n (some m) (Int32.ofNat j + (-1)) h = bX10_clearPages_41 E zf (some m) (0 : Int32) h' ∧ f' 2699 = 0 ∧ h'.1 = h.1 ∧ h'.2.1 = h.2.1 ∧ h'.2.2 a = some (.inl (2, 2700, .inl f')) ∧ h'.2.2 m = some (.inr (11, fs.set 29 (.int 2700))) ∧ ∀ b, b ≠ a → b ≠ m → h'.2.2 b = h.2.2 b := by
  intro j
  induction j with
  | zero =>
    intro n c h f fs hc hn hm h28 h29 hl ha hj
    obtain ⟨n, rfl⟩ : ∃ n', n = n' + 1 := ⟨n - 1, by omega⟩
    have : c = 2700 := by omega
    subst this
    refine ⟨f, h, ?_, hj rfl, rfl, rfl, ha, ?_, fun b _ _ => rfl⟩
    · simp only [bX10_clearPages_9]
      exact if_pos (by decide)
    · rw [set_id (v := .int 2700) h29]
      exact hm
  | succ j ih =>
    intro n c h f fs hc hn hm h28 h29 hl ha hj
    obtain ⟨n, rfl⟩ : ∃ n', n = n' + 1 := ⟨n - 1, by omega⟩
    have g1 : hp_gr h (some m) 11 28 = some (some a) := by rw [rd_r_of, hm, rd_r_o, h28]; rfl
    have g2 : hp_gi h (some m) 11 29 = some (Int32.ofNat c) := by rw [rd_i_of, hm, rd_i_o, h29]; rfl
    have s1 := lm_st (h := h) (Int32.ofNat j) (show c < 2700 by omega) (by decide) ha
    have m1 : (ah_set h a (.inl (2, 2700, .inl (upd f c (Int32.ofNat j))))).2.2 m = some (.inr (11, fs)) := by rw [rs_ne hma]; exact hm
    have g3 : hp_gi (ah_set h a (.inl (2, 2700, .inl (upd f c (Int32.ofNat j))))) (some m) 11 29 = some (Int32.ofNat c) := by rw [rd_i_of, m1, rd_i_o, h29]; rfl
    have s2 : hp_pv (ah_set h a (.inl (2, 2700, .inl (upd f c (Int32.ofNat j))))) (some m) 11 29 (.int (Int32.ofNat c + 1)) = some (ah_set (ah_set h a (.inl (2, 2700, .inl (upd f c (Int32.ofNat j))))) m (.inr (11, fs.set 29 (.int (Int32.ofNat c + 1))))) := by rw [rd_p_of, m1, rd_p_o, if_pos hl]
    have st : bX10_clearPages_9 E (n + 1) (some m) (Int32.ofNat (j + 1) + (-1)) h = bX10_clearPages_9 E n (some m) (Int32.ofNat j + (-1)) (ah_set (ah_set h a (.inl (2, 2700, .inl (upd f c (Int32.ofNat j))))) m (.inr (11, fs.set 29 (.int (Int32.ofNat c + 1))))) := by
      rw [aa_s]
      have e : ¬ Int32.ofNat j < 0 := ik_n (by omega)
      simp only [bX10_clearPages_9, if_neg e, g1, g2, s1, g3, s2, Option.bind_some]
    obtain ⟨f', h', e1, e2, e3, e4, e5, e6, e7⟩ := ih n (c + 1) (ah_set (ah_set h a (.inl (2, 2700, .inl (upd f c (Int32.ofNat j))))) m (.inr (11, fs.set 29 (.int (Int32.ofNat c + 1))))) (upd f c (Int32.ofNat j)) (fs.set 29 (.int (Int32.ofNat c + 1))) (by omega) (by omega) (by rw [rs_at, if_pos rfl]) (by rw [fs_set, if_neg (by decide)]; exact h28) (by rw [fs_set, if_pos rfl, if_pos hl, ik_s]) (by rw [List.length_set]; exact hl) (by rw [rs_ne (Ne.symm hma), rs_at, if_pos rfl]) (fun hj0 => by
        subst hj0
        have : c = 2699 := by omega
        subst this
        rfl)
    refine ⟨f', h', by rw [st, e1], e2, e3, e4, e5, ?_, fun b hb hb2 => ?_⟩
    · rw [e6, List.set_set]
    · rw [e7 b hb hb2, rs_ne hb2, rs_ne hb]
theorem lm_stz (a k : Nat) (h : ah_H) (hk : k < 1000) (h2 : h.2.2 a = some (.inl (1, 1000, .inl (fun _ => 0)))) : hp_stb h (some a) (Int32.ofNat k) 0 = some h := by
  have e : ¬ (Int32.ofNat k < 0 ∨ 1000 ≤ (Int32.ofNat k).toNatClampNeg) := by
    rw [ik_t (by omega)]
    rintro (h | h)
    · exact ik_n (by omega) h
    · omega
  unfold hp_stb
  rw [hp_ar_of h2]
  simp only [if_neg e, nar_0, up_zero]
  rw [ah_set_id h2]
theorem lm_ldz (a k : Nat) (h : ah_H) (hk : k < 1000) (h2 : h.2.2 a = some (.inl (1, 1000, .inl (fun _ => 0)))) : hp_ldb h (some a) (Int32.ofNat k) = some 0 := by
  have e : ¬ (Int32.ofNat k < 0 ∨ 1000 ≤ (Int32.ofNat k).toNatClampNeg) := by
    rw [ik_t (by omega)]
    rintro (h | h)
    · exact ik_n (by omega) h
    · omega
  unfold hp_ldb
  rw [hp_ar_of h2]
  simp only [if_neg e]
theorem lm_mark_go (E : ah_E) (m a : Nat) (h : ah_H) (hg : hp_gr h (some m) 11 76 = some (some a)) (h2 : h.2.2 a = some (.inl (1, 1000, .inl (fun _ => 0)))) : ∀ (j n k : Nat), j + k = 1000 → j < n → bX10_mark_2 E n (some m) (Int32.ofNat k) h = ((hp_gi h (some m) 11 51).bind fun v2 => if v2 = 0 then (fX10_spreadChanges E (some m) h).bind fun w6 => bX10_mark_35 E zf (some m) (0 : Int32) w6 else bX10_mark_117 E (some m) h) := by
  intro j
  induction j with
  | zero =>
    intro n k hk hn
    obtain ⟨n, rfl⟩ : ∃ n', n = n' + 1 := ⟨n - 1, by omega⟩
    have : k = 1000 := by omega
    subst this
    simp only [bX10_mark_2]
    exact if_pos (by decide)
  | succ j ih =>
    intro n k hk hn
    obtain ⟨n, rfl⟩ : ∃ n', n = n' + 1 := ⟨n - 1, by omega⟩
    have e : ¬ ((1000 : Int32) ≤ Int32.ofNat k) := fun h => by
      have := (Int32.ofNat_le_ofNat (by decide : (1000 : Nat) < 2 ^ 31) (by omega)).mp h
      omega
    rw [← ih n (k + 1) (by omega) (by omega), ← ik_s]
    conv => lhs; simp only [bX10_mark_2, if_neg e, hg, lm_stz a k h (by omega) h2, Option.bind_some]
theorem lm_mark (E : ah_E) (m : Nat) (h : ah_H) (hg : hp_gr h (some m) 11 76 = some (some (m + 58))) (h2 : h.2.2 (m + 58) = some (.inl (1, 1000, .inl (fun _ => 0)))) : bX10_mark_2 E 1000000 (some m) 0 h = ((hp_gi h (some m) 11 51).bind fun v2 => if v2 = 0 then (fX10_spreadChanges E (some m) h).bind fun w6 => bX10_mark_35 E zf (some m) (0 : Int32) w6 else bX10_mark_117 E (some m) h) := lm_mark_go E m _ h hg h2 1000 1000000 0 rfl (by decide)
theorem lm_free_go (E : ah_E) (m a : Nat) (h : ah_H) (hg : hp_gr h (some m) 11 76 = some (some a)) (h2 : h.2.2 a = some (.inl (1, 1000, .inl (fun _ => 0)))) : ∀ (j n k : Nat), j + k = 1000 → j < n → bX10_freePlaces_8 E n (some m) (Int32.ofNat k) (Int32.ofNat k) h = some (1000, h) := by
  intro j
  induction j with
  | zero =>
    intro n k hk hn
    obtain ⟨n, rfl⟩ : ∃ n', n = n' + 1 := ⟨n - 1, by omega⟩
    have : k = 1000 := by omega
    subst this
    simp only [bX10_freePlaces_8]
    exact if_pos (by decide)
  | succ j ih =>
    intro n k hk hn
    obtain ⟨n, rfl⟩ : ∃ n', n = n' + 1 := ⟨n - 1, by omega⟩
    have e : ¬ ((1000 : Int32) ≤ Int32.ofNat k) := fun h => by
      have := (Int32.ofNat_le_ofNat (by decide : (1000 : Nat) < 2 ^ 31) (by omega)).mp h
      omega
    rw [← ih n (k + 1) (by omega) (by omega), ← ik_s]
    conv => lhs; simp only [bX10_freePlaces_8, bX10_freePlaces_30, if_neg e, hg, lm_ldz a k h (by omega) h2, Option.bind_some, if_pos]
theorem lm_free (E : ah_E) (m : Nat) (h : ah_H) (hg : hp_gr h (some m) 11 76 = some (some (m + 58))) (h2 : h.2.2 (m + 58) = some (.inl (1, 1000, .inl (fun _ => 0)))) : bX10_freePlaces_8 E 1000000 (some m) 0 0 h = some (1000, h) := lm_free_go E m _ h hg h2 1000 1000000 0 rfl (by decide)
