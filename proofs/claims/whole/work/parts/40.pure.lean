/-! ===== the pure run at the odd start: append(0), append(0); the law's function answers 0 ===== -/
def od_s : Nat → Int32 := fun j => ([4, 0, 0, 0, 0, 4, 0, 0, 0, 0] : List Int32).getD j 0
def od_E : ah_E := (3, 4, 5, 0, 10, od_s)
noncomputable def ev_1 : Option ah_H := fX9_init od_E (some 6) (ah_new (h0 od_E 6) (.inr (10, nf_10)) 10)
set_option maxRecDepth 65536 in
theorem ev_1s : ev_1.isSome = true := by decide +kernel
noncomputable def ev_h1 : ah_H := ev_1.get ev_1s
theorem ev_1e : ev_1 = some ev_h1 := by simp [ev_h1]
set_option maxRecDepth 65536 in
theorem ev_1n : ev_h1.1 = 22 := by decide +kernel
/-- the reference's object before its pages are cleared -/
noncomputable def ev_HW : ah_H := (82, ev_h1.2.1 + 78 + 1402464, fun b => if b = 22 then some (.inr (11, preM 22)) else if 22 < b ∧ b < 82 then rowL[b - 23]? else ev_h1.2.2 b)
theorem ev_in : ∀ T, inM (some 22) (ah_new ev_h1 (.inr (11, nf_11)) 78) T = T ev_HW := by
  obtain ⟨W, hW, w1, w2, w3, -, w5, w6⟩ := inM_run (h := ev_h1) ev_1n
  have e : W = ev_HW := by
    refine Prod.ext w1 (Prod.ext w2 (funext fun b => ?_))
    show W.2.2 b = if b = 22 then some (.inr (11, preM 22)) else if 22 < b ∧ b < 82 then rowL[b - 23]? else ev_h1.2.2 b
    by_cases c1 : b = 22
    · rw [if_pos c1, c1]; exact w3
    · rw [if_neg c1]
      by_cases c2 : 22 < b ∧ b < 82
      · rw [if_pos c2]
        have hl : b - 23 < rowL.length := by show b - 23 < 59; omega
        have hg : rowL[b - 23]? = some rowL[b - 23] := List.getElem?_eq_getElem hl
        have hb : 22 + (b - 23 + 1) = b := by omega
        have h5 := w5 (b - 23) _ hg (by omega)
        rw [hb] at h5
        rw [hg]
        exact h5
      · rw [if_neg c2]
        exact w6 b (by omega)
  intro T
  rw [hW T, e]
/-- and behind it -/
noncomputable def ev_H4 (f1 f2 f3 : Nat → Int32) : ah_H := (82, ev_h1.2.1 + 78 + 1402464, fun b => if b = 22 then some (.inr (11, fs4 22)) else if b = 44 then some (.inl (2, 2700, .inl (fun i => if i = 2699 then 0 else f1 i))) else if b = 48 then some (.inl (2, 7000, .inl f2)) else if b = 52 then some (.inl (2, 14000, .inl f3)) else if 22 < b ∧ b < 82 then rowL[b - 23]? else ev_h1.2.2 b)
theorem ev_clear : ∃ f1 f2 f3 : Nat → Int32, fX10_clearPages od_E (some 22) ev_HW = some (ev_H4 f1 f2 f3) := by
  obtain ⟨h4, f1, f2, f3, a0, a1, a2, a3, a4, a5, a6, a7, a8⟩ := pm_clear (E := od_E) (m := 22) (W := ev_HW) rfl rfl rfl rfl
  refine ⟨f1, f2, f3, a0.trans (congrArg some ?_)⟩
  refine Prod.ext a2 (Prod.ext a3 (funext fun b => ?_))
  show h4.2.2 b = if b = 22 then some (.inr (11, fs4 22)) else if b = 44 then some (.inl (2, 2700, .inl (fun i => if i = 2699 then 0 else f1 i))) else if b = 48 then some (.inl (2, 7000, .inl f2)) else if b = 52 then some (.inl (2, 14000, .inl f3)) else if 22 < b ∧ b < 82 then rowL[b - 23]? else ev_h1.2.2 b
  have ef : (fun i => if i = 2699 then 0 else f1 i) = f1 := funext fun i => by
    by_cases c : i = 2699
    · rw [if_pos c, c, a1]
    · rw [if_neg c]
  rw [ef]
  by_cases c1 : b = 22
  · rw [if_pos c1, c1]; exact a4
  rw [if_neg c1]
  by_cases c2 : b = 44
  · rw [if_pos c2, c2]; exact a5
  rw [if_neg c2]
  by_cases c3 : b = 48
  · rw [if_pos c3, c3]; exact a6
  rw [if_neg c3]
  by_cases c4 : b = 52
  · rw [if_pos c4, c4]; exact a7
  rw [if_neg c4, a8 b c1 c2 c3 c4]
  show (if b = 22 then some (.inr (11, preM 22)) else if 22 < b ∧ b < 82 then rowL[b - 23]? else ev_h1.2.2 b) = _
  rw [if_neg c1]
noncomputable def ev_f1 : Nat → Int32 := Classical.choose ev_clear
noncomputable def ev_f2 : Nat → Int32 := Classical.choose (Classical.choose_spec ev_clear)
noncomputable def ev_f3 : Nat → Int32 := Classical.choose (Classical.choose_spec (Classical.choose_spec ev_clear))
theorem ev_cle : fX10_clearPages od_E (some 22) ev_HW = some (ev_H4 ev_f1 ev_f2 ev_f3) := Classical.choose_spec (Classical.choose_spec (Classical.choose_spec ev_clear))
/-- the run behind the two objects' making -/
noncomputable def ev_2 : Option ah_H := ob2 (fX10_page od_E (some 22) (1 : Int32) (ev_H4 ev_f1 ev_f2 ev_f3)) fun v246 w245 => (hp_pv w245 (some 22) 11 30 (.int v246)).bind fun w248 => some w248
set_option maxRecDepth 65536 in
theorem ev_2s : ev_2.isSome = true := by decide +kernel
noncomputable def ev_h2 : ah_H := ev_2.get ev_2s
theorem ev_2e : ev_2 = some ev_h2 := by simp [ev_h2]
theorem ev_rcv : hp_rcv (ah_new ev_h1 (.inr (11, nf_11)) 78) (some 22) 11 = true := by
  have e : (ah_new ev_h1 (.inr (11, nf_11)) 78).2.2 22 = some (.inr (11, nf_11)) := by rw [rn_at, if_pos ev_1n.symm]
  exact hp_rcv_of e
theorem ev_law : fL_law od_E (h0 od_E 6) = bL_law_18 od_E zf (some 6) (some 22) (0 : Int32) ev_h2 := by
  have e1 : fX9_init od_E (some 6) (ah_new (h0 od_E 6) (.inr (10, nf_10)) 10) = some ev_h1 := ev_1e
  have e2 : fX10_init od_E (some 22) (ah_new ev_h1 (.inr (11, nf_11)) 78) = some ev_h2 := by
    unfold fX10_init
    rw [ev_rcv, if_neg (by decide), inM_eq, ev_in]
    unfold tlM
    rw [ev_cle, Option.bind_some]
    exact ev_2e
  have e3 : (hp_new (h0 od_E 6) 10 nf_10 10) = some (ah_new (h0 od_E 6) (.inr (10, nf_10)) 10) := rfl
  have e4 : (hp_new ev_h1 11 nf_11 78) = some (ah_new ev_h1 (.inr (11, nf_11)) 78) := rfl
  have e5 : fL_law od_E (h0 od_E 6) = (hp_new (h0 od_E 6) 10 nf_10 10).bind fun w1 => (fX9_init od_E (some 6) w1).bind fun w4 => (hp_new w4 11 nf_11 78).bind fun w6 => (fX10_init od_E (some w4.1) w6).bind fun w9 => bL_law_18 od_E zf (some 6) (some w4.1) (0 : Int32) w9 := by
    unfold fL_law bL_law_0
    rfl
  rw [e5, e3, Option.bind_some, e1, Option.bind_some, e4, Option.bind_some, ev_1n, e2, Option.bind_some]
noncomputable def od_chk : Bool := match bL_law_18 od_E zf (some 6) (some 22) (0 : Int32) ev_h2 with
  | some (r, h2) => decide (r = 0) && (decide (h2.1 - 6 ≤ 600000) && decide (h2.2.1 ≤ 7302250))
  | none => false
set_option maxRecDepth 65536 in
theorem od_chk_ok : od_chk = true := by decide +kernel
theorem od_pure : ∃ h2 : ah_H, fL_law od_E (h0 od_E 6) = some (0, h2) ∧ h2.1 - 6 ≤ 600000 ∧ h2.2.1 ≤ 7302250 := by
  have h := od_chk_ok
  unfold od_chk at h
  rw [← ev_law] at h
  split at h
  · rename_i r h2 e
    simp only [Bool.and_eq_true, decide_eq_true_eq] at h
    exact ⟨h2, by rw [e, h.1], h.2.1, h.2.2⟩
  · cases h
