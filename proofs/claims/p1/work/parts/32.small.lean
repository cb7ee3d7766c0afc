def q_feed (n : Int32) : Int32 := if n < 1 then -2 else if 8 < n then -2 else n
def q_cut (n : Int32) : Int32 := if n < 0 then -2 else if n ≤ 0 then n else -2
def q_swap (n : Int32) : Int32 := if n = 0 then 0 else -2
def q_sweep (a b : Int64) : Int32 := if a ≤ b then 0 else -2
def q_page (i w : Int32) : Int32 := if i = 0 then (if w = 0 then 0 else if w = 1 then 0 else if w = 2 then 0 else -1) else -1
def q_fall (n : Int32) : Int32 := if n < 0 then -2 else if n ≤ 10000 then n else -2
def q_disk (d w : Int32) : Int32 := if d < 0 then -1 else if 1 < d then -1 else if w < 0 then -1 else if w ≤ 3 then 0 else -1
def q_bend (d : Int32) : Int32 := if d < 0 then -1 else if d ≤ 1 then 0 else -1
def q_writes (w : Int32) : Int32 := if w < 0 then -1 else if w < 4 then 0 else -1
def q_number (w : Int32) : Int32 := if w = 0 then 0 else if w = 1 then 0 else -1
theorem i32_of {x : Int32} {n : Nat} (hn : n < 2 ^ 31) (h0 : ¬ x < 0) (h1 : ¬ Int32.ofNat n < x) : ∃ k, k ≤ n ∧ x = Int32.ofNat k := by
  have a0 : (0 : Int) ≤ x.toInt := by
    have := Int32.not_lt.mp h0
    simpa using Int32.le_iff_toInt_le.mp this
  have a1 : x.toInt ≤ n := by
    have := Int32.not_lt.mp h1
    have := Int32.le_iff_toInt_le.mp this
    rwa [Int32.toInt_ofNat_of_lt hn] at this
  refine ⟨x.toInt.toNat, by omega, ?_⟩
  apply Int32.toInt_inj.mp
  rw [Int32.toInt_ofNat_of_lt (by omega)]
  omega
theorem i32_pos {x : Int32} (h0 : ¬ x = 0) (h1 : ¬ x < 0) : 0 < x := by
  rcases Int32.lt_or_eq_of_le (Int32.not_lt.mp h1) with h | h
  · exact h
  · exact absurd h.symm h0
theorem i32_ge1 {x : Int32} (h : 0 < x) : ¬ x < 1 := fun h1 => by
  have a := Int32.lt_iff_toInt_lt.mp h
  have b := Int32.lt_iff_toInt_lt.mp h1
  have c : (0 : Int32).toInt = 0 := by decide
  have d : (1 : Int32).toInt = 1 := by decide
  omega
theorem i32_ge4 {x : Int32} (h : 3 < x) : ¬ x < 4 := fun h1 => by
  have a := Int32.lt_iff_toInt_lt.mp h
  have b := Int32.lt_iff_toInt_lt.mp h1
  have c : (3 : Int32).toInt = 3 := by decide
  have d : (4 : Int32).toInt = 4 := by decide
  omega
theorem i32_lt01 {x : Int32} (h : ¬ x < 1) : 0 < x := by
  have b := Int32.le_iff_toInt_le.mp (Int32.not_lt.mp h)
  have d : (1 : Int32).toInt = 1 := by decide
  have c : (0 : Int32).toInt = 0 := by decide
  exact Int32.lt_iff_toInt_lt.mpr (by omega)
