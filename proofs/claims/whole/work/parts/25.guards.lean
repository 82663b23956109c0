theorem lt64 (a b : Int32) : Int32.toInt64 a < Int32.toInt64 b ↔ a < b := by
  rw [Int64.lt_iff_toInt_lt, Int32.toInt_toInt64, Int32.toInt_toInt64, Int32.lt_iff_toInt_lt]
theorem good0 (t : Int32) : mX7_good t 0 = some (0, 1) := rfl
theorem good1 (t : Int32) : mX7_good t 1 = some (1, 0) := rfl
theorem isIn_lo {a b c : Int64} (h : a < b) : mX7_isIn a b c = some 0 := if_pos h
theorem isIn_hi {a b c : Int64} (h : ¬ a < b) (h2 : c < a) : mX7_isIn a b c = some 0 := (if_neg h).trans (if_pos h2)
theorem isIn_ok {a b c : Int64} (h : ¬ a < b) (h2 : ¬ c < a) : mX7_isIn a b c = some 1 := (if_neg h).trans (if_neg h2)
def five (c : Int32) : Prop := c = 0 ∨ c = 1 ∨ c = 2 ∨ c = 3 ∨ c = 4 ∨ c = 5
theorem subc (c i : Int32) (hc : five c) : c - 1 < i ↔ c ≤ i := by
  rw [Int32.lt_iff_toInt_lt, Int32.le_iff_toInt_le]
  rcases hc with rfl | rfl | rfl | rfl | rfl | rfl
  · have a : ((0 : Int32) - 1).toInt = -1 := by decide
    have b : (0 : Int32).toInt = 0 := by decide
    omega
  · have a : ((1 : Int32) - 1).toInt = 0 := by decide
    have b : (1 : Int32).toInt = 1 := by decide
    omega
  · have a : ((2 : Int32) - 1).toInt = 1 := by decide
    have b : (2 : Int32).toInt = 2 := by decide
    omega
  · have a : ((3 : Int32) - 1).toInt = 2 := by decide
    have b : (3 : Int32).toInt = 3 := by decide
    omega
  · have a : ((4 : Int32) - 1).toInt = 3 := by decide
    have b : (4 : Int32).toInt = 4 := by decide
    omega
  · have a : ((5 : Int32) - 1).toInt = 4 := by decide
    have b : (5 : Int32).toInt = 5 := by decide
    omega
theorem lt64z (i : Int32) : Int32.toInt64 i < 0 ↔ i < 0 := by
  have z : Int32.toInt64 0 = 0 := by decide
  have a := lt64 i 0
  rw [z] at a
  exact a
theorem isPoint_eq (s : Nat → Int32) (i : Int32) (hc : five (s 2)) : mX7_isPoint s i = some (if i < 0 then 0 else if s 2 ≤ i then 0 else 1) := by
  have g : ¬ ((2 : Int32) < 0 ∨ 18 ≤ Int32.toNatClampNeg 2) := by decide
  refine (if_neg g).trans ?_
  show ((mX7_isIn (Int32.toInt64 i) 0 (Int32.toInt64 (s 2 - 1))).bind fun r2 => if ¬ (r2 = 0 ∨ r2 = 1) then none else some r2) = _
  by_cases h : i < 0
  · rw [isIn_lo ((lt64z i).2 h), if_pos h]
    rfl
  · have h1 : ¬ Int32.toInt64 i < 0 := fun w => h ((lt64z i).1 w)
    by_cases h2 : s 2 ≤ i
    · rw [isIn_hi h1 ((lt64 _ _).2 ((subc _ _ hc).2 h2)), if_neg h, if_pos h2]
      rfl
    · rw [isIn_ok h1 (fun w => h2 ((subc _ _ hc).1 ((lt64 _ _).1 w))), if_neg h, if_neg h2]
      rfl
theorem needPoint_eq (c i : Int32) : mX6_needPoint c i = some (if i < 0 then 1 else if c ≤ i then 1 else 0) := by
  show ((mX3_has c i).bind fun r1 => if r1 = 0 then some 1 else some 0) = _
  by_cases h : i < 0
  · rw [show mX3_has c i = some 0 from if_pos h, if_pos h]
    rfl
  · by_cases h2 : c ≤ i
    · rw [show mX3_has c i = some 0 from (if_neg h).trans (if_pos h2), if_neg h, if_pos h2]
      rfl
    · rw [show mX3_has c i = some 1 from (if_neg h).trans (if_neg h2), if_neg h, if_neg h2]
      rfl
