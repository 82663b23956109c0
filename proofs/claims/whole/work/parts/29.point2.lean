theorem point_bad {c i j : Int32} {xs ys ws s : Nat → Int32} (t : Int32) (hc : five c) (hs : s 2 = c) (hi : ¬ i < 0) (hi2 : ¬ c ≤ i) (h : j < 0 ∨ 3 < j) : mX6_point c ws xs ys i j = some (2, 0) ∧ mX7_point s t i j = some (0, 2) := by
  have e6 : mX6_needPoint c i = some 0 := by rw [needPoint_eq, if_neg hi, if_neg hi2]
  have eP : mX7_isPoint s i = some 1 := by rw [isPoint_eq s i (hs ▸ hc), if_neg hi, hs, if_neg hi2]
  have eB : mX6_needBetween j 0 3 = some 2 := by
    by_cases a : j < 0
    · exact if_pos a
    · have b := h.resolve_left a
      rw [Int32.lt_iff_toInt_lt] at b
      have w : ¬ j ≤ 3 := by
        rw [Int32.le_iff_toInt_le]
        omega
      exact (if_neg a).trans (if_neg w)
  have eI : mX7_isIn (Int32.toInt64 j) 0 3 = some 0 := by
    by_cases a : j < 0
    · exact isIn_lo ((lt64z j).2 a)
    · exact isIn_hi (fun w => a ((lt64z j).1 w)) ((lt3 j).2 (h.resolve_left a))
  refine ⟨?_, ?_⟩
  · unfold mX6_point
    rw [e6, eB]
    rfl
  · unfold mX7_point
    rw [eP, eI]
    rfl
