def YsR (c : Int32) (xs s : Nat → Int32) : Prop := (¬ c ≤ 0 → xs 0 = s 8) ∧ (¬ c ≤ 1 → xs 1 = s 9) ∧ (¬ c ≤ 2 → xs 2 = s 10) ∧ (¬ c ≤ 3 → xs 3 = s 11) ∧ (¬ c ≤ 4 → xs 4 = s 12)
def WsR (c : Int32) (xs s : Nat → Int32) : Prop := (¬ c ≤ 0 → xs 0 = s 13) ∧ (¬ c ≤ 1 → xs 1 = s 14) ∧ (¬ c ≤ 2 → xs 2 = s 15) ∧ (¬ c ≤ 3 → xs 3 = s 16) ∧ (¬ c ≤ 4 → xs 4 = s 17)
theorem isIn_v (a b c : Int64) : mX7_isIn a b c = some (if a < b then 0 else if c < a then 0 else 1) := by
  by_cases h : a < b
  · rw [if_pos h]
    exact isIn_lo h
  · by_cases h2 : c < a
    · rw [if_neg h, if_pos h2]
      exact isIn_hi h h2
    · rw [if_neg h, if_neg h2]
      exact isIn_ok h h2
theorem lt3 (j : Int32) : (3 : Int64) < Int32.toInt64 j ↔ 3 < j := by
  have z : Int32.toInt64 3 = 3 := by decide
  have a := lt64 3 j
  rw [z] at a
  exact a
theorem j4 {j : Int32} (h : ¬ j < 0) (h2 : ¬ 3 < j) : j = 0 ∨ j = 1 ∨ j = 2 ∨ j = 3 := by
  have f : five 4 := Or.inr (Or.inr (Or.inr (Or.inr (Or.inl rfl))))
  have a := subc 4 j f
  have b : (4 : Int32) - 1 = 3 := by decide
  rw [b] at a
  rcases i5 f h (fun w => h2 (a.2 w)) with y | y | y | y | y
  · exact Or.inl y
  · exact Or.inr (Or.inl y)
  · exact Or.inr (Or.inr (Or.inl y))
  · exact Or.inr (Or.inr (Or.inr y))
  · subst y
    exact absurd (a.2 (by decide)) h2
theorem point_ok {c i j : Int32} {xs ys ws s : Nat → Int32} (t : Int32) (hc : five c) (hs : s 2 = c) (hx : XsR c xs s) (hy : YsR c ys s) (hw : WsR c ws s) (hi : ¬ i < 0) (hi2 : ¬ c ≤ i) (hj : ¬ j < 0) (hj2 : ¬ 3 < j) : ∃ v, mX6_point c ws xs ys i j = some (0, v) ∧ mX7_point s t i j = some (v, 0) := by
  have e6 : mX6_needPoint c i = some 0 := by rw [needPoint_eq, if_neg hi, if_neg hi2]
  have eP : mX7_isPoint s i = some 1 := by rw [isPoint_eq s i (hs ▸ hc), if_neg hi, hs, if_neg hi2]
  have eI : mX7_isIn (Int32.toInt64 j) 0 3 = some 1 := isIn_ok (fun w => hj ((lt64z j).1 w)) (fun w => hj2 ((lt3 j).1 w))
  obtain ⟨r, hr6, hr7⟩ := placeOf_eq hc hs hx hi hi2
  rcases j4 hj hj2 with rfl | rfl | rfl | rfl
  · rcases i5 hc hi hi2 with rfl | rfl | rfl | rfl | rfl
    · refine ⟨xs 0, ?_, ?_⟩
      · unfold mX6_point
        rw [e6]
        rfl
      · rw [hx.1 hi2]
        unfold mX7_point
        rw [eP, eI]
        rfl
    · refine ⟨xs 1, ?_, ?_⟩
      · unfold mX6_point
        rw [e6]
        rfl
      · rw [hx.2.1 hi2]
        unfold mX7_point
        rw [eP, eI]
        rfl
    · refine ⟨xs 2, ?_, ?_⟩
      · unfold mX6_point
        rw [e6]
        rfl
      · rw [hx.2.2.1 hi2]
        unfold mX7_point
        rw [eP, eI]
        rfl
    · refine ⟨xs 3, ?_, ?_⟩
      · unfold mX6_point
        rw [e6]
        rfl
      · rw [hx.2.2.2.1 hi2]
        unfold mX7_point
        rw [eP, eI]
        rfl
    · refine ⟨xs 4, ?_, ?_⟩
      · unfold mX6_point
        rw [e6]
        rfl
      · rw [hx.2.2.2.2 hi2]
        unfold mX7_point
        rw [eP, eI]
        rfl
  · rcases i5 hc hi hi2 with rfl | rfl | rfl | rfl | rfl
    · refine ⟨ys 0, ?_, ?_⟩
      · unfold mX6_point
        rw [e6]
        rfl
      · rw [hy.1 hi2]
        unfold mX7_point
        rw [eP, eI]
        rfl
    · refine ⟨ys 1, ?_, ?_⟩
      · unfold mX6_point
        rw [e6]
        rfl
      · rw [hy.2.1 hi2]
        unfold mX7_point
        rw [eP, eI]
        rfl
    · refine ⟨ys 2, ?_, ?_⟩
      · unfold mX6_point
        rw [e6]
        rfl
      · rw [hy.2.2.1 hi2]
        unfold mX7_point
        rw [eP, eI]
        rfl
    · refine ⟨ys 3, ?_, ?_⟩
      · unfold mX6_point
        rw [e6]
        rfl
      · rw [hy.2.2.2.1 hi2]
        unfold mX7_point
        rw [eP, eI]
        rfl
    · refine ⟨ys 4, ?_, ?_⟩
      · unfold mX6_point
        rw [e6]
        rfl
      · rw [hy.2.2.2.2 hi2]
        unfold mX7_point
        rw [eP, eI]
        rfl
  · rcases i5 hc hi hi2 with rfl | rfl | rfl | rfl | rfl
    · refine ⟨ws 0, ?_, ?_⟩
      · unfold mX6_point
        rw [e6]
        rfl
      · rw [hw.1 hi2]
        unfold mX7_point
        rw [eP, eI]
        rfl
    · refine ⟨ws 1, ?_, ?_⟩
      · unfold mX6_point
        rw [e6]
        rfl
      · rw [hw.2.1 hi2]
        unfold mX7_point
        rw [eP, eI]
        rfl
    · refine ⟨ws 2, ?_, ?_⟩
      · unfold mX6_point
        rw [e6]
        rfl
      · rw [hw.2.2.1 hi2]
        unfold mX7_point
        rw [eP, eI]
        rfl
    · refine ⟨ws 3, ?_, ?_⟩
      · unfold mX6_point
        rw [e6]
        rfl
      · rw [hw.2.2.2.1 hi2]
        unfold mX7_point
        rw [eP, eI]
        rfl
    · refine ⟨ws 4, ?_, ?_⟩
      · unfold mX6_point
        rw [e6]
        rfl
      · rw [hw.2.2.2.2 hi2]
        unfold mX7_point
        rw [eP, eI]
        rfl
  · refine ⟨r, ?_, ?_⟩
    · unfold mX6_point
      rw [e6, hr6]
      rfl
    · unfold mX7_point
      rw [eP, eI, hr7]
      rfl
theorem point_no {c i j : Int32} {xs ys ws s : Nat → Int32} (t : Int32) (hc : five c) (hs : s 2 = c) (h : i < 0 ∨ c ≤ i) : mX6_point c ws xs ys i j = some (1, 0) ∧ mX7_point s t i j = some (0, 1) := by
  have e6 : mX6_needPoint c i = some 1 := by
    rw [needPoint_eq]
    by_cases a : i < 0
    · rw [if_pos a]
    · rw [if_neg a, if_pos (h.resolve_left a)]
  have eP : mX7_isPoint s i = some 0 := by
    rw [isPoint_eq s i (hs ▸ hc), hs]
    by_cases a : i < 0
    · rw [if_pos a]
    · rw [if_neg a, if_pos (h.resolve_left a)]
  refine ⟨?_, ?_⟩
  · unfold mX6_point
    rw [e6]
    rfl
  · unfold mX7_point
    rw [eP, isIn_v]
    rfl
