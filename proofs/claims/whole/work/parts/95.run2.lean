/-! The start, and all steps of a script. The steps that are not shown yet stand as hypotheses. -/
theorem ok_st2 (o16 : SOK q_16) : SOK q_step := by
  intro u z h
  unfold q_step
  by_cases c0 : (u 0 &&& 63) = 0
  · rw [if_pos c0]
    exact ok_0 u z h
  rw [if_neg c0]
  by_cases c1 : (u 0 &&& 63) = 1
  · rw [if_pos c1]
    exact ok_1 u z h
  rw [if_neg c1]
  by_cases c2 : (u 0 &&& 63) = 2
  · rw [if_pos c2]
    exact ok_2 u z h
  rw [if_neg c2]
  by_cases c3 : (u 0 &&& 63) = 3
  · rw [if_pos c3]
    exact ok_3 u z h
  rw [if_neg c3]
  by_cases c4 : (u 0 &&& 63) = 4
  · rw [if_pos c4]
    exact ok_4 u z h
  rw [if_neg c4]
  by_cases c5 : (u 0 &&& 63) = 5
  · rw [if_pos c5]
    exact ok_5 u z h
  rw [if_neg c5]
  by_cases c6 : (u 0 &&& 63) = 6
  · rw [if_pos c6]
    exact ok_6 u z h
  rw [if_neg c6]
  by_cases c7 : (u 0 &&& 63) = 7
  · rw [if_pos c7]
    exact ok_7 u z h
  rw [if_neg c7]
  by_cases c8 : (u 0 &&& 63) = 8
  · rw [if_pos c8]
    exact ok_8 u z h
  rw [if_neg c8]
  by_cases c9 : (u 0 &&& 63) = 9
  · rw [if_pos c9]
    exact ok_9 u z h
  rw [if_neg c9]
  by_cases c10 : (u 0 &&& 63) = 10
  · rw [if_pos c10]
    exact ok_10 u z h
  rw [if_neg c10]
  by_cases c11 : (u 0 &&& 63) = 11
  · rw [if_pos c11]
    exact ok_11 u z h
  rw [if_neg c11]
  by_cases c12 : (u 0 &&& 63) = 12
  · rw [if_pos c12]
    exact ok_12 u z h
  rw [if_neg c12]
  by_cases c13 : (u 0 &&& 63) = 13
  · rw [if_pos c13]
    exact ok_13 u z h
  rw [if_neg c13]
  by_cases c14 : (u 0 &&& 63) = 14
  · rw [if_pos c14]
    exact ok_14 u z h
  rw [if_neg c14]
  by_cases c15 : (u 0 &&& 63) = 15
  · rw [if_pos c15]
    exact ok_15 u z h
  rw [if_neg c15]
  by_cases c16 : (u 0 &&& 63) = 16
  · rw [if_pos c16]
    exact o16 u z h
  rw [if_neg c16]
  by_cases c17 : (u 0 &&& 63) = 17
  · rw [if_pos c17]
    exact ok_17 u z h
  rw [if_neg c17]
  by_cases c18 : (u 0 &&& 63) = 18
  · rw [if_pos c18]
    exact ok_18 u z h
  rw [if_neg c18]
  by_cases c19 : (u 0 &&& 63) = 19
  · rw [if_pos c19]
    exact ok_19 u z h
  rw [if_neg c19]
  by_cases c20 : (u 0 &&& 63) = 20
  · rw [if_pos c20]
    exact ok_20 u z h
  rw [if_neg c20]
  by_cases c21 : (u 0 &&& 63) = 21
  · rw [if_pos c21]
    exact ok_21 u z h
  rw [if_neg c21]
  by_cases c22 : (u 0 &&& 63) = 22
  · rw [if_pos c22]
    exact ok_22 u z h
  rw [if_neg c22]
  by_cases c23 : (u 0 &&& 63) = 23
  · rw [if_pos c23]
    exact ok_23 u z h
  rw [if_neg c23]
  by_cases c24 : (u 0 &&& 63) = 24
  · rw [if_pos c24]
    exact ok_24 u z h
  rw [if_neg c24]
  by_cases c25 : (u 0 &&& 63) = 25
  · rw [if_pos c25]
    exact ok_25 u z h
  rw [if_neg c25]
  by_cases c26 : (u 0 &&& 63) = 26
  · rw [if_pos c26]
    exact ok_26 u z h
  rw [if_neg c26]
  by_cases c27 : (u 0 &&& 63) = 27
  · rw [if_pos c27]
    exact ok_27 u z h
  rw [if_neg c27]
  by_cases c28 : (u 0 &&& 63) = 28
  · rw [if_pos c28]
    exact ok_28 u z h
  rw [if_neg c28]
  by_cases c29 : (u 0 &&& 63) = 29
  · rw [if_pos c29]
    exact ok_29 u z h
  rw [if_neg c29]
  by_cases c30 : (u 0 &&& 63) = 30
  · rw [if_pos c30]
    exact ok_30 u z h
  rw [if_neg c30]
  by_cases c31 : (u 0 &&& 63) = 31
  · rw [if_pos c31]
    exact ok_31 u z h
  rw [if_neg c31]
  by_cases c32 : (u 0 &&& 63) = 32
  · rw [if_pos c32]
    exact ok_32 u z h
  rw [if_neg c32]
  by_cases c33 : (u 0 &&& 63) = 33
  · rw [if_pos c33]
    exact ok_33 u z h
  rw [if_neg c33]
  by_cases c34 : (u 0 &&& 63) = 34
  · rw [if_pos c34]
    exact ok_34 u z h
  rw [if_neg c34]
  by_cases c35 : (u 0 &&& 63) = 35
  · rw [if_pos c35]
    exact ok_35 u z h
  rw [if_neg c35]
  by_cases c36 : (u 0 &&& 63) = 36
  · rw [if_pos c36]
    exact ok_36 u z h
  rw [if_neg c36]
  by_cases c37 : (u 0 &&& 63) = 37
  · rw [if_pos c37]
    exact ok_37 u z h
  rw [if_neg c37]
  by_cases c38 : (u 0 &&& 63) = 38
  · rw [if_pos c38]
    exact ok_38 u z h
  rw [if_neg c38]
  by_cases c39 : (u 0 &&& 63) = 39
  · rw [if_pos c39]
    exact ok_39 u z h
  rw [if_neg c39]
  by_cases c40 : (u 0 &&& 63) = 40
  · rw [if_pos c40]
    exact ok_40 u z h
  rw [if_neg c40]
  by_cases c41 : (u 0 &&& 63) = 41
  · rw [if_pos c41]
    exact ok_41 u z h
  rw [if_neg c41]
  by_cases c42 : (u 0 &&& 63) = 42
  · rw [if_pos c42]
    exact ok_42 u z h
  rw [if_neg c42]
  exact ⟨z, rfl, h⟩
