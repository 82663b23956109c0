/-! the law's switch -/
theorem q_step_eq (u : Nat → Int32) (z : SL) (v : Int32) (hv : (u 0 &&& 63) = v) : q_step u z = if v = 0 then q_0 u z else if v = 1 then q_1 u z else if v = 2 then q_2 u z else if v = 3 then q_3 u z else if v = 4 then q_4 u z else if v = 5 then q_5 u z else if v = 6 then q_6 u z else if v = 7 then q_7 u z else if v = 8 then q_8 u z else if v = 9 then q_9 u z else if v = 10 then q_10 u z else if v = 11 then q_11 u z else if v = 12 then q_12 u z else if v = 13 then q_13 u z else if v = 14 then q_14 u z else if v = 15 then q_15 u z else if v = 16 then q_16 u z else if v = 17 then q_17 u z else if v = 18 then q_18 u z else if v = 19 then q_19 u z else if v = 20 then q_20 u z else if v = 21 then q_21 u z else if v = 22 then q_22 u z else if v = 23 then q_23 u z else if v = 24 then q_24 u z else if v = 25 then q_25 u z else if v = 26 then q_26 u z else if v = 27 then q_27 u z else if v = 28 then q_28 u z else if v = 29 then q_29 u z else if v = 30 then q_30 u z else if v = 31 then q_31 u z else if v = 32 then q_32 u z else if v = 33 then q_33 u z else if v = 34 then q_34 u z else if v = 35 then q_35 u z else if v = 36 then q_36 u z else if v = 37 then q_37 u z else if v = 38 then q_38 u z else if v = 39 then q_39 u z else if v = 40 then q_40 u z else if v = 41 then q_41 u z else if v = 42 then q_42 u z else some z := by
  subst hv
  rfl
section LAWS
variable {p : Program} {l : Launch} {e : Env} {s : State} {m : MethodId} {args : Array Value} {below : List Frame} {meth : Method} {c : Code} {H : Heap} {locs : List Loc} {cells slots : Nat} {Q : State → Prop}
variable {D : va_G} {g : Nat → ClassId} {x : Xd} {A : Nat → Prop} {ret0 : Option FieldType} {b L k : Nat} {xs : Nat → Int32} {α : Adr9} {z z1 : SL} {ls : Array Slot}

theorem sw_out43 {x : Int32} (h0 : ¬ x = 0) (h1 : ¬ x = 1) (h2 : ¬ x = 2) (h3 : ¬ x = 3) (h4 : ¬ x = 4) (h5 : ¬ x = 5) (h6 : ¬ x = 6) (h7 : ¬ x = 7) (h8 : ¬ x = 8) (h9 : ¬ x = 9) (h10 : ¬ x = 10) (h11 : ¬ x = 11) (h12 : ¬ x = 12) (h13 : ¬ x = 13) (h14 : ¬ x = 14) (h15 : ¬ x = 15) (h16 : ¬ x = 16) (h17 : ¬ x = 17) (h18 : ¬ x = 18) (h19 : ¬ x = 19) (h20 : ¬ x = 20) (h21 : ¬ x = 21) (h22 : ¬ x = 22) (h23 : ¬ x = 23) (h24 : ¬ x = 24) (h25 : ¬ x = 25) (h26 : ¬ x = 26) (h27 : ¬ x = 27) (h28 : ¬ x = 28) (h29 : ¬ x = 29) (h30 : ¬ x = 30) (h31 : ¬ x = 31) (h32 : ¬ x = 32) (h33 : ¬ x = 33) (h34 : ¬ x = 34) (h35 : ¬ x = 35) (h36 : ¬ x = 36) (h37 : ¬ x = 37) (h38 : ¬ x = 38) (h39 : ¬ x = 39) (h40 : ¬ x = 40) (h41 : ¬ x = 41) (h42 : ¬ x = 42) : x.toInt < 0 ∨ 42 < x.toInt := by
  have a0 := sw_ne h0
  rw [show (0 : Int32).toInt = 0 from rfl] at a0
  have a1 := sw_ne h1
  rw [show (1 : Int32).toInt = 1 from rfl] at a1
  have a2 := sw_ne h2
  rw [show (2 : Int32).toInt = 2 from rfl] at a2
  have a3 := sw_ne h3
  rw [show (3 : Int32).toInt = 3 from rfl] at a3
  have a4 := sw_ne h4
  rw [show (4 : Int32).toInt = 4 from rfl] at a4
  have a5 := sw_ne h5
  rw [show (5 : Int32).toInt = 5 from rfl] at a5
  have a6 := sw_ne h6
  rw [show (6 : Int32).toInt = 6 from rfl] at a6
  have a7 := sw_ne h7
  rw [show (7 : Int32).toInt = 7 from rfl] at a7
  have a8 := sw_ne h8
  rw [show (8 : Int32).toInt = 8 from rfl] at a8
  have a9 := sw_ne h9
  rw [show (9 : Int32).toInt = 9 from rfl] at a9
  have a10 := sw_ne h10
  rw [show (10 : Int32).toInt = 10 from rfl] at a10
  have a11 := sw_ne h11
  rw [show (11 : Int32).toInt = 11 from rfl] at a11
  have a12 := sw_ne h12
  rw [show (12 : Int32).toInt = 12 from rfl] at a12
  have a13 := sw_ne h13
  rw [show (13 : Int32).toInt = 13 from rfl] at a13
  have a14 := sw_ne h14
  rw [show (14 : Int32).toInt = 14 from rfl] at a14
  have a15 := sw_ne h15
  rw [show (15 : Int32).toInt = 15 from rfl] at a15
  have a16 := sw_ne h16
  rw [show (16 : Int32).toInt = 16 from rfl] at a16
  have a17 := sw_ne h17
  rw [show (17 : Int32).toInt = 17 from rfl] at a17
  have a18 := sw_ne h18
  rw [show (18 : Int32).toInt = 18 from rfl] at a18
  have a19 := sw_ne h19
  rw [show (19 : Int32).toInt = 19 from rfl] at a19
  have a20 := sw_ne h20
  rw [show (20 : Int32).toInt = 20 from rfl] at a20
  have a21 := sw_ne h21
  rw [show (21 : Int32).toInt = 21 from rfl] at a21
  have a22 := sw_ne h22
  rw [show (22 : Int32).toInt = 22 from rfl] at a22
  have a23 := sw_ne h23
  rw [show (23 : Int32).toInt = 23 from rfl] at a23
  have a24 := sw_ne h24
  rw [show (24 : Int32).toInt = 24 from rfl] at a24
  have a25 := sw_ne h25
  rw [show (25 : Int32).toInt = 25 from rfl] at a25
  have a26 := sw_ne h26
  rw [show (26 : Int32).toInt = 26 from rfl] at a26
  have a27 := sw_ne h27
  rw [show (27 : Int32).toInt = 27 from rfl] at a27
  have a28 := sw_ne h28
  rw [show (28 : Int32).toInt = 28 from rfl] at a28
  have a29 := sw_ne h29
  rw [show (29 : Int32).toInt = 29 from rfl] at a29
  have a30 := sw_ne h30
  rw [show (30 : Int32).toInt = 30 from rfl] at a30
  have a31 := sw_ne h31
  rw [show (31 : Int32).toInt = 31 from rfl] at a31
  have a32 := sw_ne h32
  rw [show (32 : Int32).toInt = 32 from rfl] at a32
  have a33 := sw_ne h33
  rw [show (33 : Int32).toInt = 33 from rfl] at a33
  have a34 := sw_ne h34
  rw [show (34 : Int32).toInt = 34 from rfl] at a34
  have a35 := sw_ne h35
  rw [show (35 : Int32).toInt = 35 from rfl] at a35
  have a36 := sw_ne h36
  rw [show (36 : Int32).toInt = 36 from rfl] at a36
  have a37 := sw_ne h37
  rw [show (37 : Int32).toInt = 37 from rfl] at a37
  have a38 := sw_ne h38
  rw [show (38 : Int32).toInt = 38 from rfl] at a38
  have a39 := sw_ne h39
  rw [show (39 : Int32).toInt = 39 from rfl] at a39
  have a40 := sw_ne h40
  rw [show (40 : Int32).toInt = 40 from rfl] at a40
  have a41 := sw_ne h41
  rw [show (41 : Int32).toInt = 41 from rfl] at a41
  have a42 := sw_ne h42
  rw [show (42 : Int32).toInt = 42 from rfl] at a42
  omega
theorem ll_sw (X : Cx p s m args meth c RL cL_law 9 ret0 D g x A) (hs : Scr9 b L xs s A) (hl0 : l.stackTraces = false) (hW : LLP D g α A s z H locs) (hl : lv_has ls 9 (lvB b α k)) (hk : k + 6 ≤ L) (hcs : cells + 8 ≤ 601024 ∧ slots + 48 ≤ 7293034) (hq : q_step (fun j => xs (k + j)) z = some z1)
    (kk : ∀ (H1 : Heap) (locs1 : List Loc) (ls1 : Array Slot), LLP D g α A s z1 H1 locs1 → lv_has ls1 9 (lvB b α k) → W p l e room_1 s m args below meth c H1 locs1 (cells + 8) (slots + 48) Q (F0 m 2372 ls1 [])) : W p l e room_1 s m args below meth c H locs cells slots Q (F0 m 45 ls [.int (xs k &&& 63)]) := by
  obtain ⟨hx, hb, -⟩ := id X
  rw [q_step_eq _ _ (xs k &&& 63) rfl] at hq
  generalize xs k &&& 63 = v at *
  by_cases c0 : v = 0
  · rw [if_pos c0] at hq
    rw [c0]
    exact lv_tableIn (tgt := 232) hx hb dL_law_45 (by decide) (by decide) rfl (by decide) (ll_c0 X hs hW hl hk hcs hq kk)
  rw [if_neg c0] at hq
  by_cases c1 : v = 1
  · rw [if_pos c1] at hq
    rw [c1]
    exact lv_tableIn (tgt := 305) hx hb dL_law_45 (by decide) (by decide) rfl (by decide) (ll_c1 X hs hl0 hW hl hk hcs hq kk)
  rw [if_neg c1] at hq
  by_cases c2 : v = 2
  · rw [if_pos c2] at hq
    rw [c2]
    exact lv_tableIn (tgt := 361) hx hb dL_law_45 (by decide) (by decide) rfl (by decide) (ll_c2 X hs hW hl hk hcs hq kk)
  rw [if_neg c2] at hq
  by_cases c3 : v = 3
  · rw [if_pos c3] at hq
    rw [c3]
    exact lv_tableIn (tgt := 374) hx hb dL_law_45 (by decide) (by decide) rfl (by decide) (ll_c3 X hs hW hl hk hcs hq kk)
  rw [if_neg c3] at hq
  by_cases c4 : v = 4
  · rw [if_pos c4] at hq
    rw [c4]
    exact lv_tableIn (tgt := 387) hx hb dL_law_45 (by decide) (by decide) rfl (by decide) (ll_c4 X hs hW hl hk hcs hq kk)
  rw [if_neg c4] at hq
  by_cases c5 : v = 5
  · rw [if_pos c5] at hq
    rw [c5]
    exact lv_tableIn (tgt := 400) hx hb dL_law_45 (by decide) (by decide) rfl (by decide) (ll_c5 X hs hW hl hk hcs hq kk)
  rw [if_neg c5] at hq
  by_cases c6 : v = 6
  · rw [if_pos c6] at hq
    rw [c6]
    exact lv_tableIn (tgt := 413) hx hb dL_law_45 (by decide) (by decide) rfl (by decide) (ll_c6 X hs hW hl hk hcs hq kk)
  rw [if_neg c6] at hq
  by_cases c7 : v = 7
  · rw [if_pos c7] at hq
    rw [c7]
    exact lv_tableIn (tgt := 426) hx hb dL_law_45 (by decide) (by decide) rfl (by decide) (ll_c7 X hs hl0 hW hl hk hcs hq kk)
  rw [if_neg c7] at hq
  by_cases c8 : v = 8
  · rw [if_pos c8] at hq
    rw [c8]
    exact lv_tableIn (tgt := 494) hx hb dL_law_45 (by decide) (by decide) rfl (by decide) (ll_c8 X hs hl0 hW hl hk hcs hq kk)
  rw [if_neg c8] at hq
  by_cases c9 : v = 9
  · rw [if_pos c9] at hq
    rw [c9]
    exact lv_tableIn (tgt := 550) hx hb dL_law_45 (by decide) (by decide) rfl (by decide) (ll_c9 X hs hl0 hW hl hk hcs hq kk)
  rw [if_neg c9] at hq
  by_cases c10 : v = 10
  · rw [if_pos c10] at hq
    rw [c10]
    exact lv_tableIn (tgt := 605) hx hb dL_law_45 (by decide) (by decide) rfl (by decide) (ll_c10 X hs hW hl hk hcs hq kk)
  rw [if_neg c10] at hq
  by_cases c11 : v = 11
  · rw [if_pos c11] at hq
    rw [c11]
    exact lv_tableIn (tgt := 618) hx hb dL_law_45 (by decide) (by decide) rfl (by decide) (ll_c11 X hs hW hl hk hcs hq kk)
  rw [if_neg c11] at hq
  by_cases c12 : v = 12
  · rw [if_pos c12] at hq
    rw [c12]
    exact lv_tableIn (tgt := 632) hx hb dL_law_45 (by decide) (by decide) rfl (by decide) (ll_c12 X hs hW hl hk hcs hq kk)
  rw [if_neg c12] at hq
  by_cases c13 : v = 13
  · rw [if_pos c13] at hq
    rw [c13]
    exact lv_tableIn (tgt := 673) hx hb dL_law_45 (by decide) (by decide) rfl (by decide) (ll_c13 X hs hl0 hW hl hk hcs hq kk)
  rw [if_neg c13] at hq
  by_cases c14 : v = 14
  · rw [if_pos c14] at hq
    rw [c14]
    exact lv_tableIn (tgt := 756) hx hb dL_law_45 (by decide) (by decide) rfl (by decide) (ll_c14 X hs hl0 hW hl hk hcs hq kk)
  rw [if_neg c14] at hq
  by_cases c15 : v = 15
  · rw [if_pos c15] at hq
    rw [c15]
    exact lv_tableIn (tgt := 812) hx hb dL_law_45 (by decide) (by decide) rfl (by decide) (ll_c15 X hs hl0 hW hl hk hcs hq kk)
  rw [if_neg c15] at hq
  by_cases c16 : v = 16
  · rw [if_pos c16] at hq
    rw [c16]
    exact lv_tableIn (tgt := 879) hx hb dL_law_45 (by decide) (by decide) rfl (by decide) (ll_c16 X hs hl0 hW hl hk hcs hq kk)
  rw [if_neg c16] at hq
  by_cases c17 : v = 17
  · rw [if_pos c17] at hq
    rw [c17]
    exact lv_tableIn (tgt := 956) hx hb dL_law_45 (by decide) (by decide) rfl (by decide) (ll_c17 X hs hl0 hW hl hk hcs hq kk)
  rw [if_neg c17] at hq
  by_cases c18 : v = 18
  · rw [if_pos c18] at hq
    rw [c18]
    exact lv_tableIn (tgt := 1019) hx hb dL_law_45 (by decide) (by decide) rfl (by decide) (ll_c18 X hs hW hl hk hcs hq kk)
  rw [if_neg c18] at hq
  by_cases c19 : v = 19
  · rw [if_pos c19] at hq
    rw [c19]
    exact lv_tableIn (tgt := 1032) hx hb dL_law_45 (by decide) (by decide) rfl (by decide) (ll_c19 X hs hW hl hk hcs hq kk)
  rw [if_neg c19] at hq
  by_cases c20 : v = 20
  · rw [if_pos c20] at hq
    rw [c20]
    exact lv_tableIn (tgt := 1057) hx hb dL_law_45 (by decide) (by decide) rfl (by decide) (ll_c20 X hs hW hl hk hcs hq kk)
  rw [if_neg c20] at hq
  by_cases c21 : v = 21
  · rw [if_pos c21] at hq
    rw [c21]
    exact lv_tableIn (tgt := 1070) hx hb dL_law_45 (by decide) (by decide) rfl (by decide) (ll_c21 X hs hl0 hW hl hk hcs hq kk)
  rw [if_neg c21] at hq
  by_cases c22 : v = 22
  · rw [if_pos c22] at hq
    rw [c22]
    exact lv_tableIn (tgt := 1126) hx hb dL_law_45 (by decide) (by decide) rfl (by decide) (ll_c22 X hs hl0 hW hl hk hcs hq kk)
  rw [if_neg c22] at hq
  by_cases c23 : v = 23
  · rw [if_pos c23] at hq
    rw [c23]
    exact lv_tableIn (tgt := 1198) hx hb dL_law_45 (by decide) (by decide) rfl (by decide) (ll_c23 X hs hl0 hW hl hk hcs hq kk)
  rw [if_neg c23] at hq
  by_cases c24 : v = 24
  · rw [if_pos c24] at hq
    rw [c24]
    exact lv_tableIn (tgt := 1277) hx hb dL_law_45 (by decide) (by decide) rfl (by decide) (ll_c24 X hs hl0 hW hl hk hcs hq kk)
  rw [if_neg c24] at hq
  by_cases c25 : v = 25
  · rw [if_pos c25] at hq
    rw [c25]
    exact lv_tableIn (tgt := 1344) hx hb dL_law_45 (by decide) (by decide) rfl (by decide) (ll_c25 X hs hl0 hW hl hk hcs hq kk)
  rw [if_neg c25] at hq
  by_cases c26 : v = 26
  · rw [if_pos c26] at hq
    rw [c26]
    exact lv_tableIn (tgt := 1388) hx hb dL_law_45 (by decide) (by decide) rfl (by decide) (ll_c26 X hs hl0 hW hl hk hcs hq kk)
  rw [if_neg c26] at hq
  by_cases c27 : v = 27
  · rw [if_pos c27] at hq
    rw [c27]
    exact lv_tableIn (tgt := 1467) hx hb dL_law_45 (by decide) (by decide) rfl (by decide) (ll_c27 X hs hl0 hW hl hk hcs hq kk)
  rw [if_neg c27] at hq
  by_cases c28 : v = 28
  · rw [if_pos c28] at hq
    rw [c28]
    exact lv_tableIn (tgt := 1534) hx hb dL_law_45 (by decide) (by decide) rfl (by decide) (ll_c28 X hs hl0 hW hl hk hcs hq kk)
  rw [if_neg c28] at hq
  by_cases c29 : v = 29
  · rw [if_pos c29] at hq
    rw [c29]
    exact lv_tableIn (tgt := 1625) hx hb dL_law_45 (by decide) (by decide) rfl (by decide) (ll_c29 X hs hl0 hW hl hk hcs hq kk)
  rw [if_neg c29] at hq
  by_cases c30 : v = 30
  · rw [if_pos c30] at hq
    rw [c30]
    exact lv_tableIn (tgt := 1704) hx hb dL_law_45 (by decide) (by decide) rfl (by decide) (ll_c30 X hs hl0 hW hl hk hcs hq kk)
  rw [if_neg c30] at hq
  by_cases c31 : v = 31
  · rw [if_pos c31] at hq
    rw [c31]
    exact lv_tableIn (tgt := 1772) hx hb dL_law_45 (by decide) (by decide) rfl (by decide) (ll_c31 X hs hl0 hW hl hk hcs hq kk)
  rw [if_neg c31] at hq
  by_cases c32 : v = 32
  · rw [if_pos c32] at hq
    rw [c32]
    exact lv_tableIn (tgt := 1840) hx hb dL_law_45 (by decide) (by decide) rfl (by decide) (ll_c32 X hs hl0 hW hl hk hcs hq kk)
  rw [if_neg c32] at hq
  by_cases c33 : v = 33
  · rw [if_pos c33] at hq
    rw [c33]
    exact lv_tableIn (tgt := 1908) hx hb dL_law_45 (by decide) (by decide) rfl (by decide) (ll_c33 X hs hl0 hW hl hk hcs hq kk)
  rw [if_neg c33] at hq
  by_cases c34 : v = 34
  · rw [if_pos c34] at hq
    rw [c34]
    exact lv_tableIn (tgt := 1976) hx hb dL_law_45 (by decide) (by decide) rfl (by decide) (ll_c34 X hs hl0 hW hl hk hcs hq kk)
  rw [if_neg c34] at hq
  by_cases c35 : v = 35
  · rw [if_pos c35] at hq
    rw [c35]
    exact lv_tableIn (tgt := 2056) hx hb dL_law_45 (by decide) (by decide) rfl (by decide) (ll_c35 X hs hl0 hW hl hk hcs hq kk)
  rw [if_neg c35] at hq
  by_cases c36 : v = 36
  · rw [if_pos c36] at hq
    rw [c36]
    exact lv_tableIn (tgt := 2112) hx hb dL_law_45 (by decide) (by decide) rfl (by decide) (ll_c36 X hs hl0 hW hl hk hcs hq kk)
  rw [if_neg c36] at hq
  by_cases c37 : v = 37
  · rw [if_pos c37] at hq
    rw [c37]
    exact lv_tableIn (tgt := 2180) hx hb dL_law_45 (by decide) (by decide) rfl (by decide) (ll_c37 X hs hl0 hW hl hk hcs hq kk)
  rw [if_neg c37] at hq
  by_cases c38 : v = 38
  · rw [if_pos c38] at hq
    rw [c38]
    exact lv_tableIn (tgt := 2236) hx hb dL_law_45 (by decide) (by decide) rfl (by decide) (ll_c38 X hs hW hl hk hcs hq kk)
  rw [if_neg c38] at hq
  by_cases c39 : v = 39
  · rw [if_pos c39] at hq
    rw [c39]
    exact lv_tableIn (tgt := 2249) hx hb dL_law_45 (by decide) (by decide) rfl (by decide) (ll_c39 X hs hW hl hk hcs hq kk)
  rw [if_neg c39] at hq
  by_cases c40 : v = 40
  · rw [if_pos c40] at hq
    rw [c40]
    exact lv_tableIn (tgt := 2262) hx hb dL_law_45 (by decide) (by decide) rfl (by decide) (ll_c40 X hs hW hl hk hcs hq kk)
  rw [if_neg c40] at hq
  by_cases c41 : v = 41
  · rw [if_pos c41] at hq
    rw [c41]
    exact lv_tableIn (tgt := 2303) hx hb dL_law_45 (by decide) (by decide) rfl (by decide) (ll_c41 X hs hW hl hk hcs hq kk)
  rw [if_neg c41] at hq
  by_cases c42 : v = 42
  · rw [if_pos c42] at hq
    rw [c42]
    exact lv_tableIn (tgt := 2316) hx hb dL_law_45 (by decide) (by decide) rfl (by decide) (ll_c42 X hs hl0 hW hl hk hcs hq kk)
  rw [if_neg c42] at hq
  refine lv_tableOut (tgt := 2372) hx hb dL_law_45 (sw_out43 c0 c1 c2 c3 c4 c5 c6 c7 c8 c9 c10 c11 c12 c13 c14 c15 c16 c17 c18 c19 c20 c21 c22 c23 c24 c25 c26 c27 c28 c29 c30 c31 c32 c33 c34 c35 c36 c37 c38 c39 c40 c41 c42) (by decide) ?_
  cases hq
  exact W.widen (Nat.le_add_right cells 8) (Nat.le_add_right slots 48) (kk _ _ _ hW hl)
end LAWS
