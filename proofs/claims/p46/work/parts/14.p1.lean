abbrev wX1_divisor (g : Nat → ClassId)   : va_W := []
set_option maxHeartbeats 4000000 in
set_option maxRecDepth 100000 in
theorem kX1_divisor (D : va_G) (g : Nat → ClassId) (x : Xd) (l : Launch) (p1 : Int64) (p2 : Int64) (R : Int64) (h : mX1_divisor p1 p2 = some R) : Cn D g x l yX1_divisor cX1_divisor 11 (some .long) 1 30 [.long p1, .long p2] (wX1_divisor g  ) (wX1_divisor g  ) (some (.long R)) := by
  refine CnL (by decide +kernel) (Nat.le_of_ble_eq_true rfl) (fun p e s m args below meth c A Q ls X hD hP hS fin hl => ?_)
  obtain ⟨hx, hb, hml, -, -, hown, hts, hK, hA, hE⟩ := id X
  unfold mX1_divisor at h
  have hl : lv_has ls 11 [(0, .long p1), (2, .long p2)] := hl
  refine lv_lload_n hx hb dX1_divisor_0 rfl (lv_at hl 0 rfl) ?_
  refine mabsl X ml_X1_30 hl.1 (Nat.le_of_ble_eq_true rfl) (Nat.le_of_ble_eq_true rfl) dX1_divisor_1 ?_
  refine lv_lstore (lv' := [(4, .long (mabsl_v p1)), (0, .long p1), (2, .long p2)]) hx hb dX1_divisor_4 hl (by decide) rfl (fun ls hl => ?_)
  refine lv_lload_n hx hb dX1_divisor_6 rfl (lv_at hl 2 rfl) ?_
  refine mabsl X ml_X1_30 hl.1 (Nat.le_of_ble_eq_true rfl) (Nat.le_of_ble_eq_true rfl) dX1_divisor_7 ?_
  refine lv_lstore (lv' := [(6, .long (mabsl_v p2)), (4, .long (mabsl_v p1)), (0, .long p1), (2, .long p2)]) hx hb dX1_divisor_10 hl (by decide) rfl (fun ls hl => ?_)
  refine lv_iconst (v := 0) hx hb dX1_divisor_12 (by decide) ?_
  refine lv_istore (lv' := [(8, .int 0), (6, .long (mabsl_v p2)), (4, .long (mabsl_v p1)), (0, .long p1), (2, .long p2)]) hx hb dX1_divisor_13 hl (by decide) rfl (fun ls hl => ?_)
  have lp1 : ∀ (n : Nat) (v1_4 : Int64) (v1_6 : Int64) (v1_8 : Int32) (R1 : Int64) (h : lX1_divisor_15 n v1_4 v1_6 v1_8 = some R1) (H : Heap) (locs : List Loc), va_P D vwCl (wX1_divisor g  ) H → va_D A (wX1_divisor g  ) → va_S A s.heap H locs → ∀ (ls : Array Slot), lv_has ls 11 [(4, .long v1_4), (6, .long v1_6), (8, .int v1_8)] → (∀ (H : Heap) (locs : List Loc) (ls : Array Slot), va_P D vwCl (wX1_divisor g  ) H → va_D A (wX1_divisor g  ) → va_S A s.heap H locs → lv_has ls 11 [(4, .long R1)] → W p l e (rmF 1 30) s m args below meth c H locs 0 0 Q (F0 m 51 ls [])) → W p l e (rmF 1 30) s m args below meth c H locs 0 0 Q (F0 m 15 ls []) := by
    intro n
    induction n with
    | zero =>
      intro v1_4 v1_6 v1_8 R1 h
      have h : none = some R1 := h
      cases h
    | succ n ih1 =>
      intro v1_4 v1_6 v1_8 R1 h H locs hP hD hS ls hl K1_0
      have h : (if 200 ≤ v1_8 then some v1_4 else if v1_6 = 0 then some v1_4 else if v1_6 = 0 then none else lX1_divisor_15 n v1_6 (v1_4 - v1_4 / v1_6 * v1_6) (v1_8 + 1) : Option (Int64)) = some R1 := h
      refine lv_iload hx hb dX1_divisor_15 (lv_at hl 2 rfl) ?_
      refine lv_sipush (v := 200) hx hb dX1_divisor_17 (by decide) ?_
      refine lv_icmp_ge (tgt := 51) hx hb dX1_divisor_20 (by decide) (fun b2 => ?_) (fun b2 => ?_)
      · have h := o_t b2 h
        cases h
        exact K1_0  _ _ _ hP hD hS (lv_sub hl [0] rfl)
      · have h := o_f b2 h
        refine lv_lload hx hb dX1_divisor_23 (lv_at hl 1 rfl) ?_
        refine lv_lconst (v := 0) hx hb dX1_divisor_25 (by decide) ?_
        refine W.lcmp hx hb dX1_divisor_26 ?_
        refine lv_if_eq (tgt := 51) hx hb dX1_divisor_27 (by decide) (fun b3 => ?_) (fun b3 => ?_)
        · have b3 := (lg_cmp_eq _ _).mp b3
          have h := o_t b3 h
          cases h
          exact K1_0  _ _ _ hP hD hS (lv_sub hl [0] rfl)
        · have b3 := mt (lg_cmp_eq _ _).mpr b3
          have h := o_f b3 h
          refine lv_lload hx hb dX1_divisor_30 (lv_at hl 0 rfl) ?_
          refine lv_lload hx hb dX1_divisor_32 (lv_at hl 1 rfl) ?_
          obtain ⟨b4, h⟩ := o_no h
          refine lv_lrem (x := v1_4) (y := v1_6) hx hb dX1_divisor_34 b4 ?_
          refine lv_lstore (lv' := [(9, .long (v1_4 - v1_4 / v1_6 * v1_6)), (4, .long v1_4), (6, .long v1_6), (8, .int v1_8)]) hx hb dX1_divisor_35 hl (by decide) rfl (fun ls hl => ?_)
          refine lv_lload hx hb dX1_divisor_37 (lv_at hl 2 rfl) ?_
          refine lv_lstore (lv' := [(4, .long v1_6), (9, .long (v1_4 - v1_4 / v1_6 * v1_6)), (6, .long v1_6), (8, .int v1_8)]) hx hb dX1_divisor_39 hl (by decide) rfl (fun ls hl => ?_)
          refine lv_lload hx hb dX1_divisor_41 (lv_at hl 1 rfl) ?_
          refine lv_lstore (lv' := [(6, .long (v1_4 - v1_4 / v1_6 * v1_6)), (4, .long v1_6), (9, .long (v1_4 - v1_4 / v1_6 * v1_6)), (8, .int v1_8)]) hx hb dX1_divisor_43 hl (by decide) rfl (fun ls hl => ?_)
          refine lv_iinc (v := v1_8 + 1) (lv' := [(8, .int (v1_8 + 1)), (6, .long (v1_4 - v1_4 / v1_6 * v1_6)), (4, .long v1_6), (9, .long (v1_4 - v1_4 / v1_6 * v1_6))]) hx hb dX1_divisor_45 hl (k := 3) rfl rfl (by decide) rfl (fun ls hl => ?_)
          refine lv_goto (tgt := 15) hx hb dX1_divisor_48 (by decide) ?_
          exact ih1 v1_6 (v1_4 - v1_4 / v1_6 * v1_6) (v1_8 + 1) _ h _ _ hP hD hS _ (lv_sub hl [2, 1, 0] rfl) K1_0
  obtain ⟨r5, c5, h⟩ := o_b h
  refine lp1 FU (mabsl_v p1) (mabsl_v p2) 0 r5 c5 _ _ hP hD hS _ (lv_sub hl [2, 1, 0] rfl) (fun H locs ls hP hD hS hl => ?_)
  refine lv_lload hx hb dX1_divisor_51 (lv_at hl 0 rfl) ?_
  cases h
  exact fin _ _ _ _ hP hS dX1_divisor_53
abbrev wX1_put (g : Nat → ClassId) (q_o : Nat)  (o_top : Int64) (o_bottom : Int64) : va_W := [(q_o, .inr (1, [.long o_top, .long o_bottom]))]
set_option maxHeartbeats 4000000 in
set_option maxRecDepth 100000 in
theorem kX1_put (D : va_G) (g : Nat → ClassId) (x : Xd) (l : Launch) (q_o : Nat)  (o_top : Int64) (o_bottom : Int64) (p1 : Int64) (p2 : Int64) (R : Int64 × Int64) (h : mX1_put o_bottom o_top p1 p2 = some R) : Cn D g x l yX1_put cX1_put 9 none 2 60 [.ref q_o, .long p1, .long p2] (wX1_put g q_o o_top o_bottom) (wX1_put g q_o R.2 R.1) none := by
  refine CnV (by decide +kernel) (Nat.le_of_ble_eq_true rfl) (fun p e s m args below meth c A Q ls X hD hP hS fin hl => ?_)
  obtain ⟨hx, hb, hml, -, -, hown, hts, hK, hA, hE⟩ := id X
  unfold mX1_put at h
  have hl : lv_has ls 9 [(0, .ref q_o), (1, .long p1), (3, .long p2)] := hl
  refine lv_lload_n hx hb dX1_put_0 rfl (lv_at hl 1 rfl) ?_
  refine lv_lload_n hx hb dX1_put_1 rfl (lv_at hl 2 rfl) ?_
  obtain ⟨r1, c1, h⟩ := o_b h
  refine mcallS X (As := [.long p1, .long p2]) (rest := []) (ws1 := wX1_put g q_o o_top o_bottom) (st1 := [.long r1]) (kX1_divisor D g x l   p1 p2 r1 c1) mw_X1_divisor ml_X1_16 ⟨Nat.le_of_ble_eq_true rfl, Nat.le_of_ble_eq_true rfl⟩ hP hD hS [] (by decide +kernel) rfl rfl rfl hl.1 rfl (Nat.le_of_ble_eq_true rfl) dX1_put_2 ⟨Nat.le_refl _, Nat.le_refl _⟩ rfl rfl (fun H locs hP hD hS => ?_)
  refine lv_lstore (lv' := [(5, .long r1), (0, .ref q_o), (1, .long p1), (3, .long p2)]) hx hb dX1_put_5 hl (by decide) rfl (fun ls hl => ?_)
  refine lv_lload_n hx hb dX1_put_7 rfl (lv_at hl 3 rfl) ?_
  refine lv_lconst (v := 0) hx hb dX1_put_8 (by decide) ?_
  refine W.lcmp hx hb dX1_put_9 ?_
  refine lv_if_eq (tgt := 20) hx hb dX1_put_10 (by decide) (fun b2 => ?_) (fun b2 => ?_)
  · have b2 := (lg_cmp_eq _ _).mp b2
    have h := o_t b2 h
    refine lv_aload_n hx hb dX1_put_20 rfl (lv_at hl 1 rfl) ?_
    refine lv_lconst (v := 0) hx hb dX1_put_21 (by decide) ?_
    refine mputL X fl_X1_7 (ws1 := wX1_put g q_o 0 o_bottom) hP hD hS 0 rfl rfl ⟨_, rfl, rfl⟩ dX1_put_22 rfl (fun H locs hP hD hS => ?_)
    refine lv_aload_n hx hb dX1_put_25 rfl (lv_at hl 1 rfl) ?_
    refine lv_lconst (v := 1) hx hb dX1_put_26 (by decide) ?_
    refine mputL X fl_X1_13 (ws1 := wX1_put g q_o 0 1) hP hD hS 0 rfl rfl ⟨_, rfl, rfl⟩ dX1_put_27 rfl (fun H locs hP hD hS => ?_)
    cases h
    exact fin _ _ _ _ hP hS dX1_put_30
  · have b2 := mt (lg_cmp_eq _ _).mpr b2
    have h := o_f b2 h
    refine lv_lload hx hb dX1_put_13 (lv_at hl 0 rfl) ?_
    refine lv_lconst (v := 0) hx hb dX1_put_15 (by decide) ?_
    refine W.lcmp hx hb dX1_put_16 ?_
    refine lv_if_ne (tgt := 31) hx hb dX1_put_17 (by decide) (fun b3 => ?_) (fun b3 => ?_)
    · have b3 := mt (lg_cmp_eq _ _).mpr b3
      have h := o_f b3 h
      refine lv_lload_n hx hb dX1_put_31 rfl (lv_at hl 3 rfl) ?_
      refine lv_lconst (v := 0) hx hb dX1_put_32 (by decide) ?_
      refine W.lcmp hx hb dX1_put_33 ?_
      refine lv_if_ge (tgt := 43) hx hb dX1_put_34 (by decide) (fun b4 => ?_) (fun b4 => ?_)
      · have b4 := (lg_cmp_ge _ _).mp b4
        have h := o_t b4 h
        refine lv_lload hx hb dX1_put_43 (lv_at hl 0 rfl) ?_
        refine lv_lstore (lv' := [(7, .long r1), (5, .long r1), (0, .ref q_o), (1, .long p1), (3, .long p2)]) hx hb dX1_put_45 hl (by decide) rfl (fun ls hl => ?_)
        refine lv_aload_n hx hb dX1_put_47 rfl (lv_at hl 2 rfl) ?_
        refine lv_lload_n hx hb dX1_put_48 rfl (lv_at hl 3 rfl) ?_
        refine lv_lload hx hb dX1_put_49 (lv_at hl 0 rfl) ?_
        obtain ⟨b5, h⟩ := o_no h
        refine lv_ldiv (x := p1) (y := r1) hx hb dX1_put_51 b5 ?_
        refine mputL X fl_X1_7 (ws1 := wX1_put g q_o (p1 / r1) o_bottom) hP hD hS 0 rfl rfl ⟨_, rfl, rfl⟩ dX1_put_52 rfl (fun H locs hP hD hS => ?_)
        refine lv_aload_n hx hb dX1_put_55 rfl (lv_at hl 2 rfl) ?_
        refine lv_lload_n hx hb dX1_put_56 rfl (lv_at hl 4 rfl) ?_
        refine lv_lload hx hb dX1_put_57 (lv_at hl 0 rfl) ?_
        obtain ⟨b6, h⟩ := o_no h
        refine lv_ldiv (x := p2) (y := r1) hx hb dX1_put_59 b6 ?_
        refine mputL X fl_X1_13 (ws1 := wX1_put g q_o (p1 / r1) (p2 / r1)) hP hD hS 0 rfl rfl ⟨_, rfl, rfl⟩ dX1_put_60 rfl (fun H locs hP hD hS => ?_)
        cases h
        exact fin _ _ _ _ hP hS dX1_put_63
      · have b4 := mt (lg_cmp_ge _ _).mpr b4
        have h := o_f b4 h
        refine lv_lload hx hb dX1_put_37 (lv_at hl 0 rfl) ?_
        refine lv_lneg hx hb dX1_put_39 ?_
        refine lv_goto (tgt := 45) hx hb dX1_put_40 (by decide) ?_
        refine lv_lstore (lv' := [(7, .long (-r1)), (5, .long r1), (0, .ref q_o), (1, .long p1), (3, .long p2)]) hx hb dX1_put_45 hl (by decide) rfl (fun ls hl => ?_)
        refine lv_aload_n hx hb dX1_put_47 rfl (lv_at hl 2 rfl) ?_
        refine lv_lload_n hx hb dX1_put_48 rfl (lv_at hl 3 rfl) ?_
        refine lv_lload hx hb dX1_put_49 (lv_at hl 0 rfl) ?_
        obtain ⟨b7, h⟩ := o_no h
        refine lv_ldiv (x := p1) (y := (-r1)) hx hb dX1_put_51 b7 ?_
        refine mputL X fl_X1_7 (ws1 := wX1_put g q_o (p1 / (-r1)) o_bottom) hP hD hS 0 rfl rfl ⟨_, rfl, rfl⟩ dX1_put_52 rfl (fun H locs hP hD hS => ?_)
        refine lv_aload_n hx hb dX1_put_55 rfl (lv_at hl 2 rfl) ?_
        refine lv_lload_n hx hb dX1_put_56 rfl (lv_at hl 4 rfl) ?_
        refine lv_lload hx hb dX1_put_57 (lv_at hl 0 rfl) ?_
        obtain ⟨b8, h⟩ := o_no h
        refine lv_ldiv (x := p2) (y := (-r1)) hx hb dX1_put_59 b8 ?_
        refine mputL X fl_X1_13 (ws1 := wX1_put g q_o (p1 / (-r1)) (p2 / (-r1))) hP hD hS 0 rfl rfl ⟨_, rfl, rfl⟩ dX1_put_60 rfl (fun H locs hP hD hS => ?_)
        cases h
        exact fin _ _ _ _ hP hS dX1_put_63
    · have b3 := (lg_cmp_eq _ _).mp b3
      have h := o_t b3 h
      refine lv_aload_n hx hb dX1_put_20 rfl (lv_at hl 1 rfl) ?_
      refine lv_lconst (v := 0) hx hb dX1_put_21 (by decide) ?_
      refine mputL X fl_X1_7 (ws1 := wX1_put g q_o 0 o_bottom) hP hD hS 0 rfl rfl ⟨_, rfl, rfl⟩ dX1_put_22 rfl (fun H locs hP hD hS => ?_)
      refine lv_aload_n hx hb dX1_put_25 rfl (lv_at hl 1 rfl) ?_
      refine lv_lconst (v := 1) hx hb dX1_put_26 (by decide) ?_
      refine mputL X fl_X1_13 (ws1 := wX1_put g q_o 0 1) hP hD hS 0 rfl rfl ⟨_, rfl, rfl⟩ dX1_put_27 rfl (fun H locs hP hD hS => ?_)
      cases h
      exact fin _ _ _ _ hP hS dX1_put_30
abbrev wX1_part (g : Nat → ClassId) (q_o : Nat)  (o_top : Int64) (o_bottom : Int64) : va_W := [(q_o, .inr (1, [.long o_top, .long o_bottom]))]
set_option maxHeartbeats 4000000 in
set_option maxRecDepth 100000 in
theorem kX1_part (D : va_G) (g : Nat → ClassId) (x : Xd) (l : Launch) (q_o : Nat)  (o_top : Int64) (o_bottom : Int64) (p1 : Int32) (R : Int64) (h : mX1_part o_bottom o_top p1 = some R) : Cn D g x l yX1_part cX1_part 2 (some .long) 0 0 [.ref q_o, .int p1] (wX1_part g q_o o_top o_bottom) (wX1_part g q_o o_top o_bottom) (some (.long R)) := by
  refine CnL (by decide +kernel) (Nat.le_of_ble_eq_true rfl) (fun p e s m args below meth c A Q ls X hD hP hS fin hl => ?_)
  obtain ⟨hx, hb, hml, -, -, hown, hts, hK, hA, hE⟩ := id X
  unfold mX1_part at h
  have hl : lv_has ls 2 [(0, .ref q_o), (1, .int p1)] := hl
  refine lv_iload_n hx hb dX1_part_0 rfl (lv_at hl 1 rfl) ?_
  refine lv_if_ne (tgt := 11) hx hb dX1_part_1 (by decide) (fun b1 => ?_) (fun b1 => ?_)
  · have h := o_f b1 h
    refine lv_aload_n hx hb dX1_part_11 rfl (lv_at hl 0 rfl) ?_
    refine mget X fl_X1_13 hP 0 rfl rfl dX1_part_12 ?_
    cases h
    exact fin _ _ _ _ hP hS dX1_part_15
  · have h := o_t b1 h
    refine lv_aload_n hx hb dX1_part_4 rfl (lv_at hl 0 rfl) ?_
    refine mget X fl_X1_7 hP 0 rfl rfl dX1_part_5 ?_
    refine lv_goto (tgt := 15) hx hb dX1_part_8 (by decide) ?_
    cases h
    exact fin _ _ _ _ hP hS dX1_part_15
abbrev wX1_add (g : Nat → ClassId) (q_o : Nat)  (o_top : Int64) (o_bottom : Int64) : va_W := [(q_o, .inr (1, [.long o_top, .long o_bottom]))]
set_option maxHeartbeats 4000000 in
set_option maxRecDepth 100000 in
theorem kX1_add (D : va_G) (g : Nat → ClassId) (x : Xd) (l : Launch) (q_o : Nat)  (o_top : Int64) (o_bottom : Int64) (p1 : Int64) (p2 : Int64) (R : Int64 × Int64) (h : mX1_add o_bottom o_top p1 p2 = some R) : Cn D g x l yX1_add cX1_add 9 none 3 88 [.ref q_o, .long p1, .long p2] (wX1_add g q_o o_top o_bottom) (wX1_add g q_o R.2 R.1) none := by
  refine CnV (by decide +kernel) (Nat.le_of_ble_eq_true rfl) (fun p e s m args below meth c A Q ls X hD hP hS fin hl => ?_)
  obtain ⟨hx, hb, hml, -, -, hown, hts, hK, hA, hE⟩ := id X
  unfold mX1_add at h
  have hl : lv_has ls 9 [(0, .ref q_o), (1, .long p1), (3, .long p2)] := hl
  refine lv_aload_n hx hb dX1_add_0 rfl (lv_at hl 0 rfl) ?_
  refine mget X fl_X1_13 hP 0 rfl rfl dX1_add_1 ?_
  refine lv_lload_n hx hb dX1_add_4 rfl (lv_at hl 2 rfl) ?_
  obtain ⟨r1, c1, h⟩ := o_b h
  refine mcallS X (As := [.long o_bottom, .long p2]) (rest := []) (ws1 := wX1_add g q_o o_top o_bottom) (st1 := [.long r1]) (kX1_divisor D g x l   o_bottom p2 r1 c1) mw_X1_divisor ml_X1_16 ⟨Nat.le_of_ble_eq_true rfl, Nat.le_of_ble_eq_true rfl⟩ hP hD hS [] (by decide +kernel) rfl rfl rfl hl.1 rfl (Nat.le_of_ble_eq_true rfl) dX1_add_5 ⟨Nat.le_refl _, Nat.le_refl _⟩ rfl rfl (fun H locs hP hD hS => ?_)
  refine lv_lstore (lv' := [(5, .long r1), (0, .ref q_o), (1, .long p1), (3, .long p2)]) hx hb dX1_add_8 hl (by decide) rfl (fun ls hl => ?_)
  refine lv_lload_n hx hb dX1_add_10 rfl (lv_at hl 3 rfl) ?_
  refine lv_lconst (v := 0) hx hb dX1_add_11 (by decide) ?_
  refine W.lcmp hx hb dX1_add_12 ?_
  refine lv_if_eq (tgt := 23) hx hb dX1_add_13 (by decide) (fun b2 => ?_) (fun b2 => ?_)
  · have b2 := (lg_cmp_eq _ _).mp b2
    have h := o_t b2 h
    cases h
    exact fin _ _ _ _ hP hS dX1_add_23
  · have b2 := mt (lg_cmp_eq _ _).mpr b2
    have h := o_f b2 h
    refine lv_lload hx hb dX1_add_16 (lv_at hl 0 rfl) ?_
    refine lv_lconst (v := 0) hx hb dX1_add_18 (by decide) ?_
    refine W.lcmp hx hb dX1_add_19 ?_
    refine lv_if_ne (tgt := 24) hx hb dX1_add_20 (by decide) (fun b3 => ?_) (fun b3 => ?_)
    · have b3 := mt (lg_cmp_eq _ _).mpr b3
      have h := o_f b3 h
      refine lv_lload_n hx hb dX1_add_24 rfl (lv_at hl 3 rfl) ?_
      refine lv_lload hx hb dX1_add_25 (lv_at hl 0 rfl) ?_
      obtain ⟨b4, h⟩ := o_no h
      refine lv_ldiv (x := p2) (y := r1) hx hb dX1_add_27 b4 ?_
      refine lv_lstore (lv' := [(7, .long (p2 / r1)), (5, .long r1), (0, .ref q_o), (1, .long p1), (3, .long p2)]) hx hb dX1_add_28 hl (by decide) rfl (fun ls hl => ?_)
      refine lv_aload_n hx hb dX1_add_30 rfl (lv_at hl 2 rfl) ?_
      refine lv_aload_n hx hb dX1_add_31 rfl (lv_at hl 2 rfl) ?_
      refine mget X fl_X1_7 hP 0 rfl rfl dX1_add_32 ?_
      refine lv_lload hx hb dX1_add_35 (lv_at hl 0 rfl) ?_
      refine lv_lmul hx hb dX1_add_37 ?_
      refine lv_lload_n hx hb dX1_add_38 rfl (lv_at hl 3 rfl) ?_
      refine lv_aload_n hx hb dX1_add_39 rfl (lv_at hl 2 rfl) ?_
      refine mget X fl_X1_13 hP 0 rfl rfl dX1_add_40 ?_
      refine lv_lload hx hb dX1_add_43 (lv_at hl 1 rfl) ?_
      obtain ⟨b5, h⟩ := o_no h
      refine lv_ldiv (x := o_bottom) (y := r1) hx hb dX1_add_45 b5 ?_
      refine lv_lmul hx hb dX1_add_46 ?_
      refine lv_ladd hx hb dX1_add_47 ?_
      refine lv_aload_n hx hb dX1_add_48 rfl (lv_at hl 2 rfl) ?_
      refine mget X fl_X1_13 hP 0 rfl rfl dX1_add_49 ?_
      refine lv_lload hx hb dX1_add_52 (lv_at hl 0 rfl) ?_
      refine lv_lmul hx hb dX1_add_54 ?_
      obtain ⟨r6, c6, h⟩ := o_b h
      refine mcallV X (As := [.long ((o_top * (p2 / r1)) + (p1 * (o_bottom / r1))), .long (o_bottom * (p2 / r1))]) (rest := []) (ws1 := wX1_add g q_o r6.2 r6.1) (st1 := []) (kX1_put D g x l q_o o_top o_bottom ((o_top * (p2 / r1)) + (p1 * (o_bottom / r1))) (o_bottom * (p2 / r1)) r6 c6) mw_X1_put ml_X1_20 ⟨Nat.le_of_ble_eq_true rfl, Nat.le_of_ble_eq_true rfl⟩ hP hD hS [0] (by decide +kernel) rfl rfl 0 rfl rfl rfl hl.1 rfl (Nat.le_of_ble_eq_true rfl) dX1_add_55 ⟨Nat.le_refl _, Nat.le_refl _⟩ rfl rfl (fun H locs hP hD hS => ?_)
      cases h
      exact fin _ _ _ _ hP hS dX1_add_58
    · have b3 := (lg_cmp_eq _ _).mp b3
      have h := o_t b3 h
      cases h
      exact fin _ _ _ _ hP hS dX1_add_23
abbrev wX3_clear (g : Nat → ClassId) (q_o q_o_xs q_o_ys q_o_ws : Nat)  (o_count : Int32) (o_mode : Int32) (o_degree : Int32) : va_W := [(q_o, .inr (3, [.ref q_o_xs, .ref q_o_ys, .ref q_o_ws, .int o_count, .int o_mode, .int o_degree]))]
set_option maxHeartbeats 4000000 in
set_option maxRecDepth 100000 in
theorem kX3_clear (D : va_G) (g : Nat → ClassId) (x : Xd) (l : Launch) (q_o q_o_xs q_o_ys q_o_ws : Nat)  (o_count : Int32) (o_mode : Int32) (o_degree : Int32) (R : Int32 × Int32 × Int32) (h : mX3_clear o_count o_degree o_mode = some R) : Cn D g x l yX3_clear cX3_clear 1 none 0 0 [.ref q_o] (wX3_clear g q_o q_o_xs q_o_ys q_o_ws o_count o_mode o_degree) (wX3_clear g q_o q_o_xs q_o_ys q_o_ws R.1 R.2.2 R.2.1) none := by
  refine CnV (by decide +kernel) (Nat.le_of_ble_eq_true rfl) (fun p e s m args below meth c A Q ls X hD hP hS fin hl => ?_)
  obtain ⟨hx, hb, hml, -, -, hown, hts, hK, hA, hE⟩ := id X
  unfold mX3_clear at h
  have hl : lv_has ls 1 [(0, .ref q_o)] := hl
  refine lv_aload_n hx hb dX3_clear_0 rfl (lv_at hl 0 rfl) ?_
  refine lv_iconst (v := 0) hx hb dX3_clear_1 (by decide) ?_
  refine mputI X fl_X3_21 (ws1 := wX3_clear g q_o q_o_xs q_o_ys q_o_ws 0 o_mode o_degree) hP hD hS 0 rfl rfl ⟨_, rfl, rfl⟩ dX3_clear_2 rfl (fun H locs hP hD hS => ?_)
  refine lv_aload_n hx hb dX3_clear_5 rfl (lv_at hl 0 rfl) ?_
  refine lv_iconst (v := 0) hx hb dX3_clear_6 (by decide) ?_
  refine mputI X fl_X3_25 (ws1 := wX3_clear g q_o q_o_xs q_o_ys q_o_ws 0 0 o_degree) hP hD hS 0 rfl rfl ⟨_, rfl, rfl⟩ dX3_clear_7 rfl (fun H locs hP hD hS => ?_)
  refine lv_aload_n hx hb dX3_clear_10 rfl (lv_at hl 0 rfl) ?_
  refine lv_iconst (v := 0) hx hb dX3_clear_11 (by decide) ?_
  refine mputI X fl_X3_28 (ws1 := wX3_clear g q_o q_o_xs q_o_ys q_o_ws 0 0 0) hP hD hS 0 rfl rfl ⟨_, rfl, rfl⟩ dX3_clear_12 rfl (fun H locs hP hD hS => ?_)
  cases h
  exact fin _ _ _ _ hP hS dX3_clear_15
abbrev wX3_isFull (g : Nat → ClassId) (q_o q_o_xs q_o_ys q_o_ws : Nat)  (o_count : Int32) (o_mode : Int32) (o_degree : Int32) : va_W := [(q_o, .inr (3, [.ref q_o_xs, .ref q_o_ys, .ref q_o_ws, .int o_count, .int o_mode, .int o_degree]))]
set_option maxHeartbeats 4000000 in
set_option maxRecDepth 100000 in
theorem kX3_isFull (D : va_G) (g : Nat → ClassId) (x : Xd) (l : Launch) (q_o q_o_xs q_o_ys q_o_ws : Nat)  (o_count : Int32) (o_mode : Int32) (o_degree : Int32) (R : Int32) (h : mX3_isFull o_count = some R) : Cn D g x l yX3_isFull cX3_isFull 1 (some .boolean) 0 0 [.ref q_o] (wX3_isFull g q_o q_o_xs q_o_ys q_o_ws o_count o_mode o_degree) (wX3_isFull g q_o q_o_xs q_o_ys q_o_ws o_count o_mode o_degree) (some (.int R)) := by
  refine CnI (by decide +kernel) (Nat.le_of_ble_eq_true rfl) (fun p e s m args below meth c A Q ls X hD hP hS fin hl => ?_)
  obtain ⟨hx, hb, hml, -, -, hown, hts, hK, hA, hE⟩ := id X
  unfold mX3_isFull at h
  have hl : lv_has ls 1 [(0, .ref q_o)] := hl
  refine lv_aload_n hx hb dX3_isFull_0 rfl (lv_at hl 0 rfl) ?_
  refine mget X fl_X3_21 hP 0 rfl rfl dX3_isFull_1 ?_
  refine lv_iconst (v := 5) hx hb dX3_isFull_4 (by decide) ?_
  refine lv_icmp_lt (tgt := 12) hx hb dX3_isFull_5 (by decide) (fun b1 => ?_) (fun b1 => ?_)
  · have h := o_t b1 h
    refine lv_iconst (v := 0) hx hb dX3_isFull_12 (by decide) ?_
    cases h
    exact fin _ _ _ _ (nar_z (Or.inl rfl)) hP hS dX3_isFull_13
  · have h := o_f b1 h
    refine lv_iconst (v := 1) hx hb dX3_isFull_8 (by decide) ?_
    refine lv_goto (tgt := 13) hx hb dX3_isFull_9 (by decide) ?_
    cases h
    exact fin _ _ _ _ (nar_z (Or.inr rfl)) hP hS dX3_isFull_13
abbrev wX3_putX (g : Nat → ClassId) (q_o q_o_xs q_o_ys q_o_ws : Nat)  (o_count : Int32) (o_mode : Int32) (o_degree : Int32) (o_xs : Nat → Int32) : va_W := [(q_o, .inr (3, [.ref q_o_xs, .ref q_o_ys, .ref q_o_ws, .int o_count, .int o_mode, .int o_degree])), (q_o_xs, .inl (g 0, 5, .inl o_xs))]
set_option maxHeartbeats 4000000 in
set_option maxRecDepth 100000 in
theorem kX3_putX (D : va_G) (g : Nat → ClassId) (x : Xd) (l : Launch) (q_o q_o_xs q_o_ys q_o_ws : Nat)  (o_count : Int32) (o_mode : Int32) (o_degree : Int32) (o_xs : Nat → Int32) (p1 : Int32) (p2 : Int32) (R : Nat → Int32) (h : mX3_putX o_xs p1 p2 = some R) : Cn D g x l yX3_putX cX3_putX 3 none 0 0 [.ref q_o, .int p1, .int p2] (wX3_putX g q_o q_o_xs q_o_ys q_o_ws o_count o_mode o_degree o_xs) (wX3_putX g q_o q_o_xs q_o_ys q_o_ws o_count o_mode o_degree R) none := by
  refine CnV (by decide +kernel) (Nat.le_of_ble_eq_true rfl) (fun p e s m args below meth c A Q ls X hD hP hS fin hl => ?_)
  obtain ⟨hx, hb, hml, -, -, hown, hts, hK, hA, hE⟩ := id X
  unfold mX3_putX at h
  have hl : lv_has ls 3 [(0, .ref q_o), (1, .int p1), (2, .int p2)] := hl
  refine lv_iload_n hx hb dX3_putX_0 rfl (lv_at hl 1 rfl) ?_
  refine lv_if_lt (tgt := 16) hx hb dX3_putX_1 (by decide) (fun b1 => ?_) (fun b1 => ?_)
  · have h := o_t b1 h
    cases h
    exact fin _ _ _ _ hP hS dX3_putX_16
  · have h := o_f b1 h
    refine lv_iload_n hx hb dX3_putX_4 rfl (lv_at hl 1 rfl) ?_
    refine lv_iconst (v := 5) hx hb dX3_putX_5 (by decide) ?_
    refine lv_icmp_ge (tgt := 16) hx hb dX3_putX_6 (by decide) (fun b2 => ?_) (fun b2 => ?_)
    · have h := o_t b2 h
      cases h
      exact fin _ _ _ _ hP hS dX3_putX_16
    · have h := o_f b2 h
      refine lv_aload_n hx hb dX3_putX_9 rfl (lv_at hl 0 rfl) ?_
      refine mget X fl_X3_9 hP 0 rfl rfl dX3_putX_10 ?_
      refine lv_iload_n hx hb dX3_putX_13 rfl (lv_at hl 1 rfl) ?_
      refine lv_iload_n hx hb dX3_putX_14 rfl (lv_at hl 2 rfl) ?_
      obtain ⟨b3, h⟩ := o_no h
      refine mist X (ws1 := wX3_putX g q_o q_o_xs q_o_ys q_o_ws o_count o_mode o_degree (upd o_xs (Int32.toNatClampNeg p1) p2)) hP hD hS 1 rfl b3 dX3_putX_15 rfl (fun H locs hP hD hS => ?_)
      cases h
      exact fin _ _ _ _ hP hS dX3_putX_16
abbrev wX3_putY (g : Nat → ClassId) (q_o q_o_ys q_o_xs q_o_ws : Nat)  (o_count : Int32) (o_mode : Int32) (o_degree : Int32) (o_ys : Nat → Int32) : va_W := [(q_o, .inr (3, [.ref q_o_xs, .ref q_o_ys, .ref q_o_ws, .int o_count, .int o_mode, .int o_degree])), (q_o_ys, .inl (g 0, 5, .inl o_ys))]
set_option maxHeartbeats 4000000 in
set_option maxRecDepth 100000 in
theorem kX3_putY (D : va_G) (g : Nat → ClassId) (x : Xd) (l : Launch) (q_o q_o_ys q_o_xs q_o_ws : Nat)  (o_count : Int32) (o_mode : Int32) (o_degree : Int32) (o_ys : Nat → Int32) (p1 : Int32) (p2 : Int32) (R : Nat → Int32) (h : mX3_putY o_ys p1 p2 = some R) : Cn D g x l yX3_putY cX3_putY 3 none 0 0 [.ref q_o, .int p1, .int p2] (wX3_putY g q_o q_o_ys q_o_xs q_o_ws o_count o_mode o_degree o_ys) (wX3_putY g q_o q_o_ys q_o_xs q_o_ws o_count o_mode o_degree R) none := by
  refine CnV (by decide +kernel) (Nat.le_of_ble_eq_true rfl) (fun p e s m args below meth c A Q ls X hD hP hS fin hl => ?_)
  obtain ⟨hx, hb, hml, -, -, hown, hts, hK, hA, hE⟩ := id X
  unfold mX3_putY at h
  have hl : lv_has ls 3 [(0, .ref q_o), (1, .int p1), (2, .int p2)] := hl
  refine lv_iload_n hx hb dX3_putY_0 rfl (lv_at hl 1 rfl) ?_
  refine lv_if_lt (tgt := 16) hx hb dX3_putY_1 (by decide) (fun b1 => ?_) (fun b1 => ?_)
  · have h := o_t b1 h
    cases h
    exact fin _ _ _ _ hP hS dX3_putY_16
  · have h := o_f b1 h
    refine lv_iload_n hx hb dX3_putY_4 rfl (lv_at hl 1 rfl) ?_
    refine lv_iconst (v := 5) hx hb dX3_putY_5 (by decide) ?_
    refine lv_icmp_ge (tgt := 16) hx hb dX3_putY_6 (by decide) (fun b2 => ?_) (fun b2 => ?_)
    · have h := o_t b2 h
      cases h
      exact fin _ _ _ _ hP hS dX3_putY_16
    · have h := o_f b2 h
      refine lv_aload_n hx hb dX3_putY_9 rfl (lv_at hl 0 rfl) ?_
      refine mget X fl_X3_15 hP 0 rfl rfl dX3_putY_10 ?_
      refine lv_iload_n hx hb dX3_putY_13 rfl (lv_at hl 1 rfl) ?_
      refine lv_iload_n hx hb dX3_putY_14 rfl (lv_at hl 2 rfl) ?_
      obtain ⟨b3, h⟩ := o_no h
      refine mist X (ws1 := wX3_putY g q_o q_o_ys q_o_xs q_o_ws o_count o_mode o_degree (upd o_ys (Int32.toNatClampNeg p1) p2)) hP hD hS 1 rfl b3 dX3_putY_15 rfl (fun H locs hP hD hS => ?_)
      cases h
      exact fin _ _ _ _ hP hS dX3_putY_16
abbrev wX3_putW (g : Nat → ClassId) (q_o q_o_ws q_o_xs q_o_ys : Nat)  (o_count : Int32) (o_mode : Int32) (o_degree : Int32) (o_ws : Nat → Int32) : va_W := [(q_o, .inr (3, [.ref q_o_xs, .ref q_o_ys, .ref q_o_ws, .int o_count, .int o_mode, .int o_degree])), (q_o_ws, .inl (g 0, 5, .inl o_ws))]
set_option maxHeartbeats 4000000 in
set_option maxRecDepth 100000 in
theorem kX3_putW (D : va_G) (g : Nat → ClassId) (x : Xd) (l : Launch) (q_o q_o_ws q_o_xs q_o_ys : Nat)  (o_count : Int32) (o_mode : Int32) (o_degree : Int32) (o_ws : Nat → Int32) (p1 : Int32) (p2 : Int32) (R : Nat → Int32) (h : mX3_putW o_ws p1 p2 = some R) : Cn D g x l yX3_putW cX3_putW 3 none 0 0 [.ref q_o, .int p1, .int p2] (wX3_putW g q_o q_o_ws q_o_xs q_o_ys o_count o_mode o_degree o_ws) (wX3_putW g q_o q_o_ws q_o_xs q_o_ys o_count o_mode o_degree R) none := by
  refine CnV (by decide +kernel) (Nat.le_of_ble_eq_true rfl) (fun p e s m args below meth c A Q ls X hD hP hS fin hl => ?_)
  obtain ⟨hx, hb, hml, -, -, hown, hts, hK, hA, hE⟩ := id X
  unfold mX3_putW at h
  have hl : lv_has ls 3 [(0, .ref q_o), (1, .int p1), (2, .int p2)] := hl
  refine lv_iload_n hx hb dX3_putW_0 rfl (lv_at hl 1 rfl) ?_
  refine lv_if_lt (tgt := 16) hx hb dX3_putW_1 (by decide) (fun b1 => ?_) (fun b1 => ?_)
  · have h := o_t b1 h
    cases h
    exact fin _ _ _ _ hP hS dX3_putW_16
  · have h := o_f b1 h
    refine lv_iload_n hx hb dX3_putW_4 rfl (lv_at hl 1 rfl) ?_
    refine lv_iconst (v := 5) hx hb dX3_putW_5 (by decide) ?_
    refine lv_icmp_ge (tgt := 16) hx hb dX3_putW_6 (by decide) (fun b2 => ?_) (fun b2 => ?_)
    · have h := o_t b2 h
      cases h
      exact fin _ _ _ _ hP hS dX3_putW_16
    · have h := o_f b2 h
      refine lv_aload_n hx hb dX3_putW_9 rfl (lv_at hl 0 rfl) ?_
      refine mget X fl_X3_18 hP 0 rfl rfl dX3_putW_10 ?_
      refine lv_iload_n hx hb dX3_putW_13 rfl (lv_at hl 1 rfl) ?_
      refine lv_iload_n hx hb dX3_putW_14 rfl (lv_at hl 2 rfl) ?_
      obtain ⟨b3, h⟩ := o_no h
      refine mist X (ws1 := wX3_putW g q_o q_o_ws q_o_xs q_o_ys o_count o_mode o_degree (upd o_ws (Int32.toNatClampNeg p1) p2)) hP hD hS 1 rfl b3 dX3_putW_15 rfl (fun H locs hP hD hS => ?_)
      cases h
      exact fin _ _ _ _ hP hS dX3_putW_16
abbrev wX3_append (g : Nat → ClassId) (q_o q_o_ws q_o_xs q_o_ys : Nat)  (o_count : Int32) (o_mode : Int32) (o_degree : Int32) (o_ws : Nat → Int32) (o_xs : Nat → Int32) (o_ys : Nat → Int32) : va_W := [(q_o, .inr (3, [.ref q_o_xs, .ref q_o_ys, .ref q_o_ws, .int o_count, .int o_mode, .int o_degree])), (q_o_ws, .inl (g 0, 5, .inl o_ws)), (q_o_xs, .inl (g 0, 5, .inl o_xs)), (q_o_ys, .inl (g 0, 5, .inl o_ys))]
set_option maxHeartbeats 4000000 in
set_option maxRecDepth 100000 in
theorem kX3_append (D : va_G) (g : Nat → ClassId) (x : Xd) (l : Launch) (q_o q_o_ws q_o_xs q_o_ys : Nat)  (o_count : Int32) (o_mode : Int32) (o_degree : Int32) (o_ws : Nat → Int32) (o_xs : Nat → Int32) (o_ys : Nat → Int32) (p1 : Int32) (p2 : Int32) (p3 : Int32) (R : Int32 × (Nat → Int32) × (Nat → Int32) × (Nat → Int32)) (h : mX3_append o_count o_ws o_xs o_ys p1 p2 p3 = some R) : Cn D g x l yX3_append cX3_append 4 none 1 22 [.ref q_o, .int p1, .int p2, .int p3] (wX3_append g q_o q_o_ws q_o_xs q_o_ys o_count o_mode o_degree o_ws o_xs o_ys) (wX3_append g q_o q_o_ws q_o_xs q_o_ys R.1 o_mode o_degree R.2.1 R.2.2.1 R.2.2.2) none := by
  refine CnV (by decide +kernel) (Nat.le_of_ble_eq_true rfl) (fun p e s m args below meth c A Q ls X hD hP hS fin hl => ?_)
  obtain ⟨hx, hb, hml, -, -, hown, hts, hK, hA, hE⟩ := id X
  unfold mX3_append at h
  have hl : lv_has ls 4 [(0, .ref q_o), (1, .int p1), (2, .int p2), (3, .int p3)] := hl
  refine lv_aload_n hx hb dX3_append_0 rfl (lv_at hl 0 rfl) ?_
  obtain ⟨r1, c1, h⟩ := o_b h
  refine mcallV X (As := []) (rest := []) (ws1 := wX3_append g q_o q_o_ws q_o_xs q_o_ys o_count o_mode o_degree o_ws o_xs o_ys) (st1 := [.int r1]) (kX3_isFull D g x l q_o q_o_xs q_o_ys q_o_ws o_count o_mode o_degree  r1 c1) mw_X3_isFull ml_X3_31 ⟨Nat.le_of_ble_eq_true rfl, Nat.le_of_ble_eq_true rfl⟩ hP hD hS [0] (by decide +kernel) rfl rfl 0 rfl rfl rfl hl.1 rfl (Nat.le_of_ble_eq_true rfl) dX3_append_1 ⟨Nat.le_refl _, Nat.le_refl _⟩ rfl rfl (fun H locs hP hD hS => ?_)
  refine lv_if_eq (tgt := 8) hx hb dX3_append_4 (by decide) (fun b2 => ?_) (fun b2 => ?_)
  · have h := o_t b2 h
    refine lv_aload_n hx hb dX3_append_8 rfl (lv_at hl 0 rfl) ?_
    refine lv_dup hx hb dX3_append_9 rfl ?_
    refine mget X fl_X3_21 hP 0 rfl rfl dX3_append_10 ?_
    refine lv_iconst (v := 1) hx hb dX3_append_13 (by decide) ?_
    refine lv_iadd hx hb dX3_append_14 ?_
    refine mputI X fl_X3_21 (ws1 := wX3_append g q_o q_o_ws q_o_xs q_o_ys (o_count + 1) o_mode o_degree o_ws o_xs o_ys) hP hD hS 0 rfl rfl ⟨_, rfl, rfl⟩ dX3_append_15 rfl (fun H locs hP hD hS => ?_)
    refine lv_aload_n hx hb dX3_append_18 rfl (lv_at hl 0 rfl) ?_
    refine lv_aload_n hx hb dX3_append_19 rfl (lv_at hl 0 rfl) ?_
    refine mget X fl_X3_21 hP 0 rfl rfl dX3_append_20 ?_
    refine lv_iconst (v := 1) hx hb dX3_append_23 (by decide) ?_
    refine lv_isub hx hb dX3_append_24 ?_
    refine lv_iload_n hx hb dX3_append_25 rfl (lv_at hl 1 rfl) ?_
    obtain ⟨r3, c3, h⟩ := o_b h
    refine mcallV X (As := [.int ((o_count + 1) - 1), .int p1]) (rest := []) (ws1 := wX3_append g q_o q_o_ws q_o_xs q_o_ys (o_count + 1) o_mode o_degree o_ws r3 o_ys) (st1 := []) (kX3_putX D g x l q_o q_o_xs q_o_ys q_o_ws (o_count + 1) o_mode o_degree o_xs ((o_count + 1) - 1) p1 r3 c3) mw_X3_putX ml_X3_35 ⟨Nat.le_of_ble_eq_true rfl, Nat.le_of_ble_eq_true rfl⟩ hP hD hS [0, 2] (by decide +kernel) rfl rfl 0 rfl rfl rfl hl.1 rfl (Nat.le_of_ble_eq_true rfl) dX3_append_26 ⟨Nat.le_refl _, Nat.le_refl _⟩ rfl rfl (fun H locs hP hD hS => ?_)
    refine lv_aload_n hx hb dX3_append_29 rfl (lv_at hl 0 rfl) ?_
    refine lv_aload_n hx hb dX3_append_30 rfl (lv_at hl 0 rfl) ?_
    refine mget X fl_X3_21 hP 0 rfl rfl dX3_append_31 ?_
    refine lv_iconst (v := 1) hx hb dX3_append_34 (by decide) ?_
    refine lv_isub hx hb dX3_append_35 ?_
    refine lv_iload_n hx hb dX3_append_36 rfl (lv_at hl 2 rfl) ?_
    obtain ⟨r4, c4, h⟩ := o_b h
    refine mcallV X (As := [.int ((o_count + 1) - 1), .int p2]) (rest := []) (ws1 := wX3_append g q_o q_o_ws q_o_xs q_o_ys (o_count + 1) o_mode o_degree o_ws r3 r4) (st1 := []) (kX3_putY D g x l q_o q_o_ys q_o_xs q_o_ws (o_count + 1) o_mode o_degree o_ys ((o_count + 1) - 1) p2 r4 c4) mw_X3_putY ml_X3_39 ⟨Nat.le_of_ble_eq_true rfl, Nat.le_of_ble_eq_true rfl⟩ hP hD hS [0, 3] (by decide +kernel) rfl rfl 0 rfl rfl rfl hl.1 rfl (Nat.le_of_ble_eq_true rfl) dX3_append_37 ⟨Nat.le_refl _, Nat.le_refl _⟩ rfl rfl (fun H locs hP hD hS => ?_)
    refine lv_aload_n hx hb dX3_append_40 rfl (lv_at hl 0 rfl) ?_
    refine lv_aload_n hx hb dX3_append_41 rfl (lv_at hl 0 rfl) ?_
    refine mget X fl_X3_21 hP 0 rfl rfl dX3_append_42 ?_
    refine lv_iconst (v := 1) hx hb dX3_append_45 (by decide) ?_
    refine lv_isub hx hb dX3_append_46 ?_
    refine lv_iload_n hx hb dX3_append_47 rfl (lv_at hl 3 rfl) ?_
    obtain ⟨r5, c5, h⟩ := o_b h
    refine mcallV X (As := [.int ((o_count + 1) - 1), .int p3]) (rest := []) (ws1 := wX3_append g q_o q_o_ws q_o_xs q_o_ys (o_count + 1) o_mode o_degree r5 r3 r4) (st1 := []) (kX3_putW D g x l q_o q_o_ws q_o_xs q_o_ys (o_count + 1) o_mode o_degree o_ws ((o_count + 1) - 1) p3 r5 c5) mw_X3_putW ml_X3_42 ⟨Nat.le_of_ble_eq_true rfl, Nat.le_of_ble_eq_true rfl⟩ hP hD hS [0, 1] (by decide +kernel) rfl rfl 0 rfl rfl rfl hl.1 rfl (Nat.le_of_ble_eq_true rfl) dX3_append_48 ⟨Nat.le_refl _, Nat.le_refl _⟩ rfl rfl (fun H locs hP hD hS => ?_)
    cases h
    exact fin _ _ _ _ hP hS dX3_append_51
  · have h := o_f b2 h
    cases h
    exact fin _ _ _ _ hP hS dX3_append_7
abbrev wX3_xOf (g : Nat → ClassId) (q_o q_o_xs q_o_ys q_o_ws : Nat)  (o_count : Int32) (o_mode : Int32) (o_degree : Int32) (o_xs : Nat → Int32) : va_W := [(q_o, .inr (3, [.ref q_o_xs, .ref q_o_ys, .ref q_o_ws, .int o_count, .int o_mode, .int o_degree])), (q_o_xs, .inl (g 0, 5, .inl o_xs))]
set_option maxHeartbeats 4000000 in
set_option maxRecDepth 100000 in
theorem kX3_xOf (D : va_G) (g : Nat → ClassId) (x : Xd) (l : Launch) (q_o q_o_xs q_o_ys q_o_ws : Nat)  (o_count : Int32) (o_mode : Int32) (o_degree : Int32) (o_xs : Nat → Int32) (p1 : Int32) (R : Int32) (h : mX3_xOf o_xs p1 = some R) : Cn D g x l yX3_xOf cX3_xOf 2 (some .int) 0 0 [.ref q_o, .int p1] (wX3_xOf g q_o q_o_xs q_o_ys q_o_ws o_count o_mode o_degree o_xs) (wX3_xOf g q_o q_o_xs q_o_ys q_o_ws o_count o_mode o_degree o_xs) (some (.int R)) := by
  refine CnI (by decide +kernel) (Nat.le_of_ble_eq_true rfl) (fun p e s m args below meth c A Q ls X hD hP hS fin hl => ?_)
  obtain ⟨hx, hb, hml, -, -, hown, hts, hK, hA, hE⟩ := id X
  unfold mX3_xOf at h
  have hl : lv_has ls 2 [(0, .ref q_o), (1, .int p1)] := hl
  refine lv_iload_n hx hb dX3_xOf_0 rfl (lv_at hl 1 rfl) ?_
  refine lv_if_lt (tgt := 18) hx hb dX3_xOf_1 (by decide) (fun b1 => ?_) (fun b1 => ?_)
  · have h := o_t b1 h
    refine lv_iconst (v := 0) hx hb dX3_xOf_18 (by decide) ?_
    cases h
    exact fin _ _ _ _ rfl hP hS dX3_xOf_19
  · have h := o_f b1 h
    refine lv_iload_n hx hb dX3_xOf_4 rfl (lv_at hl 1 rfl) ?_
    refine lv_iconst (v := 5) hx hb dX3_xOf_5 (by decide) ?_
    refine lv_icmp_ge (tgt := 18) hx hb dX3_xOf_6 (by decide) (fun b2 => ?_) (fun b2 => ?_)
    · have h := o_t b2 h
      refine lv_iconst (v := 0) hx hb dX3_xOf_18 (by decide) ?_
      cases h
      exact fin _ _ _ _ rfl hP hS dX3_xOf_19
    · have h := o_f b2 h
      refine lv_aload_n hx hb dX3_xOf_9 rfl (lv_at hl 0 rfl) ?_
      refine mget X fl_X3_9 hP 0 rfl rfl dX3_xOf_10 ?_
      refine lv_iload_n hx hb dX3_xOf_13 rfl (lv_at hl 1 rfl) ?_
      obtain ⟨b3, h⟩ := o_no h
      refine mild X hP 1 rfl b3 dX3_xOf_14 ?_
      refine lv_goto (tgt := 19) hx hb dX3_xOf_15 (by decide) ?_
      cases h
      exact fin _ _ _ _ rfl hP hS dX3_xOf_19
abbrev wX3_find (g : Nat → ClassId) (q_o q_o_xs q_o_ys q_o_ws : Nat)  (o_count : Int32) (o_mode : Int32) (o_degree : Int32) (o_xs : Nat → Int32) : va_W := [(q_o, .inr (3, [.ref q_o_xs, .ref q_o_ys, .ref q_o_ws, .int o_count, .int o_mode, .int o_degree])), (q_o_xs, .inl (g 0, 5, .inl o_xs))]
set_option maxHeartbeats 4000000 in
set_option maxRecDepth 100000 in
theorem kX3_find (D : va_G) (g : Nat → ClassId) (x : Xd) (l : Launch) (q_o q_o_xs q_o_ys q_o_ws : Nat)  (o_count : Int32) (o_mode : Int32) (o_degree : Int32) (o_xs : Nat → Int32) (p1 : Int32) (R : Int32) (h : mX3_find o_count o_xs p1 = some R) : Cn D g x l yX3_find cX3_find 3 (some .int) 1 21 [.ref q_o, .int p1] (wX3_find g q_o q_o_xs q_o_ys q_o_ws o_count o_mode o_degree o_xs) (wX3_find g q_o q_o_xs q_o_ys q_o_ws o_count o_mode o_degree o_xs) (some (.int R)) := by
  refine CnI (by decide +kernel) (Nat.le_of_ble_eq_true rfl) (fun p e s m args below meth c A Q ls X hD hP hS fin hl => ?_)
  obtain ⟨hx, hb, hml, -, -, hown, hts, hK, hA, hE⟩ := id X
  unfold mX3_find at h
  have hl : lv_has ls 3 [(0, .ref q_o), (1, .int p1)] := hl
  refine lv_iconst (v := 0) hx hb dX3_find_0 (by decide) ?_
  refine lv_istore_n (lv' := [(2, .int 0), (0, .ref q_o), (1, .int p1)]) hx hb dX3_find_1 rfl hl (by decide) rfl (fun ls hl => ?_)
  have lp1 : ∀ (n : Nat) (v1_2 : Int32) (R1 : Nat × Int32) (h : lX3_find_2 p1 o_count o_xs n v1_2 = some R1) (H : Heap) (locs : List Loc), va_P D vwCl (wX3_find g q_o q_o_xs q_o_ys q_o_ws o_count o_mode o_degree o_xs) H → va_D A (wX3_find g q_o q_o_xs q_o_ys q_o_ws o_count o_mode o_degree o_xs) → va_S A s.heap H locs → ∀ (ls : Array Slot), lv_has ls 3 [(0, .ref q_o), (1, .int p1), (2, .int v1_2)] → (R1.1 = 0 → ∀ (H : Heap) (locs : List Loc) (ls : Array Slot), va_P D vwCl (wX3_find g q_o q_o_xs q_o_ys q_o_ws o_count o_mode o_degree o_xs) H → va_D A (wX3_find g q_o q_o_xs q_o_ys q_o_ws o_count o_mode o_degree o_xs) → va_S A s.heap H locs → lv_has ls 3 [(2, .int R1.2)] → W p l e (rmF 1 21) s m args below meth c H locs 0 0 Q (F0 m 19 ls [])) → (¬ R1.1 = 0 → ∀ (H : Heap) (locs : List Loc) (ls : Array Slot), va_P D vwCl (wX3_find g q_o q_o_xs q_o_ys q_o_ws o_count o_mode o_degree o_xs) H → va_D A (wX3_find g q_o q_o_xs q_o_ys q_o_ws o_count o_mode o_degree o_xs) → va_S A s.heap H locs → lv_has ls 3 [] → W p l e (rmF 1 21) s m args below meth c H locs 0 0 Q (F0 m 27 ls [])) → W p l e (rmF 1 21) s m args below meth c H locs 0 0 Q (F0 m 2 ls []) := by
    intro n
    induction n with
    | zero =>
      intro v1_2 R1 h
      have h : none = some R1 := h
      cases h
    | succ n ih1 =>
      intro v1_2 R1 h H locs hP hD hS ls hl K1_0 K1_1
      have h : (if o_count ≤ v1_2 then some ((1 : Nat), v1_2) else (mX3_xOf o_xs v1_2).bind fun r3 => if r3 = p1 then some ((0 : Nat), v1_2) else lX3_find_2 p1 o_count o_xs n (v1_2 + 1) : Option (Nat × Int32)) = some R1 := h
      refine lv_iload_n hx hb dX3_find_2 rfl (lv_at hl 2 rfl) ?_
      refine lv_aload_n hx hb dX3_find_3 rfl (lv_at hl 0 rfl) ?_
      refine mget X fl_X3_21 hP 0 rfl rfl dX3_find_4 ?_
      refine lv_icmp_ge (tgt := 27) hx hb dX3_find_7 (by decide) (fun b2 => ?_) (fun b2 => ?_)
      · have h := o_t b2 h
        cases h
        exact K1_1 (show ¬ (1 : Nat) = 0 from by decide) _ _ _ hP hD hS (lv_sub hl [] rfl)
      · have h := o_f b2 h
        refine lv_aload_n hx hb dX3_find_10 rfl (lv_at hl 0 rfl) ?_
        refine lv_iload_n hx hb dX3_find_11 rfl (lv_at hl 2 rfl) ?_
        obtain ⟨r3, c3, h⟩ := o_b h
        refine mcallV X (As := [.int v1_2]) (rest := []) (ws1 := wX3_find g q_o q_o_xs q_o_ys q_o_ws o_count o_mode o_degree o_xs) (st1 := [.int r3]) (kX3_xOf D g x l q_o q_o_xs q_o_ys q_o_ws o_count o_mode o_degree o_xs v1_2 r3 c3) mw_X3_xOf ml_X3_49 ⟨Nat.le_of_ble_eq_true rfl, Nat.le_of_ble_eq_true rfl⟩ hP hD hS [0, 1] (by decide +kernel) rfl rfl 0 rfl rfl rfl hl.1 rfl (Nat.le_of_ble_eq_true rfl) dX3_find_12 ⟨Nat.le_refl _, Nat.le_refl _⟩ rfl rfl (fun H locs hP hD hS => ?_)
        refine lv_iload_n hx hb dX3_find_15 rfl (lv_at hl 1 rfl) ?_
        refine lv_icmp_ne (tgt := 21) hx hb dX3_find_16 (by decide) (fun b4 => ?_) (fun b4 => ?_)
        · have h := o_f b4 h
          refine lv_iinc (v := v1_2 + 1) (lv' := [(2, .int (v1_2 + 1)), (0, .ref q_o), (1, .int p1)]) hx hb dX3_find_21 hl (k := 2) rfl rfl (by decide) rfl (fun ls hl => ?_)
          refine lv_goto (tgt := 2) hx hb dX3_find_24 (by decide) ?_
          exact ih1 (v1_2 + 1) _ h _ _ hP hD hS _ (lv_sub hl [1, 2, 0] rfl) K1_0 K1_1
        · have h := o_t b4 h
          cases h
          exact K1_0 rfl _ _ _ hP hD hS (lv_sub hl [2] rfl)
  obtain ⟨r5, c5, h⟩ := o_b h
  refine lp1 FU 0 r5 c5 _ _ hP hD hS _ (lv_sub hl [1, 2, 0] rfl) (fun t1_0 H locs ls hP hD hS hl => ?_) (fun t1_0 H locs ls hP hD hS hl => ?_)
  · have h := o_t t1_0 h
    refine lv_iload_n hx hb dX3_find_19 rfl (lv_at hl 0 rfl) ?_
    cases h
    exact fin _ _ _ _ rfl hP hS dX3_find_20
  · have h := o_f t1_0 h
    refine lv_iconst (v := (-1)) hx hb dX3_find_27 (by decide) ?_
    cases h
    exact fin _ _ _ _ rfl hP hS dX3_find_28
abbrev wX3_copyFrom (g : Nat → ClassId) (q_o q_o_ws q_o_xs q_o_ys q_p1 q_p1_ws q_p1_xs q_p1_ys : Nat)  (o_count : Int32) (o_mode : Int32) (o_degree : Int32) (o_ws : Nat → Int32) (o_xs : Nat → Int32) (o_ys : Nat → Int32) (p1_count : Int32) (p1_mode : Int32) (p1_degree : Int32) (p1_ws : Nat → Int32) (p1_xs : Nat → Int32) (p1_ys : Nat → Int32) : va_W := [(q_o, .inr (3, [.ref q_o_xs, .ref q_o_ys, .ref q_o_ws, .int o_count, .int o_mode, .int o_degree])), (q_o_ws, .inl (g 0, 5, .inl o_ws)), (q_o_xs, .inl (g 0, 5, .inl o_xs)), (q_o_ys, .inl (g 0, 5, .inl o_ys)), (q_p1, .inr (3, [.ref q_p1_xs, .ref q_p1_ys, .ref q_p1_ws, .int p1_count, .int p1_mode, .int p1_degree])), (q_p1_ws, .inl (g 0, 5, .inl p1_ws)), (q_p1_xs, .inl (g 0, 5, .inl p1_xs)), (q_p1_ys, .inl (g 0, 5, .inl p1_ys))]
set_option maxHeartbeats 4000000 in
set_option maxRecDepth 100000 in
theorem kX3_copyFrom (D : va_G) (g : Nat → ClassId) (x : Xd) (l : Launch) (q_o q_o_ws q_o_xs q_o_ys q_p1 q_p1_ws q_p1_xs q_p1_ys : Nat)  (o_count : Int32) (o_mode : Int32) (o_degree : Int32) (o_ws : Nat → Int32) (o_xs : Nat → Int32) (o_ys : Nat → Int32) (p1_count : Int32) (p1_mode : Int32) (p1_degree : Int32) (p1_ws : Nat → Int32) (p1_xs : Nat → Int32) (p1_ys : Nat → Int32) (R : Int32 × Int32 × Int32 × (Nat → Int32) × (Nat → Int32) × (Nat → Int32)) (h : mX3_copyFrom o_count o_degree o_mode o_ws o_xs o_ys p1_count p1_degree p1_mode p1_ws p1_xs p1_ys = some R) : Cn D g x l yX3_copyFrom cX3_copyFrom 3 none 0 0 [.ref q_o, .ref q_p1] (wX3_copyFrom g q_o q_o_ws q_o_xs q_o_ys q_p1 q_p1_ws q_p1_xs q_p1_ys o_count o_mode o_degree o_ws o_xs o_ys p1_count p1_mode p1_degree p1_ws p1_xs p1_ys) (wX3_copyFrom g q_o q_o_ws q_o_xs q_o_ys q_p1 q_p1_ws q_p1_xs q_p1_ys R.1 R.2.2.1 R.2.1 R.2.2.2.1 R.2.2.2.2.1 R.2.2.2.2.2 p1_count p1_mode p1_degree p1_ws p1_xs p1_ys) none := by
  refine CnV (by decide +kernel) (Nat.le_of_ble_eq_true rfl) (fun p e s m args below meth c A Q ls X hD hP hS fin hl => ?_)
  obtain ⟨hx, hb, hml, -, -, hown, hts, hK, hA, hE⟩ := id X
  unfold mX3_copyFrom at h
  have hl : lv_has ls 3 [(0, .ref q_o), (1, .ref q_p1)] := hl
  refine lv_iconst (v := 0) hx hb dX3_copyFrom_0 (by decide) ?_
  refine lv_istore_n (lv' := [(2, .int 0), (0, .ref q_o), (1, .ref q_p1)]) hx hb dX3_copyFrom_1 rfl hl (by decide) rfl (fun ls hl => ?_)
  have lp1 : ∀ (n : Nat) (v1_2 : Int32) (u1_o_ws : Nat → Int32) (u1_o_xs : Nat → Int32) (u1_o_ys : Nat → Int32) (R1 : (Nat → Int32) × (Nat → Int32) × (Nat → Int32)) (h : lX3_copyFrom_2 p1_ws p1_xs p1_ys n v1_2 u1_o_ws u1_o_xs u1_o_ys = some R1) (H : Heap) (locs : List Loc), va_P D vwCl (wX3_copyFrom g q_o q_o_ws q_o_xs q_o_ys q_p1 q_p1_ws q_p1_xs q_p1_ys o_count o_mode o_degree u1_o_ws u1_o_xs u1_o_ys p1_count p1_mode p1_degree p1_ws p1_xs p1_ys) H → va_D A (wX3_copyFrom g q_o q_o_ws q_o_xs q_o_ys q_p1 q_p1_ws q_p1_xs q_p1_ys o_count o_mode o_degree u1_o_ws u1_o_xs u1_o_ys p1_count p1_mode p1_degree p1_ws p1_xs p1_ys) → va_S A s.heap H locs → ∀ (ls : Array Slot), lv_has ls 3 [(0, .ref q_o), (1, .ref q_p1), (2, .int v1_2)] → (∀ (H : Heap) (locs : List Loc) (ls : Array Slot), va_P D vwCl (wX3_copyFrom g q_o q_o_ws q_o_xs q_o_ys q_p1 q_p1_ws q_p1_xs q_p1_ys o_count o_mode o_degree R1.1 R1.2.1 R1.2.2 p1_count p1_mode p1_degree p1_ws p1_xs p1_ys) H → va_D A (wX3_copyFrom g q_o q_o_ws q_o_xs q_o_ys q_p1 q_p1_ws q_p1_xs q_p1_ys o_count o_mode o_degree R1.1 R1.2.1 R1.2.2 p1_count p1_mode p1_degree p1_ws p1_xs p1_ys) → va_S A s.heap H locs → lv_has ls 3 [(0, .ref q_o), (1, .ref q_p1)] → W p l e (rmF 0 0) s m args below meth c H locs 0 0 Q (F0 m 49 ls [])) → W p l e (rmF 0 0) s m args below meth c H locs 0 0 Q (F0 m 2 ls []) := by
    intro n
    induction n with
    | zero =>
      intro v1_2 u1_o_ws u1_o_xs u1_o_ys R1 h
      have h : none = some R1 := h
      cases h
    | succ n ih1 =>
      intro v1_2 u1_o_ws u1_o_xs u1_o_ys R1 h H locs hP hD hS ls hl K1_0
      have h : (if 5 ≤ v1_2 then some (u1_o_ws, u1_o_xs, u1_o_ys) else if v1_2 < 0 ∨ 5 ≤ Int32.toNatClampNeg v1_2 then none else if v1_2 < 0 ∨ 5 ≤ Int32.toNatClampNeg v1_2 then none else if v1_2 < 0 ∨ 5 ≤ Int32.toNatClampNeg v1_2 then none else if v1_2 < 0 ∨ 5 ≤ Int32.toNatClampNeg v1_2 then none else if v1_2 < 0 ∨ 5 ≤ Int32.toNatClampNeg v1_2 then none else if v1_2 < 0 ∨ 5 ≤ Int32.toNatClampNeg v1_2 then none else lX3_copyFrom_2 p1_ws p1_xs p1_ys n (v1_2 + 1) (upd u1_o_ws (Int32.toNatClampNeg v1_2) (p1_ws (Int32.toNatClampNeg v1_2))) (upd u1_o_xs (Int32.toNatClampNeg v1_2) (p1_xs (Int32.toNatClampNeg v1_2))) (upd u1_o_ys (Int32.toNatClampNeg v1_2) (p1_ys (Int32.toNatClampNeg v1_2))) : Option ((Nat → Int32) × (Nat → Int32) × (Nat → Int32))) = some R1 := h
      refine lv_iload_n hx hb dX3_copyFrom_2 rfl (lv_at hl 2 rfl) ?_
      refine lv_iconst (v := 5) hx hb dX3_copyFrom_3 (by decide) ?_
      refine lv_icmp_ge (tgt := 49) hx hb dX3_copyFrom_4 (by decide) (fun b2 => ?_) (fun b2 => ?_)
      · have h := o_t b2 h
        cases h
        exact K1_0  _ _ _ hP hD hS (lv_sub hl [0, 1] rfl)
      · have h := o_f b2 h
        refine lv_aload_n hx hb dX3_copyFrom_7 rfl (lv_at hl 0 rfl) ?_
        refine mget X fl_X3_9 hP 0 rfl rfl dX3_copyFrom_8 ?_
        refine lv_iload_n hx hb dX3_copyFrom_11 rfl (lv_at hl 2 rfl) ?_
        refine lv_aload_n hx hb dX3_copyFrom_12 rfl (lv_at hl 1 rfl) ?_
        refine mget X fl_X3_9 hP 4 rfl rfl dX3_copyFrom_13 ?_
        refine lv_iload_n hx hb dX3_copyFrom_16 rfl (lv_at hl 2 rfl) ?_
        obtain ⟨b3, h⟩ := o_no h
        refine mild X hP 6 rfl b3 dX3_copyFrom_17 ?_
        obtain ⟨b4, h⟩ := o_no h
        refine mist X (ws1 := wX3_copyFrom g q_o q_o_ws q_o_xs q_o_ys q_p1 q_p1_ws q_p1_xs q_p1_ys o_count o_mode o_degree u1_o_ws (upd u1_o_xs (Int32.toNatClampNeg v1_2) (p1_xs (Int32.toNatClampNeg v1_2))) u1_o_ys p1_count p1_mode p1_degree p1_ws p1_xs p1_ys) hP hD hS 2 rfl b4 dX3_copyFrom_18 rfl (fun H locs hP hD hS => ?_)
        refine lv_aload_n hx hb dX3_copyFrom_19 rfl (lv_at hl 0 rfl) ?_
        refine mget X fl_X3_15 hP 0 rfl rfl dX3_copyFrom_20 ?_
        refine lv_iload_n hx hb dX3_copyFrom_23 rfl (lv_at hl 2 rfl) ?_
        refine lv_aload_n hx hb dX3_copyFrom_24 rfl (lv_at hl 1 rfl) ?_
        refine mget X fl_X3_15 hP 4 rfl rfl dX3_copyFrom_25 ?_
        refine lv_iload_n hx hb dX3_copyFrom_28 rfl (lv_at hl 2 rfl) ?_
        obtain ⟨b5, h⟩ := o_no h
        refine mild X hP 7 rfl b5 dX3_copyFrom_29 ?_
        obtain ⟨b6, h⟩ := o_no h
        refine mist X (ws1 := wX3_copyFrom g q_o q_o_ws q_o_xs q_o_ys q_p1 q_p1_ws q_p1_xs q_p1_ys o_count o_mode o_degree u1_o_ws (upd u1_o_xs (Int32.toNatClampNeg v1_2) (p1_xs (Int32.toNatClampNeg v1_2))) (upd u1_o_ys (Int32.toNatClampNeg v1_2) (p1_ys (Int32.toNatClampNeg v1_2))) p1_count p1_mode p1_degree p1_ws p1_xs p1_ys) hP hD hS 3 rfl b6 dX3_copyFrom_30 rfl (fun H locs hP hD hS => ?_)
        refine lv_aload_n hx hb dX3_copyFrom_31 rfl (lv_at hl 0 rfl) ?_
        refine mget X fl_X3_18 hP 0 rfl rfl dX3_copyFrom_32 ?_
        refine lv_iload_n hx hb dX3_copyFrom_35 rfl (lv_at hl 2 rfl) ?_
        refine lv_aload_n hx hb dX3_copyFrom_36 rfl (lv_at hl 1 rfl) ?_
        refine mget X fl_X3_18 hP 4 rfl rfl dX3_copyFrom_37 ?_
        refine lv_iload_n hx hb dX3_copyFrom_40 rfl (lv_at hl 2 rfl) ?_
        obtain ⟨b7, h⟩ := o_no h
        refine mild X hP 5 rfl b7 dX3_copyFrom_41 ?_
        obtain ⟨b8, h⟩ := o_no h
        refine mist X (ws1 := wX3_copyFrom g q_o q_o_ws q_o_xs q_o_ys q_p1 q_p1_ws q_p1_xs q_p1_ys o_count o_mode o_degree (upd u1_o_ws (Int32.toNatClampNeg v1_2) (p1_ws (Int32.toNatClampNeg v1_2))) (upd u1_o_xs (Int32.toNatClampNeg v1_2) (p1_xs (Int32.toNatClampNeg v1_2))) (upd u1_o_ys (Int32.toNatClampNeg v1_2) (p1_ys (Int32.toNatClampNeg v1_2))) p1_count p1_mode p1_degree p1_ws p1_xs p1_ys) hP hD hS 1 rfl b8 dX3_copyFrom_42 rfl (fun H locs hP hD hS => ?_)
        refine lv_iinc (v := v1_2 + 1) (lv' := [(2, .int (v1_2 + 1)), (0, .ref q_o), (1, .ref q_p1)]) hx hb dX3_copyFrom_43 hl (k := 2) rfl rfl (by decide) rfl (fun ls hl => ?_)
        refine lv_goto (tgt := 2) hx hb dX3_copyFrom_46 (by decide) ?_
        exact ih1 (v1_2 + 1) (upd u1_o_ws (Int32.toNatClampNeg v1_2) (p1_ws (Int32.toNatClampNeg v1_2))) (upd u1_o_xs (Int32.toNatClampNeg v1_2) (p1_xs (Int32.toNatClampNeg v1_2))) (upd u1_o_ys (Int32.toNatClampNeg v1_2) (p1_ys (Int32.toNatClampNeg v1_2))) _ h _ _ hP hD hS _ (lv_sub hl [1, 2, 0] rfl) K1_0
  obtain ⟨r9, c9, h⟩ := o_b h
  refine lp1 FU 0 o_ws o_xs o_ys r9 c9 _ _ hP hD hS _ (lv_sub hl [1, 2, 0] rfl) (fun H locs ls hP hD hS hl => ?_)
  refine lv_aload_n hx hb dX3_copyFrom_49 rfl (lv_at hl 0 rfl) ?_
  refine lv_aload_n hx hb dX3_copyFrom_50 rfl (lv_at hl 1 rfl) ?_
  refine mget X fl_X3_21 hP 4 rfl rfl dX3_copyFrom_51 ?_
  refine mputI X fl_X3_21 (ws1 := wX3_copyFrom g q_o q_o_ws q_o_xs q_o_ys q_p1 q_p1_ws q_p1_xs q_p1_ys p1_count o_mode o_degree r9.1 r9.2.1 r9.2.2 p1_count p1_mode p1_degree p1_ws p1_xs p1_ys) hP hD hS 0 rfl rfl ⟨_, rfl, rfl⟩ dX3_copyFrom_54 rfl (fun H locs hP hD hS => ?_)
  refine lv_aload_n hx hb dX3_copyFrom_57 rfl (lv_at hl 0 rfl) ?_
  refine lv_aload_n hx hb dX3_copyFrom_58 rfl (lv_at hl 1 rfl) ?_
  refine mget X fl_X3_25 hP 4 rfl rfl dX3_copyFrom_59 ?_
  refine mputI X fl_X3_25 (ws1 := wX3_copyFrom g q_o q_o_ws q_o_xs q_o_ys q_p1 q_p1_ws q_p1_xs q_p1_ys p1_count p1_mode o_degree r9.1 r9.2.1 r9.2.2 p1_count p1_mode p1_degree p1_ws p1_xs p1_ys) hP hD hS 0 rfl rfl ⟨_, rfl, rfl⟩ dX3_copyFrom_62 rfl (fun H locs hP hD hS => ?_)
  refine lv_aload_n hx hb dX3_copyFrom_65 rfl (lv_at hl 0 rfl) ?_
  refine lv_aload_n hx hb dX3_copyFrom_66 rfl (lv_at hl 1 rfl) ?_
  refine mget X fl_X3_28 hP 4 rfl rfl dX3_copyFrom_67 ?_
  refine mputI X fl_X3_28 (ws1 := wX3_copyFrom g q_o q_o_ws q_o_xs q_o_ys q_p1 q_p1_ws q_p1_xs q_p1_ys p1_count p1_mode p1_degree r9.1 r9.2.1 r9.2.2 p1_count p1_mode p1_degree p1_ws p1_xs p1_ys) hP hD hS 0 rfl rfl ⟨_, rfl, rfl⟩ dX3_copyFrom_70 rfl (fun H locs hP hD hS => ?_)
  cases h
  exact fin _ _ _ _ hP hS dX3_copyFrom_73
abbrev wX3_size (g : Nat → ClassId) (q_o q_o_xs q_o_ys q_o_ws : Nat)  (o_count : Int32) (o_mode : Int32) (o_degree : Int32) : va_W := [(q_o, .inr (3, [.ref q_o_xs, .ref q_o_ys, .ref q_o_ws, .int o_count, .int o_mode, .int o_degree]))]
set_option maxHeartbeats 4000000 in
set_option maxRecDepth 100000 in
theorem kX3_size (D : va_G) (g : Nat → ClassId) (x : Xd) (l : Launch) (q_o q_o_xs q_o_ys q_o_ws : Nat)  (o_count : Int32) (o_mode : Int32) (o_degree : Int32) (R : Int32) (h : mX3_size o_count = some R) : Cn D g x l yX3_size cX3_size 1 (some .int) 0 0 [.ref q_o] (wX3_size g q_o q_o_xs q_o_ys q_o_ws o_count o_mode o_degree) (wX3_size g q_o q_o_xs q_o_ys q_o_ws o_count o_mode o_degree) (some (.int R)) := by
  refine CnI (by decide +kernel) (Nat.le_of_ble_eq_true rfl) (fun p e s m args below meth c A Q ls X hD hP hS fin hl => ?_)
  obtain ⟨hx, hb, hml, -, -, hown, hts, hK, hA, hE⟩ := id X
  unfold mX3_size at h
  have hl : lv_has ls 1 [(0, .ref q_o)] := hl
  refine lv_aload_n hx hb dX3_size_0 rfl (lv_at hl 0 rfl) ?_
  refine mget X fl_X3_21 hP 0 rfl rfl dX3_size_1 ?_
  cases h
  exact fin _ _ _ _ rfl hP hS dX3_size_4
abbrev wX3_placeOf (g : Nat → ClassId) (q_o q_o_xs q_o_ys q_o_ws : Nat)  (o_count : Int32) (o_mode : Int32) (o_degree : Int32) (o_xs : Nat → Int32) : va_W := [(q_o, .inr (3, [.ref q_o_xs, .ref q_o_ys, .ref q_o_ws, .int o_count, .int o_mode, .int o_degree])), (q_o_xs, .inl (g 0, 5, .inl o_xs))]
set_option maxHeartbeats 4000000 in
set_option maxRecDepth 100000 in
theorem kX3_placeOf (D : va_G) (g : Nat → ClassId) (x : Xd) (l : Launch) (q_o q_o_xs q_o_ys q_o_ws : Nat)  (o_count : Int32) (o_mode : Int32) (o_degree : Int32) (o_xs : Nat → Int32) (p1 : Int32) (R : Int32) (h : mX3_placeOf o_count o_xs p1 = some R) : Cn D g x l yX3_placeOf cX3_placeOf 4 (some .int) 1 21 [.ref q_o, .int p1] (wX3_placeOf g q_o q_o_xs q_o_ys q_o_ws o_count o_mode o_degree o_xs) (wX3_placeOf g q_o q_o_xs q_o_ys q_o_ws o_count o_mode o_degree o_xs) (some (.int R)) := by
  refine CnI (by decide +kernel) (Nat.le_of_ble_eq_true rfl) (fun p e s m args below meth c A Q ls X hD hP hS fin hl => ?_)
  obtain ⟨hx, hb, hml, -, -, hown, hts, hK, hA, hE⟩ := id X
  unfold mX3_placeOf at h
  have hl : lv_has ls 4 [(0, .ref q_o), (1, .int p1)] := hl
  refine lv_iconst (v := 0) hx hb dX3_placeOf_0 (by decide) ?_
  refine lv_istore_n (lv' := [(2, .int 0), (0, .ref q_o), (1, .int p1)]) hx hb dX3_placeOf_1 rfl hl (by decide) rfl (fun ls hl => ?_)
  refine lv_iconst (v := 0) hx hb dX3_placeOf_2 (by decide) ?_
  refine lv_istore_n (lv' := [(3, .int 0), (2, .int 0), (0, .ref q_o), (1, .int p1)]) hx hb dX3_placeOf_3 rfl hl (by decide) rfl (fun ls hl => ?_)
  have lp1 : ∀ (n : Nat) (v1_2 : Int32) (v1_3 : Int32) (R1 : Int32) (h : lX3_placeOf_4 p1 o_count o_xs n v1_2 v1_3 = some R1) (H : Heap) (locs : List Loc), va_P D vwCl (wX3_placeOf g q_o q_o_xs q_o_ys q_o_ws o_count o_mode o_degree o_xs) H → va_D A (wX3_placeOf g q_o q_o_xs q_o_ys q_o_ws o_count o_mode o_degree o_xs) → va_S A s.heap H locs → ∀ (ls : Array Slot), lv_has ls 4 [(0, .ref q_o), (1, .int p1), (2, .int v1_2), (3, .int v1_3)] → (∀ (H : Heap) (locs : List Loc) (ls : Array Slot), va_P D vwCl (wX3_placeOf g q_o q_o_xs q_o_ys q_o_ws o_count o_mode o_degree o_xs) H → va_D A (wX3_placeOf g q_o q_o_xs q_o_ys q_o_ws o_count o_mode o_degree o_xs) → va_S A s.heap H locs → lv_has ls 4 [(2, .int R1)] → W p l e (rmF 1 21) s m args below meth c H locs 0 0 Q (F0 m 34 ls [])) → W p l e (rmF 1 21) s m args below meth c H locs 0 0 Q (F0 m 4 ls []) := by
    intro n
    induction n with
    | zero =>
      intro v1_2 v1_3 R1 h
      have h : none = some R1 := h
      cases h
    | succ n ih1 =>
      intro v1_2 v1_3 R1 h H locs hP hD hS ls hl K1_0
      have h : (if o_count ≤ v1_3 then some v1_2 else (mX3_xOf o_xs v1_3).bind fun r3 => (mX3_xOf o_xs p1).bind fun r4 => if r4 ≤ r3 then lX3_placeOf_4 p1 o_count o_xs n v1_2 (v1_3 + 1) else lX3_placeOf_4 p1 o_count o_xs n (v1_2 + 1) (v1_3 + 1) : Option (Int32)) = some R1 := h
      refine lv_iload_n hx hb dX3_placeOf_4 rfl (lv_at hl 3 rfl) ?_
      refine lv_aload_n hx hb dX3_placeOf_5 rfl (lv_at hl 0 rfl) ?_
      refine mget X fl_X3_21 hP 0 rfl rfl dX3_placeOf_6 ?_
      refine lv_icmp_ge (tgt := 34) hx hb dX3_placeOf_9 (by decide) (fun b2 => ?_) (fun b2 => ?_)
      · have h := o_t b2 h
        cases h
        exact K1_0  _ _ _ hP hD hS (lv_sub hl [2] rfl)
      · have h := o_f b2 h
        refine lv_aload_n hx hb dX3_placeOf_12 rfl (lv_at hl 0 rfl) ?_
        refine lv_iload_n hx hb dX3_placeOf_13 rfl (lv_at hl 3 rfl) ?_
        obtain ⟨r3, c3, h⟩ := o_b h
        refine mcallV X (As := [.int v1_3]) (rest := []) (ws1 := wX3_placeOf g q_o q_o_xs q_o_ys q_o_ws o_count o_mode o_degree o_xs) (st1 := [.int r3]) (kX3_xOf D g x l q_o q_o_xs q_o_ys q_o_ws o_count o_mode o_degree o_xs v1_3 r3 c3) mw_X3_xOf ml_X3_49 ⟨Nat.le_of_ble_eq_true rfl, Nat.le_of_ble_eq_true rfl⟩ hP hD hS [0, 1] (by decide +kernel) rfl rfl 0 rfl rfl rfl hl.1 rfl (Nat.le_of_ble_eq_true rfl) dX3_placeOf_14 ⟨Nat.le_refl _, Nat.le_refl _⟩ rfl rfl (fun H locs hP hD hS => ?_)
        refine lv_aload_n hx hb dX3_placeOf_17 rfl (lv_at hl 0 rfl) ?_
        refine lv_iload_n hx hb dX3_placeOf_18 rfl (lv_at hl 1 rfl) ?_
        obtain ⟨r4, c4, h⟩ := o_b h
        refine mcallV X (As := [.int p1]) (rest := [.int r3]) (ws1 := wX3_placeOf g q_o q_o_xs q_o_ys q_o_ws o_count o_mode o_degree o_xs) (st1 := [.int r4, .int r3]) (kX3_xOf D g x l q_o q_o_xs q_o_ys q_o_ws o_count o_mode o_degree o_xs p1 r4 c4) mw_X3_xOf ml_X3_49 ⟨Nat.le_of_ble_eq_true rfl, Nat.le_of_ble_eq_true rfl⟩ hP hD hS [0, 1] (by decide +kernel) rfl rfl 0 rfl rfl rfl hl.1 rfl (Nat.le_of_ble_eq_true rfl) dX3_placeOf_19 ⟨Nat.le_refl _, Nat.le_refl _⟩ rfl rfl (fun H locs hP hD hS => ?_)
        refine lv_icmp_ge (tgt := 28) hx hb dX3_placeOf_22 (by decide) (fun b5 => ?_) (fun b5 => ?_)
        · have h := o_t b5 h
          refine lv_iinc (v := v1_3 + 1) (lv' := [(3, .int (v1_3 + 1)), (0, .ref q_o), (1, .int p1), (2, .int v1_2)]) hx hb dX3_placeOf_28 hl (k := 3) rfl rfl (by decide) rfl (fun ls hl => ?_)
          refine lv_goto (tgt := 4) hx hb dX3_placeOf_31 (by decide) ?_
          exact ih1 v1_2 (v1_3 + 1) _ h _ _ hP hD hS _ (lv_sub hl [1, 2, 3, 0] rfl) K1_0
        · have h := o_f b5 h
          refine lv_iinc (v := v1_2 + 1) (lv' := [(2, .int (v1_2 + 1)), (0, .ref q_o), (1, .int p1), (3, .int v1_3)]) hx hb dX3_placeOf_25 hl (k := 2) rfl rfl (by decide) rfl (fun ls hl => ?_)
          refine lv_iinc (v := v1_3 + 1) (lv' := [(3, .int (v1_3 + 1)), (2, .int (v1_2 + 1)), (0, .ref q_o), (1, .int p1)]) hx hb dX3_placeOf_28 hl (k := 3) rfl rfl (by decide) rfl (fun ls hl => ?_)
          refine lv_goto (tgt := 4) hx hb dX3_placeOf_31 (by decide) ?_
          exact ih1 (v1_2 + 1) (v1_3 + 1) _ h _ _ hP hD hS _ (lv_sub hl [2, 3, 1, 0] rfl) K1_0
  obtain ⟨r6, c6, h⟩ := o_b h
  refine lp1 FU 0 0 r6 c6 _ _ hP hD hS _ (lv_sub hl [2, 3, 1, 0] rfl) (fun H locs ls hP hD hS hl => ?_)
  refine lv_iload_n hx hb dX3_placeOf_34 rfl (lv_at hl 0 rfl) ?_
  cases h
  exact fin _ _ _ _ rfl hP hS dX3_placeOf_35
abbrev wX3_wOf (g : Nat → ClassId) (q_o q_o_ws q_o_xs q_o_ys : Nat)  (o_count : Int32) (o_mode : Int32) (o_degree : Int32) (o_ws : Nat → Int32) : va_W := [(q_o, .inr (3, [.ref q_o_xs, .ref q_o_ys, .ref q_o_ws, .int o_count, .int o_mode, .int o_degree])), (q_o_ws, .inl (g 0, 5, .inl o_ws))]
set_option maxHeartbeats 4000000 in
set_option maxRecDepth 100000 in
theorem kX3_wOf (D : va_G) (g : Nat → ClassId) (x : Xd) (l : Launch) (q_o q_o_ws q_o_xs q_o_ys : Nat)  (o_count : Int32) (o_mode : Int32) (o_degree : Int32) (o_ws : Nat → Int32) (p1 : Int32) (R : Int32) (h : mX3_wOf o_ws p1 = some R) : Cn D g x l yX3_wOf cX3_wOf 2 (some .int) 0 0 [.ref q_o, .int p1] (wX3_wOf g q_o q_o_ws q_o_xs q_o_ys o_count o_mode o_degree o_ws) (wX3_wOf g q_o q_o_ws q_o_xs q_o_ys o_count o_mode o_degree o_ws) (some (.int R)) := by
  refine CnI (by decide +kernel) (Nat.le_of_ble_eq_true rfl) (fun p e s m args below meth c A Q ls X hD hP hS fin hl => ?_)
  obtain ⟨hx, hb, hml, -, -, hown, hts, hK, hA, hE⟩ := id X
  unfold mX3_wOf at h
  have hl : lv_has ls 2 [(0, .ref q_o), (1, .int p1)] := hl
  refine lv_iload_n hx hb dX3_wOf_0 rfl (lv_at hl 1 rfl) ?_
  refine lv_if_lt (tgt := 18) hx hb dX3_wOf_1 (by decide) (fun b1 => ?_) (fun b1 => ?_)
  · have h := o_t b1 h
    refine lv_iconst (v := 0) hx hb dX3_wOf_18 (by decide) ?_
    cases h
    exact fin _ _ _ _ rfl hP hS dX3_wOf_19
  · have h := o_f b1 h
    refine lv_iload_n hx hb dX3_wOf_4 rfl (lv_at hl 1 rfl) ?_
    refine lv_iconst (v := 5) hx hb dX3_wOf_5 (by decide) ?_
    refine lv_icmp_ge (tgt := 18) hx hb dX3_wOf_6 (by decide) (fun b2 => ?_) (fun b2 => ?_)
    · have h := o_t b2 h
      refine lv_iconst (v := 0) hx hb dX3_wOf_18 (by decide) ?_
      cases h
      exact fin _ _ _ _ rfl hP hS dX3_wOf_19
    · have h := o_f b2 h
      refine lv_aload_n hx hb dX3_wOf_9 rfl (lv_at hl 0 rfl) ?_
      refine mget X fl_X3_18 hP 0 rfl rfl dX3_wOf_10 ?_
      refine lv_iload_n hx hb dX3_wOf_13 rfl (lv_at hl 1 rfl) ?_
      obtain ⟨b3, h⟩ := o_no h
      refine mild X hP 1 rfl b3 dX3_wOf_14 ?_
      refine lv_goto (tgt := 19) hx hb dX3_wOf_15 (by decide) ?_
      cases h
      exact fin _ _ _ _ rfl hP hS dX3_wOf_19
abbrev wX3_yOf (g : Nat → ClassId) (q_o q_o_ys q_o_xs q_o_ws : Nat)  (o_count : Int32) (o_mode : Int32) (o_degree : Int32) (o_ys : Nat → Int32) : va_W := [(q_o, .inr (3, [.ref q_o_xs, .ref q_o_ys, .ref q_o_ws, .int o_count, .int o_mode, .int o_degree])), (q_o_ys, .inl (g 0, 5, .inl o_ys))]
set_option maxHeartbeats 4000000 in
set_option maxRecDepth 100000 in
theorem kX3_yOf (D : va_G) (g : Nat → ClassId) (x : Xd) (l : Launch) (q_o q_o_ys q_o_xs q_o_ws : Nat)  (o_count : Int32) (o_mode : Int32) (o_degree : Int32) (o_ys : Nat → Int32) (p1 : Int32) (R : Int32) (h : mX3_yOf o_ys p1 = some R) : Cn D g x l yX3_yOf cX3_yOf 2 (some .int) 0 0 [.ref q_o, .int p1] (wX3_yOf g q_o q_o_ys q_o_xs q_o_ws o_count o_mode o_degree o_ys) (wX3_yOf g q_o q_o_ys q_o_xs q_o_ws o_count o_mode o_degree o_ys) (some (.int R)) := by
  refine CnI (by decide +kernel) (Nat.le_of_ble_eq_true rfl) (fun p e s m args below meth c A Q ls X hD hP hS fin hl => ?_)
  obtain ⟨hx, hb, hml, -, -, hown, hts, hK, hA, hE⟩ := id X
  unfold mX3_yOf at h
  have hl : lv_has ls 2 [(0, .ref q_o), (1, .int p1)] := hl
  refine lv_iload_n hx hb dX3_yOf_0 rfl (lv_at hl 1 rfl) ?_
  refine lv_if_lt (tgt := 18) hx hb dX3_yOf_1 (by decide) (fun b1 => ?_) (fun b1 => ?_)
  · have h := o_t b1 h
    refine lv_iconst (v := 0) hx hb dX3_yOf_18 (by decide) ?_
    cases h
    exact fin _ _ _ _ rfl hP hS dX3_yOf_19
  · have h := o_f b1 h
    refine lv_iload_n hx hb dX3_yOf_4 rfl (lv_at hl 1 rfl) ?_
    refine lv_iconst (v := 5) hx hb dX3_yOf_5 (by decide) ?_
    refine lv_icmp_ge (tgt := 18) hx hb dX3_yOf_6 (by decide) (fun b2 => ?_) (fun b2 => ?_)
    · have h := o_t b2 h
      refine lv_iconst (v := 0) hx hb dX3_yOf_18 (by decide) ?_
      cases h
      exact fin _ _ _ _ rfl hP hS dX3_yOf_19
    · have h := o_f b2 h
      refine lv_aload_n hx hb dX3_yOf_9 rfl (lv_at hl 0 rfl) ?_
      refine mget X fl_X3_15 hP 0 rfl rfl dX3_yOf_10 ?_
      refine lv_iload_n hx hb dX3_yOf_13 rfl (lv_at hl 1 rfl) ?_
      obtain ⟨b3, h⟩ := o_no h
      refine mild X hP 1 rfl b3 dX3_yOf_14 ?_
      refine lv_goto (tgt := 19) hx hb dX3_yOf_15 (by decide) ?_
      cases h
      exact fin _ _ _ _ rfl hP hS dX3_yOf_19
abbrev wX3_has (g : Nat → ClassId) (q_o q_o_xs q_o_ys q_o_ws : Nat)  (o_count : Int32) (o_mode : Int32) (o_degree : Int32) : va_W := [(q_o, .inr (3, [.ref q_o_xs, .ref q_o_ys, .ref q_o_ws, .int o_count, .int o_mode, .int o_degree]))]
set_option maxHeartbeats 4000000 in
set_option maxRecDepth 100000 in
theorem kX3_has (D : va_G) (g : Nat → ClassId) (x : Xd) (l : Launch) (q_o q_o_xs q_o_ys q_o_ws : Nat)  (o_count : Int32) (o_mode : Int32) (o_degree : Int32) (p1 : Int32) (R : Int32) (h : mX3_has o_count p1 = some R) : Cn D g x l yX3_has cX3_has 2 (some .boolean) 0 0 [.ref q_o, .int p1] (wX3_has g q_o q_o_xs q_o_ys q_o_ws o_count o_mode o_degree) (wX3_has g q_o q_o_xs q_o_ys q_o_ws o_count o_mode o_degree) (some (.int R)) := by
  refine CnI (by decide +kernel) (Nat.le_of_ble_eq_true rfl) (fun p e s m args below meth c A Q ls X hD hP hS fin hl => ?_)
  obtain ⟨hx, hb, hml, -, -, hown, hts, hK, hA, hE⟩ := id X
  unfold mX3_has at h
  have hl : lv_has ls 2 [(0, .ref q_o), (1, .int p1)] := hl
  refine lv_iload_n hx hb dX3_has_0 rfl (lv_at hl 1 rfl) ?_
  refine lv_if_lt (tgt := 16) hx hb dX3_has_1 (by decide) (fun b1 => ?_) (fun b1 => ?_)
  · have h := o_t b1 h
    refine lv_iconst (v := 0) hx hb dX3_has_16 (by decide) ?_
    cases h
    exact fin _ _ _ _ (nar_z (Or.inl rfl)) hP hS dX3_has_17
  · have h := o_f b1 h
    refine lv_iload_n hx hb dX3_has_4 rfl (lv_at hl 1 rfl) ?_
    refine lv_aload_n hx hb dX3_has_5 rfl (lv_at hl 0 rfl) ?_
    refine mget X fl_X3_21 hP 0 rfl rfl dX3_has_6 ?_
    refine lv_icmp_ge (tgt := 16) hx hb dX3_has_9 (by decide) (fun b2 => ?_) (fun b2 => ?_)
    · have h := o_t b2 h
      refine lv_iconst (v := 0) hx hb dX3_has_16 (by decide) ?_
      cases h
      exact fin _ _ _ _ (nar_z (Or.inl rfl)) hP hS dX3_has_17
    · have h := o_f b2 h
      refine lv_iconst (v := 1) hx hb dX3_has_12 (by decide) ?_
      refine lv_goto (tgt := 17) hx hb dX3_has_13 (by decide) ?_
      cases h
      exact fin _ _ _ _ (nar_z (Or.inr rfl)) hP hS dX3_has_17
abbrev wX3_putDivided (g : Nat → ClassId) (q_o q_o_xs q_o_ys q_p3 q_o_ws : Nat)  (o_count : Int32) (o_mode : Int32) (o_degree : Int32) (o_xs : Nat → Int32) (o_ys : Nat → Int32) (p3_top : Int64) (p3_bottom : Int64) : va_W := [(q_o, .inr (3, [.ref q_o_xs, .ref q_o_ys, .ref q_o_ws, .int o_count, .int o_mode, .int o_degree])), (q_o_xs, .inl (g 0, 5, .inl o_xs)), (q_o_ys, .inl (g 0, 5, .inl o_ys)), (q_p3, .inr (1, [.long p3_top, .long p3_bottom]))]
set_option maxHeartbeats 4000000 in
set_option maxRecDepth 100000 in
theorem kX3_putDivided (D : va_G) (g : Nat → ClassId) (x : Xd) (l : Launch) (q_o q_o_xs q_o_ys q_p3 q_o_ws : Nat)  (o_count : Int32) (o_mode : Int32) (o_degree : Int32) (o_xs : Nat → Int32) (o_ys : Nat → Int32) (p3_top : Int64) (p3_bottom : Int64) (p1 : Int32) (p2 : Int32) (R : Int64 × Int64) (h : mX3_putDivided o_xs o_ys p3_bottom p3_top p1 p2 = some R) : Cn D g x l yX3_putDivided cX3_putDivided 8 none 4 116 [.ref q_o, .int p1, .int p2, .ref q_p3] (wX3_putDivided g q_o q_o_xs q_o_ys q_p3 q_o_ws o_count o_mode o_degree o_xs o_ys p3_top p3_bottom) (wX3_putDivided g q_o q_o_xs q_o_ys q_p3 q_o_ws o_count o_mode o_degree o_xs o_ys R.2 R.1) none := by
  refine CnV (by decide +kernel) (Nat.le_of_ble_eq_true rfl) (fun p e s m args below meth c A Q ls X hD hP hS fin hl => ?_)
  obtain ⟨hx, hb, hml, -, -, hown, hts, hK, hA, hE⟩ := id X
  unfold mX3_putDivided at h
  have hl : lv_has ls 8 [(0, .ref q_o), (1, .int p1), (2, .int p2), (3, .ref q_p3)] := hl
  refine lv_aload_n hx hb dX3_putDivided_0 rfl (lv_at hl 3 rfl) ?_
  refine lv_lconst (v := 0) hx hb dX3_putDivided_1 (by decide) ?_
  refine lv_lconst (v := 1) hx hb dX3_putDivided_2 (by decide) ?_
  obtain ⟨r1, c1, h⟩ := o_b h
  refine mcallV X (As := [.long 0, .long 1]) (rest := []) (ws1 := wX3_putDivided g q_o q_o_xs q_o_ys q_p3 q_o_ws o_count o_mode o_degree o_xs o_ys r1.2 r1.1) (st1 := []) (kX1_put D g x l q_p3 p3_top p3_bottom 0 1 r1 c1) mw_X1_put ml_X3_62 ⟨Nat.le_of_ble_eq_true rfl, Nat.le_of_ble_eq_true rfl⟩ hP hD hS [3] (by decide +kernel) rfl rfl 3 rfl rfl rfl hl.1 rfl (Nat.le_of_ble_eq_true rfl) dX3_putDivided_3 ⟨Nat.le_refl _, Nat.le_refl _⟩ rfl rfl (fun H locs hP hD hS => ?_)
  refine lv_iload_n hx hb dX3_putDivided_6 rfl (lv_at hl 1 rfl) ?_
  refine lv_istore (lv' := [(4, .int p1), (0, .ref q_o), (1, .int p1), (2, .int p2), (3, .ref q_p3)]) hx hb dX3_putDivided_7 hl (by decide) rfl (fun ls hl => ?_)
  have lp2 : ∀ (n : Nat) (v2_4 : Int32) (u2_p3_bottom : Int64) (u2_p3_top : Int64) (R2 : Int64 × Int64) (h : lX3_putDivided_9 p1 p2 o_xs o_ys n v2_4 u2_p3_bottom u2_p3_top = some R2) (H : Heap) (locs : List Loc), va_P D vwCl (wX3_putDivided g q_o q_o_xs q_o_ys q_p3 q_o_ws o_count o_mode o_degree o_xs o_ys u2_p3_top u2_p3_bottom) H → va_D A (wX3_putDivided g q_o q_o_xs q_o_ys q_p3 q_o_ws o_count o_mode o_degree o_xs o_ys u2_p3_top u2_p3_bottom) → va_S A s.heap H locs → ∀ (ls : Array Slot), lv_has ls 8 [(0, .ref q_o), (1, .int p1), (2, .int p2), (3, .ref q_p3), (4, .int v2_4)] → (∀ (H : Heap) (locs : List Loc) (ls : Array Slot), va_P D vwCl (wX3_putDivided g q_o q_o_xs q_o_ys q_p3 q_o_ws o_count o_mode o_degree o_xs o_ys R2.2 R2.1) H → va_D A (wX3_putDivided g q_o q_o_xs q_o_ys q_p3 q_o_ws o_count o_mode o_degree o_xs o_ys R2.2 R2.1) → va_S A s.heap H locs → lv_has ls 8 [] → W p l e (rmF 4 116) s m args below meth c H locs 0 0 Q (F0 m 78 ls [])) → W p l e (rmF 4 116) s m args below meth c H locs 0 0 Q (F0 m 9 ls []) := by
    intro n
    induction n with
    | zero =>
      intro v2_4 u2_p3_bottom u2_p3_top R2 h
      have h : none = some R2 := h
      cases h
    | succ n ih2 =>
      intro v2_4 u2_p3_bottom u2_p3_top R2 h H locs hP hD hS ls hl K2_0
      have h : (if p2 < v2_4 then some (u2_p3_bottom, u2_p3_top) else (lX3_putDivided_21 p2 v2_4 o_xs FU 1 p1).bind fun r9 => (mX3_yOf o_ys v2_4).bind fun r10 => (mX1_add u2_p3_bottom u2_p3_top (Int32.toInt64 r10) r9).bind fun r11 => lX3_putDivided_9 p1 p2 o_xs o_ys n (v2_4 + 1) r11.1 r11.2 : Option (Int64 × Int64)) = some R2 := h
      refine lv_iload hx hb dX3_putDivided_9 (lv_at hl 4 rfl) ?_
      refine lv_iload_n hx hb dX3_putDivided_11 rfl (lv_at hl 2 rfl) ?_
      refine lv_icmp_gt (tgt := 78) hx hb dX3_putDivided_12 (by decide) (fun b3 => ?_) (fun b3 => ?_)
      · have h := o_t b3 h
        cases h
        exact K2_0  _ _ _ hP hD hS (lv_sub hl [] rfl)
      · have h := o_f b3 h
        refine lv_lconst (v := 1) hx hb dX3_putDivided_15 (by decide) ?_
        refine lv_lstore (lv' := [(5, .long 1), (0, .ref q_o), (1, .int p1), (2, .int p2), (3, .ref q_p3), (4, .int v2_4)]) hx hb dX3_putDivided_16 hl (by decide) rfl (fun ls hl => ?_)
        refine lv_iload_n hx hb dX3_putDivided_18 rfl (lv_at hl 2 rfl) ?_
        refine lv_istore (lv' := [(7, .int p1), (5, .long 1), (0, .ref q_o), (1, .int p1), (2, .int p2), (3, .ref q_p3), (4, .int v2_4)]) hx hb dX3_putDivided_19 hl (by decide) rfl (fun ls hl => ?_)
        have lp4 : ∀ (n : Nat) (v4_5 : Int64) (v4_7 : Int32) (R4 : Int64) (h : lX3_putDivided_21 p2 v2_4 o_xs n v4_5 v4_7 = some R4) (H : Heap) (locs : List Loc), va_P D vwCl (wX3_putDivided g q_o q_o_xs q_o_ys q_p3 q_o_ws o_count o_mode o_degree o_xs o_ys u2_p3_top u2_p3_bottom) H → va_D A (wX3_putDivided g q_o q_o_xs q_o_ys q_p3 q_o_ws o_count o_mode o_degree o_xs o_ys u2_p3_top u2_p3_bottom) → va_S A s.heap H locs → ∀ (ls : Array Slot), lv_has ls 8 [(0, .ref q_o), (1, .int p1), (2, .int p2), (3, .ref q_p3), (4, .int v2_4), (5, .long v4_5), (7, .int v4_7)] → (∀ (H : Heap) (locs : List Loc) (ls : Array Slot), va_P D vwCl (wX3_putDivided g q_o q_o_xs q_o_ys q_p3 q_o_ws o_count o_mode o_degree o_xs o_ys u2_p3_top u2_p3_bottom) H → va_D A (wX3_putDivided g q_o q_o_xs q_o_ys q_p3 q_o_ws o_count o_mode o_degree o_xs o_ys u2_p3_top u2_p3_bottom) → va_S A s.heap H locs → lv_has ls 8 [(0, .ref q_o), (1, .int p1), (2, .int p2), (3, .ref q_p3), (4, .int v2_4), (5, .long R4)] → W p l e (rmF 4 116) s m args below meth c H locs 0 0 Q (F0 m 59 ls [])) → W p l e (rmF 4 116) s m args below meth c H locs 0 0 Q (F0 m 21 ls []) := by
          intro n
          induction n with
          | zero =>
            intro v4_5 v4_7 R4 h
            have h : none = some R4 := h
            cases h
          | succ n ih4 =>
            intro v4_5 v4_7 R4 h H locs hP hD hS ls hl K4_0
            have h : (if p2 < v4_7 then some v4_5 else if v4_7 = v2_4 then lX3_putDivided_21 p2 v2_4 o_xs n v4_5 (v4_7 + 1) else (mX3_xOf o_xs v2_4).bind fun r7 => (mX3_xOf o_xs v4_7).bind fun r8 => lX3_putDivided_21 p2 v2_4 o_xs n (v4_5 * (Int32.toInt64 (r7 - r8))) (v4_7 + 1) : Option (Int64)) = some R4 := h
            refine lv_iload hx hb dX3_putDivided_21 (lv_at hl 6 rfl) ?_
            refine lv_iload_n hx hb dX3_putDivided_23 rfl (lv_at hl 2 rfl) ?_
            refine lv_icmp_gt (tgt := 59) hx hb dX3_putDivided_24 (by decide) (fun b5 => ?_) (fun b5 => ?_)
            · have h := o_t b5 h
              cases h
              exact K4_0  _ _ _ hP hD hS (lv_sub hl [0, 1, 2, 3, 4, 5] rfl)
            · have h := o_f b5 h
              refine lv_iload hx hb dX3_putDivided_27 (lv_at hl 6 rfl) ?_
              refine lv_iload hx hb dX3_putDivided_29 (lv_at hl 4 rfl) ?_
              refine lv_icmp_eq (tgt := 53) hx hb dX3_putDivided_31 (by decide) (fun b6 => ?_) (fun b6 => ?_)
              · have h := o_t b6 h
                refine lv_iinc (v := v4_7 + 1) (lv' := [(7, .int (v4_7 + 1)), (0, .ref q_o), (1, .int p1), (2, .int p2), (3, .ref q_p3), (4, .int v2_4), (5, .long v4_5)]) hx hb dX3_putDivided_53 hl (k := 6) rfl rfl (by decide) rfl (fun ls hl => ?_)
                refine lv_goto (tgt := 21) hx hb dX3_putDivided_56 (by decide) ?_
                exact ih4 v4_5 (v4_7 + 1) _ h _ _ hP hD hS _ (lv_sub hl [1, 2, 3, 4, 5, 6, 0] rfl) K4_0
              · have h := o_f b6 h
                refine lv_lload hx hb dX3_putDivided_34 (lv_at hl 5 rfl) ?_
                refine lv_aload_n hx hb dX3_putDivided_36 rfl (lv_at hl 0 rfl) ?_
                refine lv_iload hx hb dX3_putDivided_37 (lv_at hl 4 rfl) ?_
                obtain ⟨r7, c7, h⟩ := o_b h
                refine mcallV X (As := [.int v2_4]) (rest := [.long v4_5]) (ws1 := wX3_putDivided g q_o q_o_xs q_o_ys q_p3 q_o_ws o_count o_mode o_degree o_xs o_ys u2_p3_top u2_p3_bottom) (st1 := [.int r7, .long v4_5]) (kX3_xOf D g x l q_o q_o_xs q_o_ys q_o_ws o_count o_mode o_degree o_xs v2_4 r7 c7) mw_X3_xOf ml_X3_49 ⟨Nat.le_of_ble_eq_true rfl, Nat.le_of_ble_eq_true rfl⟩ hP hD hS [0, 1] (by decide +kernel) rfl rfl 0 rfl rfl rfl hl.1 rfl (Nat.le_of_ble_eq_true rfl) dX3_putDivided_39 ⟨Nat.le_refl _, Nat.le_refl _⟩ rfl rfl (fun H locs hP hD hS => ?_)
                refine lv_aload_n hx hb dX3_putDivided_42 rfl (lv_at hl 0 rfl) ?_
                refine lv_iload hx hb dX3_putDivided_43 (lv_at hl 6 rfl) ?_
                obtain ⟨r8, c8, h⟩ := o_b h
                refine mcallV X (As := [.int v4_7]) (rest := [.int r7, .long v4_5]) (ws1 := wX3_putDivided g q_o q_o_xs q_o_ys q_p3 q_o_ws o_count o_mode o_degree o_xs o_ys u2_p3_top u2_p3_bottom) (st1 := [.int r8, .int r7, .long v4_5]) (kX3_xOf D g x l q_o q_o_xs q_o_ys q_o_ws o_count o_mode o_degree o_xs v4_7 r8 c8) mw_X3_xOf ml_X3_49 ⟨Nat.le_of_ble_eq_true rfl, Nat.le_of_ble_eq_true rfl⟩ hP hD hS [0, 1] (by decide +kernel) rfl rfl 0 rfl rfl rfl hl.1 rfl (Nat.le_of_ble_eq_true rfl) dX3_putDivided_45 ⟨Nat.le_refl _, Nat.le_refl _⟩ rfl rfl (fun H locs hP hD hS => ?_)
                refine lv_isub hx hb dX3_putDivided_48 ?_
                refine lv_i2l (v := Int32.toInt64 (r7 - r8)) hx hb dX3_putDivided_49 rfl ?_
                refine lv_lmul hx hb dX3_putDivided_50 ?_
                refine lv_lstore (lv' := [(5, .long (v4_5 * (Int32.toInt64 (r7 - r8)))), (0, .ref q_o), (1, .int p1), (2, .int p2), (3, .ref q_p3), (4, .int v2_4), (7, .int v4_7)]) hx hb dX3_putDivided_51 hl (by decide) rfl (fun ls hl => ?_)
                refine lv_iinc (v := v4_7 + 1) (lv' := [(7, .int (v4_7 + 1)), (5, .long (v4_5 * (Int32.toInt64 (r7 - r8)))), (0, .ref q_o), (1, .int p1), (2, .int p2), (3, .ref q_p3), (4, .int v2_4)]) hx hb dX3_putDivided_53 hl (k := 6) rfl rfl (by decide) rfl (fun ls hl => ?_)
                refine lv_goto (tgt := 21) hx hb dX3_putDivided_56 (by decide) ?_
                exact ih4 (v4_5 * (Int32.toInt64 (r7 - r8))) (v4_7 + 1) _ h _ _ hP hD hS _ (lv_sub hl [2, 3, 4, 5, 6, 1, 0] rfl) K4_0
        obtain ⟨r9, c9, h⟩ := o_b h
        refine lp4 FU 1 p1 r9 c9 _ _ hP hD hS _ (lv_sub hl [2, 3, 4, 5, 6, 1, 0] rfl) (fun H locs ls hP hD hS hl => ?_)
        refine lv_aload_n hx hb dX3_putDivided_59 rfl (lv_at hl 3 rfl) ?_
        refine lv_aload_n hx hb dX3_putDivided_60 rfl (lv_at hl 0 rfl) ?_
        refine lv_iload hx hb dX3_putDivided_61 (lv_at hl 4 rfl) ?_
        obtain ⟨r10, c10, h⟩ := o_b h
        refine mcallV X (As := [.int v2_4]) (rest := [.ref q_p3]) (ws1 := wX3_putDivided g q_o q_o_xs q_o_ys q_p3 q_o_ws o_count o_mode o_degree o_xs o_ys u2_p3_top u2_p3_bottom) (st1 := [.int r10, .ref q_p3]) (kX3_yOf D g x l q_o q_o_ys q_o_xs q_o_ws o_count o_mode o_degree o_ys v2_4 r10 c10) mw_X3_yOf ml_X3_53 ⟨Nat.le_of_ble_eq_true rfl, Nat.le_of_ble_eq_true rfl⟩ hP hD hS [0, 2] (by decide +kernel) rfl rfl 0 rfl rfl rfl hl.1 rfl (Nat.le_of_ble_eq_true rfl) dX3_putDivided_63 ⟨Nat.le_refl _, Nat.le_refl _⟩ rfl rfl (fun H locs hP hD hS => ?_)
        refine lv_i2l (v := Int32.toInt64 r10) hx hb dX3_putDivided_66 rfl ?_
        refine lv_lload hx hb dX3_putDivided_67 (lv_at hl 5 rfl) ?_
        obtain ⟨r11, c11, h⟩ := o_b h
        refine mcallV X (As := [.long (Int32.toInt64 r10), .long r9]) (rest := []) (ws1 := wX3_putDivided g q_o q_o_xs q_o_ys q_p3 q_o_ws o_count o_mode o_degree o_xs o_ys r11.2 r11.1) (st1 := []) (kX1_add D g x l q_p3 u2_p3_top u2_p3_bottom (Int32.toInt64 r10) r9 r11 c11) mw_X1_add ml_X3_68 ⟨Nat.le_of_ble_eq_true rfl, Nat.le_of_ble_eq_true rfl⟩ hP hD hS [3] (by decide +kernel) rfl rfl 3 rfl rfl rfl hl.1 rfl (Nat.le_of_ble_eq_true rfl) dX3_putDivided_69 ⟨Nat.le_refl _, Nat.le_refl _⟩ rfl rfl (fun H locs hP hD hS => ?_)
        refine lv_iinc (v := v2_4 + 1) (lv' := [(4, .int (v2_4 + 1)), (0, .ref q_o), (1, .int p1), (2, .int p2), (3, .ref q_p3), (5, .long r9)]) hx hb dX3_putDivided_72 hl (k := 4) rfl rfl (by decide) rfl (fun ls hl => ?_)
        refine lv_goto (tgt := 9) hx hb dX3_putDivided_75 (by decide) ?_
        exact ih2 (v2_4 + 1) r11.1 r11.2 _ h _ _ hP hD hS _ (lv_sub hl [1, 2, 3, 4, 0] rfl) K2_0
  obtain ⟨r12, c12, h⟩ := o_b h
  refine lp2 FU p1 r1.1 r1.2 r12 c12 _ _ hP hD hS _ (lv_sub hl [1, 2, 3, 4, 0] rfl) (fun H locs ls hP hD hS hl => ?_)
  cases h
  exact fin _ _ _ _ hP hS dX3_putDivided_78
