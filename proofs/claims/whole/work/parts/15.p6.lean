abbrev wX6_feed (g : Nat → ClassId) (q_o q_o_text q_o_text_bytes q_o_present q_o_trial q_o_history q_o_output q_o_answer q_o_best : Nat) (o_text_filled : Int32) (o_text_length : Int32) (o_text_token : Int32) (o_text_start : Int32) (o_text_next : Int32) (o_text_faultKind : Int32) (o_text_faultPosition : Int32) (o_text_bytes : Nat → Int32) : va_W := [(q_o, .inr (6, [.ref q_o_text, .ref q_o_present, .ref q_o_trial, .ref q_o_history, .ref q_o_output, .ref q_o_answer, .ref q_o_best])), (q_o_text, .inr (5, [.ref q_o_text_bytes, .int o_text_filled, .int o_text_length, .int o_text_token, .int o_text_start, .int o_text_next, .int o_text_faultKind, .int o_text_faultPosition])), (q_o_text_bytes, .inl (g 0, 400, .inl o_text_bytes))]
set_option maxHeartbeats 4000000 in
set_option maxRecDepth 100000 in
theorem kX6_feed (D : va_G) (g : Nat → ClassId) (x : Xd) (l : Launch) (q_o q_o_text q_o_text_bytes q_o_present q_o_trial q_o_history q_o_output q_o_answer q_o_best : Nat) (o_text_filled : Int32) (o_text_length : Int32) (o_text_token : Int32) (o_text_start : Int32) (o_text_next : Int32) (o_text_faultKind : Int32) (o_text_faultPosition : Int32) (o_text_bytes : Nat → Int32) (p1 : Int32) (p2 : Int32) (p3 : Int32) (p4 : Int32) (p5 : Int32) (R : Int32 × (Nat → Int32) × Int32) (h : mX6_feed o_text_bytes o_text_filled p1 p2 p3 p4 p5 = some R) : Cn D g x l yX6_feed cX6_feed 6 (some .int) 1 22 [.ref q_o, .int p1, .int p2, .int p3, .int p4, .int p5] (wX6_feed g q_o q_o_text q_o_text_bytes q_o_present q_o_trial q_o_history q_o_output q_o_answer q_o_best o_text_filled o_text_length o_text_token o_text_start o_text_next o_text_faultKind o_text_faultPosition o_text_bytes) (wX6_feed g q_o q_o_text q_o_text_bytes q_o_present q_o_trial q_o_history q_o_output q_o_answer q_o_best R.2.2 o_text_length o_text_token o_text_start o_text_next o_text_faultKind o_text_faultPosition R.2.1) (some (.int R.1)) := by
  refine CnI (by decide +kernel) (Nat.le_of_ble_eq_true rfl) (fun p e s m args below meth c A Q ls X hD hP hS fin hl => ?_)
  obtain ⟨hx, hb, hml, -, -, hown, hts, hK, hA, hE⟩ := id X
  unfold mX6_feed at h
  have hl : lv_has ls 6 [(0, .ref q_o), (1, .int p1), (2, .int p2), (3, .int p3), (4, .int p4), (5, .int p5)] := hl
  refine lv_aload_n hx hb dX6_feed_0 rfl (lv_at hl 0 rfl) ?_
  refine mget X fl_X6_10 hP 0 rfl rfl dX6_feed_1 ?_
  refine lv_bipush (v := 20) hx hb dX6_feed_4 (by decide) ?_
  obtain ⟨r1, c1, h⟩ := o_b h
  refine mcallV X (As := [.int 20]) (rest := []) (ws1 := wX6_feed g q_o q_o_text q_o_text_bytes q_o_present q_o_trial q_o_history q_o_output q_o_answer q_o_best o_text_filled o_text_length o_text_token o_text_start o_text_next o_text_faultKind o_text_faultPosition o_text_bytes) (st1 := [.int r1]) (kX5_hasRoomFor D g x l q_o_text q_o_text_bytes o_text_filled o_text_length o_text_token o_text_start o_text_next o_text_faultKind o_text_faultPosition 20 r1 c1) mw_X5_hasRoomFor ml_X6_50 ⟨Nat.le_of_ble_eq_true rfl, Nat.le_of_ble_eq_true rfl⟩ hP hD hS [1] rfl rfl rfl 1 rfl rfl rfl hl.1 rfl (Nat.le_of_ble_eq_true rfl) dX6_feed_6 ⟨Nat.le_refl _, Nat.le_refl _⟩ rfl rfl (fun H locs hP hD hS => ?_)
  refine lv_if_ne (tgt := 15) hx hb dX6_feed_9 (by decide) (fun b2 => ?_) (fun b2 => ?_)
  · have h := o_f b2 h
    refine lv_aload_n hx hb dX6_feed_15 rfl (lv_at hl 0 rfl) ?_
    refine mget X fl_X6_10 hP 0 rfl rfl dX6_feed_16 ?_
    refine lv_iload_n hx hb dX6_feed_19 rfl (lv_at hl 1 rfl) ?_
    obtain ⟨r3, c3, h⟩ := o_b h
    refine mcallV X (As := [.int p1]) (rest := []) (ws1 := wX6_feed g q_o q_o_text q_o_text_bytes q_o_present q_o_trial q_o_history q_o_output q_o_answer q_o_best r3.2 o_text_length o_text_token o_text_start o_text_next o_text_faultKind o_text_faultPosition r3.1) (st1 := []) (kX5_append D g x l q_o_text q_o_text_bytes o_text_filled o_text_length o_text_token o_text_start o_text_next o_text_faultKind o_text_faultPosition o_text_bytes p1 r3 c3) mw_X5_append ml_X6_54 ⟨Nat.le_of_ble_eq_true rfl, Nat.le_of_ble_eq_true rfl⟩ hP hD hS [1, 2] rfl rfl rfl 1 rfl rfl rfl hl.1 rfl (Nat.le_of_ble_eq_true rfl) dX6_feed_20 ⟨Nat.le_refl _, Nat.le_refl _⟩ rfl rfl (fun H locs hP hD hS => ?_)
    refine lv_aload_n hx hb dX6_feed_23 rfl (lv_at hl 0 rfl) ?_
    refine mget X fl_X6_10 hP 0 rfl rfl dX6_feed_24 ?_
    refine lv_iload_n hx hb dX6_feed_27 rfl (lv_at hl 2 rfl) ?_
    obtain ⟨r4, c4, h⟩ := o_b h
    refine mcallV X (As := [.int p2]) (rest := []) (ws1 := wX6_feed g q_o q_o_text q_o_text_bytes q_o_present q_o_trial q_o_history q_o_output q_o_answer q_o_best r4.2 o_text_length o_text_token o_text_start o_text_next o_text_faultKind o_text_faultPosition r4.1) (st1 := []) (kX5_append D g x l q_o_text q_o_text_bytes r3.2 o_text_length o_text_token o_text_start o_text_next o_text_faultKind o_text_faultPosition r3.1 p2 r4 c4) mw_X5_append ml_X6_54 ⟨Nat.le_of_ble_eq_true rfl, Nat.le_of_ble_eq_true rfl⟩ hP hD hS [1, 2] rfl rfl rfl 1 rfl rfl rfl hl.1 rfl (Nat.le_of_ble_eq_true rfl) dX6_feed_28 ⟨Nat.le_refl _, Nat.le_refl _⟩ rfl rfl (fun H locs hP hD hS => ?_)
    refine lv_aload_n hx hb dX6_feed_31 rfl (lv_at hl 0 rfl) ?_
    refine mget X fl_X6_10 hP 0 rfl rfl dX6_feed_32 ?_
    refine lv_iload_n hx hb dX6_feed_35 rfl (lv_at hl 3 rfl) ?_
    obtain ⟨r5, c5, h⟩ := o_b h
    refine mcallV X (As := [.int p3]) (rest := []) (ws1 := wX6_feed g q_o q_o_text q_o_text_bytes q_o_present q_o_trial q_o_history q_o_output q_o_answer q_o_best r5.2 o_text_length o_text_token o_text_start o_text_next o_text_faultKind o_text_faultPosition r5.1) (st1 := []) (kX5_append D g x l q_o_text q_o_text_bytes r4.2 o_text_length o_text_token o_text_start o_text_next o_text_faultKind o_text_faultPosition r4.1 p3 r5 c5) mw_X5_append ml_X6_54 ⟨Nat.le_of_ble_eq_true rfl, Nat.le_of_ble_eq_true rfl⟩ hP hD hS [1, 2] rfl rfl rfl 1 rfl rfl rfl hl.1 rfl (Nat.le_of_ble_eq_true rfl) dX6_feed_36 ⟨Nat.le_refl _, Nat.le_refl _⟩ rfl rfl (fun H locs hP hD hS => ?_)
    refine lv_aload_n hx hb dX6_feed_39 rfl (lv_at hl 0 rfl) ?_
    refine mget X fl_X6_10 hP 0 rfl rfl dX6_feed_40 ?_
    refine lv_iload hx hb dX6_feed_43 (lv_at hl 4 rfl) ?_
    obtain ⟨r6, c6, h⟩ := o_b h
    refine mcallV X (As := [.int p4]) (rest := []) (ws1 := wX6_feed g q_o q_o_text q_o_text_bytes q_o_present q_o_trial q_o_history q_o_output q_o_answer q_o_best r6.2 o_text_length o_text_token o_text_start o_text_next o_text_faultKind o_text_faultPosition r6.1) (st1 := []) (kX5_append D g x l q_o_text q_o_text_bytes r5.2 o_text_length o_text_token o_text_start o_text_next o_text_faultKind o_text_faultPosition r5.1 p4 r6 c6) mw_X5_append ml_X6_54 ⟨Nat.le_of_ble_eq_true rfl, Nat.le_of_ble_eq_true rfl⟩ hP hD hS [1, 2] rfl rfl rfl 1 rfl rfl rfl hl.1 rfl (Nat.le_of_ble_eq_true rfl) dX6_feed_45 ⟨Nat.le_refl _, Nat.le_refl _⟩ rfl rfl (fun H locs hP hD hS => ?_)
    refine lv_aload_n hx hb dX6_feed_48 rfl (lv_at hl 0 rfl) ?_
    refine mget X fl_X6_10 hP 0 rfl rfl dX6_feed_49 ?_
    refine lv_iload hx hb dX6_feed_52 (lv_at hl 5 rfl) ?_
    obtain ⟨r7, c7, h⟩ := o_b h
    refine mcallV X (As := [.int p5]) (rest := []) (ws1 := wX6_feed g q_o q_o_text q_o_text_bytes q_o_present q_o_trial q_o_history q_o_output q_o_answer q_o_best r7.2 o_text_length o_text_token o_text_start o_text_next o_text_faultKind o_text_faultPosition r7.1) (st1 := []) (kX5_append D g x l q_o_text q_o_text_bytes r6.2 o_text_length o_text_token o_text_start o_text_next o_text_faultKind o_text_faultPosition r6.1 p5 r7 c7) mw_X5_append ml_X6_54 ⟨Nat.le_of_ble_eq_true rfl, Nat.le_of_ble_eq_true rfl⟩ hP hD hS [1, 2] rfl rfl rfl 1 rfl rfl rfl hl.1 rfl (Nat.le_of_ble_eq_true rfl) dX6_feed_54 ⟨Nat.le_refl _, Nat.le_refl _⟩ rfl rfl (fun H locs hP hD hS => ?_)
    refine lv_aload_n hx hb dX6_feed_57 rfl (lv_at hl 0 rfl) ?_
    refine mget X fl_X6_10 hP 0 rfl rfl dX6_feed_58 ?_
    obtain ⟨r8, c8, h⟩ := o_b h
    refine mcallV X (As := []) (rest := []) (ws1 := wX6_feed g q_o q_o_text q_o_text_bytes q_o_present q_o_trial q_o_history q_o_output q_o_answer q_o_best r7.2 o_text_length o_text_token o_text_start o_text_next o_text_faultKind o_text_faultPosition r7.1) (st1 := [.int r8]) (kX5_filled D g x l q_o_text q_o_text_bytes r7.2 o_text_length o_text_token o_text_start o_text_next o_text_faultKind o_text_faultPosition  r8 c8) mw_X5_filled ml_X6_58 ⟨Nat.le_of_ble_eq_true rfl, Nat.le_of_ble_eq_true rfl⟩ hP hD hS [1] rfl rfl rfl 1 rfl rfl rfl hl.1 rfl (Nat.le_of_ble_eq_true rfl) dX6_feed_61 ⟨Nat.le_refl _, Nat.le_refl _⟩ rfl rfl (fun H locs hP hD hS => ?_)
    cases h
    exact fin _ _ _ _ rfl hP hS dX6_feed_64
  · have h := o_t b2 h
    refine lv_bipush (v := (-2)) hx hb dX6_feed_12 (by decide) ?_
    cases h
    exact fin _ _ _ _ rfl hP hS dX6_feed_14
abbrev wX6_errorKind (g : Nat → ClassId) (q_o q_o_text q_o_present q_o_trial q_o_history q_o_output q_o_answer q_o_best q_o_text_bytes : Nat) (o_text_filled : Int32) (o_text_length : Int32) (o_text_token : Int32) (o_text_start : Int32) (o_text_next : Int32) (o_text_faultKind : Int32) (o_text_faultPosition : Int32) : va_W := [(q_o, .inr (6, [.ref q_o_text, .ref q_o_present, .ref q_o_trial, .ref q_o_history, .ref q_o_output, .ref q_o_answer, .ref q_o_best])), (q_o_text, .inr (5, [.ref q_o_text_bytes, .int o_text_filled, .int o_text_length, .int o_text_token, .int o_text_start, .int o_text_next, .int o_text_faultKind, .int o_text_faultPosition]))]
set_option maxHeartbeats 4000000 in
set_option maxRecDepth 100000 in
theorem kX6_errorKind (D : va_G) (g : Nat → ClassId) (x : Xd) (l : Launch) (q_o q_o_text q_o_present q_o_trial q_o_history q_o_output q_o_answer q_o_best q_o_text_bytes : Nat) (o_text_filled : Int32) (o_text_length : Int32) (o_text_token : Int32) (o_text_start : Int32) (o_text_next : Int32) (o_text_faultKind : Int32) (o_text_faultPosition : Int32) (R : Int32) (h : mX6_errorKind o_text_faultKind = some R) : Cn D g x l yX6_errorKind cX6_errorKind 1 (some .int) 1 20 [.ref q_o] (wX6_errorKind g q_o q_o_text q_o_present q_o_trial q_o_history q_o_output q_o_answer q_o_best q_o_text_bytes o_text_filled o_text_length o_text_token o_text_start o_text_next o_text_faultKind o_text_faultPosition) (wX6_errorKind g q_o q_o_text q_o_present q_o_trial q_o_history q_o_output q_o_answer q_o_best q_o_text_bytes o_text_filled o_text_length o_text_token o_text_start o_text_next o_text_faultKind o_text_faultPosition) (some (.int R)) := by
  refine CnI (by decide +kernel) (Nat.le_of_ble_eq_true rfl) (fun p e s m args below meth c A Q ls X hD hP hS fin hl => ?_)
  obtain ⟨hx, hb, hml, -, -, hown, hts, hK, hA, hE⟩ := id X
  unfold mX6_errorKind at h
  have hl : lv_has ls 1 [(0, .ref q_o)] := hl
  refine lv_aload_n hx hb dX6_errorKind_0 rfl (lv_at hl 0 rfl) ?_
  refine mget X fl_X6_10 hP 0 rfl rfl dX6_errorKind_1 ?_
  obtain ⟨r1, c1, h⟩ := o_b h
  refine mcallV X (As := []) (rest := []) (ws1 := wX6_errorKind g q_o q_o_text q_o_present q_o_trial q_o_history q_o_output q_o_answer q_o_best q_o_text_bytes o_text_filled o_text_length o_text_token o_text_start o_text_next o_text_faultKind o_text_faultPosition) (st1 := [.int r1]) (kX5_faultKind D g x l q_o_text q_o_text_bytes o_text_filled o_text_length o_text_token o_text_start o_text_next o_text_faultKind o_text_faultPosition  r1 c1) mw_X5_faultKind ml_X6_90 ⟨Nat.le_of_ble_eq_true rfl, Nat.le_of_ble_eq_true rfl⟩ hP hD hS [1] rfl rfl rfl 1 rfl rfl rfl hl.1 rfl (Nat.le_of_ble_eq_true rfl) dX6_errorKind_4 ⟨Nat.le_refl _, Nat.le_refl _⟩ rfl rfl (fun H locs hP hD hS => ?_)
  cases h
  exact fin _ _ _ _ rfl hP hS dX6_errorKind_7
abbrev wX6_errorPosition (g : Nat → ClassId) (q_o q_o_text q_o_present q_o_trial q_o_history q_o_output q_o_answer q_o_best q_o_text_bytes : Nat) (o_text_filled : Int32) (o_text_length : Int32) (o_text_token : Int32) (o_text_start : Int32) (o_text_next : Int32) (o_text_faultKind : Int32) (o_text_faultPosition : Int32) : va_W := [(q_o, .inr (6, [.ref q_o_text, .ref q_o_present, .ref q_o_trial, .ref q_o_history, .ref q_o_output, .ref q_o_answer, .ref q_o_best])), (q_o_text, .inr (5, [.ref q_o_text_bytes, .int o_text_filled, .int o_text_length, .int o_text_token, .int o_text_start, .int o_text_next, .int o_text_faultKind, .int o_text_faultPosition]))]
set_option maxHeartbeats 4000000 in
set_option maxRecDepth 100000 in
theorem kX6_errorPosition (D : va_G) (g : Nat → ClassId) (x : Xd) (l : Launch) (q_o q_o_text q_o_present q_o_trial q_o_history q_o_output q_o_answer q_o_best q_o_text_bytes : Nat) (o_text_filled : Int32) (o_text_length : Int32) (o_text_token : Int32) (o_text_start : Int32) (o_text_next : Int32) (o_text_faultKind : Int32) (o_text_faultPosition : Int32) (R : Int32) (h : mX6_errorPosition o_text_faultPosition = some R) : Cn D g x l yX6_errorPosition cX6_errorPosition 1 (some .int) 1 20 [.ref q_o] (wX6_errorPosition g q_o q_o_text q_o_present q_o_trial q_o_history q_o_output q_o_answer q_o_best q_o_text_bytes o_text_filled o_text_length o_text_token o_text_start o_text_next o_text_faultKind o_text_faultPosition) (wX6_errorPosition g q_o q_o_text q_o_present q_o_trial q_o_history q_o_output q_o_answer q_o_best q_o_text_bytes o_text_filled o_text_length o_text_token o_text_start o_text_next o_text_faultKind o_text_faultPosition) (some (.int R)) := by
  refine CnI (by decide +kernel) (Nat.le_of_ble_eq_true rfl) (fun p e s m args below meth c A Q ls X hD hP hS fin hl => ?_)
  obtain ⟨hx, hb, hml, -, -, hown, hts, hK, hA, hE⟩ := id X
  unfold mX6_errorPosition at h
  have hl : lv_has ls 1 [(0, .ref q_o)] := hl
  refine lv_aload_n hx hb dX6_errorPosition_0 rfl (lv_at hl 0 rfl) ?_
  refine mget X fl_X6_10 hP 0 rfl rfl dX6_errorPosition_1 ?_
  obtain ⟨r1, c1, h⟩ := o_b h
  refine mcallV X (As := []) (rest := []) (ws1 := wX6_errorPosition g q_o q_o_text q_o_present q_o_trial q_o_history q_o_output q_o_answer q_o_best q_o_text_bytes o_text_filled o_text_length o_text_token o_text_start o_text_next o_text_faultKind o_text_faultPosition) (st1 := [.int r1]) (kX5_faultPosition D g x l q_o_text q_o_text_bytes o_text_filled o_text_length o_text_token o_text_start o_text_next o_text_faultKind o_text_faultPosition  r1 c1) mw_X5_faultPosition ml_X6_93 ⟨Nat.le_of_ble_eq_true rfl, Nat.le_of_ble_eq_true rfl⟩ hP hD hS [1] rfl rfl rfl 1 rfl rfl rfl hl.1 rfl (Nat.le_of_ble_eq_true rfl) dX6_errorPosition_4 ⟨Nat.le_refl _, Nat.le_refl _⟩ rfl rfl (fun H locs hP hD hS => ?_)
  cases h
  exact fin _ _ _ _ rfl hP hS dX6_errorPosition_7
abbrev wX6_points (g : Nat → ClassId) (q_o q_o_present q_o_present_nodes q_o_text q_o_trial q_o_history q_o_output q_o_answer q_o_best q_o_present_order q_o_present_sorted q_o_present_weights q_o_present_numerator q_o_present_denominator q_o_present_product q_o_present_nodes_xs q_o_present_nodes_ys q_o_present_nodes_ws : Nat) (o_present_nodes_count : Int32) (o_present_nodes_mode : Int32) (o_present_nodes_degree : Int32) : va_W := [(q_o, .inr (6, [.ref q_o_text, .ref q_o_present, .ref q_o_trial, .ref q_o_history, .ref q_o_output, .ref q_o_answer, .ref q_o_best])), (q_o_present, .inr (0, [.ref q_o_present_nodes, .ref q_o_present_order, .ref q_o_present_sorted, .ref q_o_present_weights, .ref q_o_present_numerator, .ref q_o_present_denominator, .ref q_o_present_product])), (q_o_present_nodes, .inr (3, [.ref q_o_present_nodes_xs, .ref q_o_present_nodes_ys, .ref q_o_present_nodes_ws, .int o_present_nodes_count, .int o_present_nodes_mode, .int o_present_nodes_degree]))]
set_option maxHeartbeats 4000000 in
set_option maxRecDepth 100000 in
theorem kX6_points (D : va_G) (g : Nat → ClassId) (x : Xd) (l : Launch) (q_o q_o_present q_o_present_nodes q_o_text q_o_trial q_o_history q_o_output q_o_answer q_o_best q_o_present_order q_o_present_sorted q_o_present_weights q_o_present_numerator q_o_present_denominator q_o_present_product q_o_present_nodes_xs q_o_present_nodes_ys q_o_present_nodes_ws : Nat) (o_present_nodes_count : Int32) (o_present_nodes_mode : Int32) (o_present_nodes_degree : Int32) (R : Int32) (h : mX6_points o_present_nodes_count = some R) : Cn D g x l yX6_points cX6_points 1 (some .int) 1 20 [.ref q_o] (wX6_points g q_o q_o_present q_o_present_nodes q_o_text q_o_trial q_o_history q_o_output q_o_answer q_o_best q_o_present_order q_o_present_sorted q_o_present_weights q_o_present_numerator q_o_present_denominator q_o_present_product q_o_present_nodes_xs q_o_present_nodes_ys q_o_present_nodes_ws o_present_nodes_count o_present_nodes_mode o_present_nodes_degree) (wX6_points g q_o q_o_present q_o_present_nodes q_o_text q_o_trial q_o_history q_o_output q_o_answer q_o_best q_o_present_order q_o_present_sorted q_o_present_weights q_o_present_numerator q_o_present_denominator q_o_present_product q_o_present_nodes_xs q_o_present_nodes_ys q_o_present_nodes_ws o_present_nodes_count o_present_nodes_mode o_present_nodes_degree) (some (.int R)) := by
  refine CnI (by decide +kernel) (Nat.le_of_ble_eq_true rfl) (fun p e s m args below meth c A Q ls X hD hP hS fin hl => ?_)
  obtain ⟨hx, hb, hml, -, -, hown, hts, hK, hA, hE⟩ := id X
  unfold mX6_points at h
  have hl : lv_has ls 1 [(0, .ref q_o)] := hl
  refine lv_aload_n hx hb dX6_points_0 rfl (lv_at hl 0 rfl) ?_
  refine mget X fl_X6_19 hP 0 rfl rfl dX6_points_1 ?_
  refine mget X fl_X6_66 hP 1 rfl rfl dX6_points_4 ?_
  obtain ⟨r1, c1, h⟩ := o_b h
  refine mcallV X (As := []) (rest := []) (ws1 := wX6_points g q_o q_o_present q_o_present_nodes q_o_text q_o_trial q_o_history q_o_output q_o_answer q_o_best q_o_present_order q_o_present_sorted q_o_present_weights q_o_present_numerator q_o_present_denominator q_o_present_product q_o_present_nodes_xs q_o_present_nodes_ys q_o_present_nodes_ws o_present_nodes_count o_present_nodes_mode o_present_nodes_degree) (st1 := [.int r1]) (kX3_size D g x l q_o_present_nodes q_o_present_nodes_xs q_o_present_nodes_ys q_o_present_nodes_ws o_present_nodes_count o_present_nodes_mode o_present_nodes_degree  r1 c1) mw_X3_size ml_X6_87 ⟨Nat.le_of_ble_eq_true rfl, Nat.le_of_ble_eq_true rfl⟩ hP hD hS [2] rfl rfl rfl 2 rfl rfl rfl hl.1 rfl (Nat.le_of_ble_eq_true rfl) dX6_points_7 ⟨Nat.le_refl _, Nat.le_refl _⟩ rfl rfl (fun H locs hP hD hS => ?_)
  cases h
  exact fin _ _ _ _ rfl hP hS dX6_points_10
abbrev wX6_mode (g : Nat → ClassId) (q_o q_o_present q_o_present_nodes q_o_text q_o_trial q_o_history q_o_output q_o_answer q_o_best q_o_present_order q_o_present_sorted q_o_present_weights q_o_present_numerator q_o_present_denominator q_o_present_product q_o_present_nodes_xs q_o_present_nodes_ys q_o_present_nodes_ws : Nat) (o_present_nodes_count : Int32) (o_present_nodes_mode : Int32) (o_present_nodes_degree : Int32) : va_W := [(q_o, .inr (6, [.ref q_o_text, .ref q_o_present, .ref q_o_trial, .ref q_o_history, .ref q_o_output, .ref q_o_answer, .ref q_o_best])), (q_o_present, .inr (0, [.ref q_o_present_nodes, .ref q_o_present_order, .ref q_o_present_sorted, .ref q_o_present_weights, .ref q_o_present_numerator, .ref q_o_present_denominator, .ref q_o_present_product])), (q_o_present_nodes, .inr (3, [.ref q_o_present_nodes_xs, .ref q_o_present_nodes_ys, .ref q_o_present_nodes_ws, .int o_present_nodes_count, .int o_present_nodes_mode, .int o_present_nodes_degree]))]
set_option maxHeartbeats 4000000 in
set_option maxRecDepth 100000 in
theorem kX6_mode (D : va_G) (g : Nat → ClassId) (x : Xd) (l : Launch) (q_o q_o_present q_o_present_nodes q_o_text q_o_trial q_o_history q_o_output q_o_answer q_o_best q_o_present_order q_o_present_sorted q_o_present_weights q_o_present_numerator q_o_present_denominator q_o_present_product q_o_present_nodes_xs q_o_present_nodes_ys q_o_present_nodes_ws : Nat) (o_present_nodes_count : Int32) (o_present_nodes_mode : Int32) (o_present_nodes_degree : Int32) (R : Int32) (h : mX6_mode o_present_nodes_mode = some R) : Cn D g x l yX6_mode cX6_mode 1 (some .int) 0 0 [.ref q_o] (wX6_mode g q_o q_o_present q_o_present_nodes q_o_text q_o_trial q_o_history q_o_output q_o_answer q_o_best q_o_present_order q_o_present_sorted q_o_present_weights q_o_present_numerator q_o_present_denominator q_o_present_product q_o_present_nodes_xs q_o_present_nodes_ys q_o_present_nodes_ws o_present_nodes_count o_present_nodes_mode o_present_nodes_degree) (wX6_mode g q_o q_o_present q_o_present_nodes q_o_text q_o_trial q_o_history q_o_output q_o_answer q_o_best q_o_present_order q_o_present_sorted q_o_present_weights q_o_present_numerator q_o_present_denominator q_o_present_product q_o_present_nodes_xs q_o_present_nodes_ys q_o_present_nodes_ws o_present_nodes_count o_present_nodes_mode o_present_nodes_degree) (some (.int R)) := by
  refine CnI (by decide +kernel) (Nat.le_of_ble_eq_true rfl) (fun p e s m args below meth c A Q ls X hD hP hS fin hl => ?_)
  obtain ⟨hx, hb, hml, -, -, hown, hts, hK, hA, hE⟩ := id X
  unfold mX6_mode at h
  have hl : lv_has ls 1 [(0, .ref q_o)] := hl
  refine lv_aload_n hx hb dX6_mode_0 rfl (lv_at hl 0 rfl) ?_
  refine mget X fl_X6_19 hP 0 rfl rfl dX6_mode_1 ?_
  refine mget X fl_X6_66 hP 1 rfl rfl dX6_mode_4 ?_
  refine mget X fl_X6_96 hP 2 rfl rfl dX6_mode_7 ?_
  cases h
  exact fin _ _ _ _ rfl hP hS dX6_mode_10
abbrev wX6_degree (g : Nat → ClassId) (q_o q_o_present q_o_present_nodes q_o_text q_o_trial q_o_history q_o_output q_o_answer q_o_best q_o_present_order q_o_present_sorted q_o_present_weights q_o_present_numerator q_o_present_denominator q_o_present_product q_o_present_nodes_xs q_o_present_nodes_ys q_o_present_nodes_ws : Nat) (o_present_nodes_count : Int32) (o_present_nodes_mode : Int32) (o_present_nodes_degree : Int32) : va_W := [(q_o, .inr (6, [.ref q_o_text, .ref q_o_present, .ref q_o_trial, .ref q_o_history, .ref q_o_output, .ref q_o_answer, .ref q_o_best])), (q_o_present, .inr (0, [.ref q_o_present_nodes, .ref q_o_present_order, .ref q_o_present_sorted, .ref q_o_present_weights, .ref q_o_present_numerator, .ref q_o_present_denominator, .ref q_o_present_product])), (q_o_present_nodes, .inr (3, [.ref q_o_present_nodes_xs, .ref q_o_present_nodes_ys, .ref q_o_present_nodes_ws, .int o_present_nodes_count, .int o_present_nodes_mode, .int o_present_nodes_degree]))]
set_option maxHeartbeats 4000000 in
set_option maxRecDepth 100000 in
theorem kX6_degree (D : va_G) (g : Nat → ClassId) (x : Xd) (l : Launch) (q_o q_o_present q_o_present_nodes q_o_text q_o_trial q_o_history q_o_output q_o_answer q_o_best q_o_present_order q_o_present_sorted q_o_present_weights q_o_present_numerator q_o_present_denominator q_o_present_product q_o_present_nodes_xs q_o_present_nodes_ys q_o_present_nodes_ws : Nat) (o_present_nodes_count : Int32) (o_present_nodes_mode : Int32) (o_present_nodes_degree : Int32) (R : Int32) (h : mX6_degree o_present_nodes_degree = some R) : Cn D g x l yX6_degree cX6_degree 1 (some .int) 0 0 [.ref q_o] (wX6_degree g q_o q_o_present q_o_present_nodes q_o_text q_o_trial q_o_history q_o_output q_o_answer q_o_best q_o_present_order q_o_present_sorted q_o_present_weights q_o_present_numerator q_o_present_denominator q_o_present_product q_o_present_nodes_xs q_o_present_nodes_ys q_o_present_nodes_ws o_present_nodes_count o_present_nodes_mode o_present_nodes_degree) (wX6_degree g q_o q_o_present q_o_present_nodes q_o_text q_o_trial q_o_history q_o_output q_o_answer q_o_best q_o_present_order q_o_present_sorted q_o_present_weights q_o_present_numerator q_o_present_denominator q_o_present_product q_o_present_nodes_xs q_o_present_nodes_ys q_o_present_nodes_ws o_present_nodes_count o_present_nodes_mode o_present_nodes_degree) (some (.int R)) := by
  refine CnI (by decide +kernel) (Nat.le_of_ble_eq_true rfl) (fun p e s m args below meth c A Q ls X hD hP hS fin hl => ?_)
  obtain ⟨hx, hb, hml, -, -, hown, hts, hK, hA, hE⟩ := id X
  unfold mX6_degree at h
  have hl : lv_has ls 1 [(0, .ref q_o)] := hl
  refine lv_aload_n hx hb dX6_degree_0 rfl (lv_at hl 0 rfl) ?_
  refine mget X fl_X6_19 hP 0 rfl rfl dX6_degree_1 ?_
  refine mget X fl_X6_66 hP 1 rfl rfl dX6_degree_4 ?_
  refine mget X fl_X6_100 hP 2 rfl rfl dX6_degree_7 ?_
  cases h
  exact fin _ _ _ _ rfl hP hS dX6_degree_10
abbrev wX6_isAlternating (g : Nat → ClassId) (q_o q_o_present q_o_present_nodes q_o_present_order q_o_present_weights q_o_text q_o_trial q_o_history q_o_output q_o_answer q_o_best q_o_present_sorted q_o_present_numerator q_o_present_denominator q_o_present_product q_o_present_nodes_xs q_o_present_nodes_ys q_o_present_nodes_ws : Nat) (o_present_nodes_count : Int32) (o_present_nodes_mode : Int32) (o_present_nodes_degree : Int32) (o_present_order : Nat → Int32) (o_present_weights : Nat → Int64) : va_W := [(q_o, .inr (6, [.ref q_o_text, .ref q_o_present, .ref q_o_trial, .ref q_o_history, .ref q_o_output, .ref q_o_answer, .ref q_o_best])), (q_o_present, .inr (0, [.ref q_o_present_nodes, .ref q_o_present_order, .ref q_o_present_sorted, .ref q_o_present_weights, .ref q_o_present_numerator, .ref q_o_present_denominator, .ref q_o_present_product])), (q_o_present_nodes, .inr (3, [.ref q_o_present_nodes_xs, .ref q_o_present_nodes_ys, .ref q_o_present_nodes_ws, .int o_present_nodes_count, .int o_present_nodes_mode, .int o_present_nodes_degree])), (q_o_present_order, .inl (g 0, 5, .inl o_present_order)), (q_o_present_weights, .inl (g 1, 5, .inr (.inl o_present_weights)))]
set_option maxHeartbeats 4000000 in
set_option maxRecDepth 100000 in
theorem kX6_isAlternating (D : va_G) (g : Nat → ClassId) (x : Xd) (l : Launch) (q_o q_o_present q_o_present_nodes q_o_present_order q_o_present_weights q_o_text q_o_trial q_o_history q_o_output q_o_answer q_o_best q_o_present_sorted q_o_present_numerator q_o_present_denominator q_o_present_product q_o_present_nodes_xs q_o_present_nodes_ys q_o_present_nodes_ws : Nat) (o_present_nodes_count : Int32) (o_present_nodes_mode : Int32) (o_present_nodes_degree : Int32) (o_present_order : Nat → Int32) (o_present_weights : Nat → Int64) (R : Int32) (h : mX6_isAlternating o_present_nodes_count o_present_order o_present_weights = some R) : Cn D g x l yX6_isAlternating cX6_isAlternating 1 (some .boolean) 3 66 [.ref q_o] (wX6_isAlternating g q_o q_o_present q_o_present_nodes q_o_present_order q_o_present_weights q_o_text q_o_trial q_o_history q_o_output q_o_answer q_o_best q_o_present_sorted q_o_present_numerator q_o_present_denominator q_o_present_product q_o_present_nodes_xs q_o_present_nodes_ys q_o_present_nodes_ws o_present_nodes_count o_present_nodes_mode o_present_nodes_degree o_present_order o_present_weights) (wX6_isAlternating g q_o q_o_present q_o_present_nodes q_o_present_order q_o_present_weights q_o_text q_o_trial q_o_history q_o_output q_o_answer q_o_best q_o_present_sorted q_o_present_numerator q_o_present_denominator q_o_present_product q_o_present_nodes_xs q_o_present_nodes_ys q_o_present_nodes_ws o_present_nodes_count o_present_nodes_mode o_present_nodes_degree o_present_order o_present_weights) (some (.int R)) := by
  refine CnI (by decide +kernel) (Nat.le_of_ble_eq_true rfl) (fun p e s m args below meth c A Q ls X hD hP hS fin hl => ?_)
  obtain ⟨hx, hb, hml, -, -, hown, hts, hK, hA, hE⟩ := id X
  unfold mX6_isAlternating at h
  have hl : lv_has ls 1 [(0, .ref q_o)] := hl
  refine lv_aload_n hx hb dX6_isAlternating_0 rfl (lv_at hl 0 rfl) ?_
  refine mget X fl_X6_19 hP 0 rfl rfl dX6_isAlternating_1 ?_
  obtain ⟨r1, c1, h⟩ := o_b h
  refine mcallV X (As := []) (rest := []) (ws1 := wX6_isAlternating g q_o q_o_present q_o_present_nodes q_o_present_order q_o_present_weights q_o_text q_o_trial q_o_history q_o_output q_o_answer q_o_best q_o_present_sorted q_o_present_numerator q_o_present_denominator q_o_present_product q_o_present_nodes_xs q_o_present_nodes_ys q_o_present_nodes_ws o_present_nodes_count o_present_nodes_mode o_present_nodes_degree o_present_order o_present_weights) (st1 := [.int r1]) (kX0_alternates D g x l q_o_present q_o_present_nodes q_o_present_order q_o_present_weights q_o_present_sorted q_o_present_numerator q_o_present_denominator q_o_present_product q_o_present_nodes_xs q_o_present_nodes_ys q_o_present_nodes_ws o_present_nodes_count o_present_nodes_mode o_present_nodes_degree o_present_order o_present_weights  r1 c1) mw_X0_alternates ml_X6_137 ⟨Nat.le_of_ble_eq_true rfl, Nat.le_of_ble_eq_true rfl⟩ hP hD hS [1, 2, 3, 4] rfl rfl rfl 1 rfl rfl rfl hl.1 rfl (Nat.le_of_ble_eq_true rfl) dX6_isAlternating_4 ⟨Nat.le_refl _, Nat.le_refl _⟩ rfl rfl (fun H locs hP hD hS => ?_)
  obtain ⟨b2, h⟩ := o_g h
  cases h
  exact fin _ _ _ _ (nar_z b2) hP hS dX6_isAlternating_7
abbrev wX6_weightSum (g : Nat → ClassId) (q_o q_o_present q_o_present_nodes q_o_present_weights q_o_text q_o_trial q_o_history q_o_output q_o_answer q_o_best q_o_present_order q_o_present_sorted q_o_present_numerator q_o_present_denominator q_o_present_product q_o_present_nodes_xs q_o_present_nodes_ys q_o_present_nodes_ws : Nat) (o_present_nodes_count : Int32) (o_present_nodes_mode : Int32) (o_present_nodes_degree : Int32) (o_present_weights : Nat → Int64) : va_W := [(q_o, .inr (6, [.ref q_o_text, .ref q_o_present, .ref q_o_trial, .ref q_o_history, .ref q_o_output, .ref q_o_answer, .ref q_o_best])), (q_o_present, .inr (0, [.ref q_o_present_nodes, .ref q_o_present_order, .ref q_o_present_sorted, .ref q_o_present_weights, .ref q_o_present_numerator, .ref q_o_present_denominator, .ref q_o_present_product])), (q_o_present_nodes, .inr (3, [.ref q_o_present_nodes_xs, .ref q_o_present_nodes_ys, .ref q_o_present_nodes_ws, .int o_present_nodes_count, .int o_present_nodes_mode, .int o_present_nodes_degree])), (q_o_present_weights, .inl (g 1, 5, .inr (.inl o_present_weights)))]
set_option maxHeartbeats 4000000 in
set_option maxRecDepth 100000 in
theorem kX6_weightSum (D : va_G) (g : Nat → ClassId) (x : Xd) (l : Launch) (q_o q_o_present q_o_present_nodes q_o_present_weights q_o_text q_o_trial q_o_history q_o_output q_o_answer q_o_best q_o_present_order q_o_present_sorted q_o_present_numerator q_o_present_denominator q_o_present_product q_o_present_nodes_xs q_o_present_nodes_ys q_o_present_nodes_ws : Nat) (o_present_nodes_count : Int32) (o_present_nodes_mode : Int32) (o_present_nodes_degree : Int32) (o_present_weights : Nat → Int64) (R : Int64) (h : mX6_weightSum o_present_nodes_count o_present_weights = some R) : Cn D g x l yX6_weightSum cX6_weightSum 4 (some .long) 2 41 [.ref q_o] (wX6_weightSum g q_o q_o_present q_o_present_nodes q_o_present_weights q_o_text q_o_trial q_o_history q_o_output q_o_answer q_o_best q_o_present_order q_o_present_sorted q_o_present_numerator q_o_present_denominator q_o_present_product q_o_present_nodes_xs q_o_present_nodes_ys q_o_present_nodes_ws o_present_nodes_count o_present_nodes_mode o_present_nodes_degree o_present_weights) (wX6_weightSum g q_o q_o_present q_o_present_nodes q_o_present_weights q_o_text q_o_trial q_o_history q_o_output q_o_answer q_o_best q_o_present_order q_o_present_sorted q_o_present_numerator q_o_present_denominator q_o_present_product q_o_present_nodes_xs q_o_present_nodes_ys q_o_present_nodes_ws o_present_nodes_count o_present_nodes_mode o_present_nodes_degree o_present_weights) (some (.long R)) := by
  refine CnL (by decide +kernel) (Nat.le_of_ble_eq_true rfl) (fun p e s m args below meth c A Q ls X hD hP hS fin hl => ?_)
  obtain ⟨hx, hb, hml, -, -, hown, hts, hK, hA, hE⟩ := id X
  unfold mX6_weightSum at h
  have hl : lv_has ls 4 [(0, .ref q_o)] := hl
  refine lv_lconst (v := 0) hx hb dX6_weightSum_0 (by decide) ?_
  refine lv_lstore_n (lv' := [(1, .long 0), (0, .ref q_o)]) hx hb dX6_weightSum_1 rfl hl (by decide) rfl (fun ls hl => ?_)
  refine lv_iconst (v := 0) hx hb dX6_weightSum_2 (by decide) ?_
  refine lv_istore_n (lv' := [(3, .int 0), (1, .long 0), (0, .ref q_o)]) hx hb dX6_weightSum_3 rfl hl (by decide) rfl (fun ls hl => ?_)
  have lp1 : ∀ (n : Nat) (v1_1 : Int64) (v1_3 : Int32) (R1 : Int64) (h : lX6_weightSum_4 o_present_nodes_count o_present_weights n v1_1 v1_3 = some R1) (H : Heap) (locs : List Loc), va_P D vwCl (wX6_weightSum g q_o q_o_present q_o_present_nodes q_o_present_weights q_o_text q_o_trial q_o_history q_o_output q_o_answer q_o_best q_o_present_order q_o_present_sorted q_o_present_numerator q_o_present_denominator q_o_present_product q_o_present_nodes_xs q_o_present_nodes_ys q_o_present_nodes_ws o_present_nodes_count o_present_nodes_mode o_present_nodes_degree o_present_weights) H → va_D A (wX6_weightSum g q_o q_o_present q_o_present_nodes q_o_present_weights q_o_text q_o_trial q_o_history q_o_output q_o_answer q_o_best q_o_present_order q_o_present_sorted q_o_present_numerator q_o_present_denominator q_o_present_product q_o_present_nodes_xs q_o_present_nodes_ys q_o_present_nodes_ws o_present_nodes_count o_present_nodes_mode o_present_nodes_degree o_present_weights) → va_S A s.heap H locs → ∀ (ls : Array Slot), lv_has ls 4 [(0, .ref q_o), (1, .long v1_1), (3, .int v1_3)] → (∀ (H : Heap) (locs : List Loc) (ls : Array Slot), va_P D vwCl (wX6_weightSum g q_o q_o_present q_o_present_nodes q_o_present_weights q_o_text q_o_trial q_o_history q_o_output q_o_answer q_o_best q_o_present_order q_o_present_sorted q_o_present_numerator q_o_present_denominator q_o_present_product q_o_present_nodes_xs q_o_present_nodes_ys q_o_present_nodes_ws o_present_nodes_count o_present_nodes_mode o_present_nodes_degree o_present_weights) H → va_D A (wX6_weightSum g q_o q_o_present q_o_present_nodes q_o_present_weights q_o_text q_o_trial q_o_history q_o_output q_o_answer q_o_best q_o_present_order q_o_present_sorted q_o_present_numerator q_o_present_denominator q_o_present_product q_o_present_nodes_xs q_o_present_nodes_ys q_o_present_nodes_ws o_present_nodes_count o_present_nodes_mode o_present_nodes_degree o_present_weights) → va_S A s.heap H locs → lv_has ls 4 [(1, .long R1)] → W p l e (rmF 2 41) s m args below meth c H locs 0 0 Q (F0 m 35 ls [])) → W p l e (rmF 2 41) s m args below meth c H locs 0 0 Q (F0 m 4 ls []) := by
    intro n
    induction n with
    | zero =>
      intro v1_1 v1_3 R1 h
      have h : none = some R1 := h
      cases h
    | succ n ih1 =>
      intro v1_1 v1_3 R1 h H locs hP hD hS ls hl K1_0
      have h : ((mX3_size o_present_nodes_count).bind fun r2 => if r2 ≤ v1_3 then some v1_1 else (mX0_weightOf o_present_nodes_count o_present_weights v1_3).bind fun r4 => lX6_weightSum_4 o_present_nodes_count o_present_weights n (v1_1 + r4) (v1_3 + 1) : Option (Int64)) = some R1 := h
      refine lv_iload_n hx hb dX6_weightSum_4 rfl (lv_at hl 2 rfl) ?_
      refine lv_aload_n hx hb dX6_weightSum_5 rfl (lv_at hl 0 rfl) ?_
      refine mget X fl_X6_19 hP 0 rfl rfl dX6_weightSum_6 ?_
      refine mget X fl_X6_66 hP 1 rfl rfl dX6_weightSum_9 ?_
      obtain ⟨r2, c2, h⟩ := o_b h
      refine mcallV X (As := []) (rest := [.int v1_3]) (ws1 := wX6_weightSum g q_o q_o_present q_o_present_nodes q_o_present_weights q_o_text q_o_trial q_o_history q_o_output q_o_answer q_o_best q_o_present_order q_o_present_sorted q_o_present_numerator q_o_present_denominator q_o_present_product q_o_present_nodes_xs q_o_present_nodes_ys q_o_present_nodes_ws o_present_nodes_count o_present_nodes_mode o_present_nodes_degree o_present_weights) (st1 := [.int r2, .int v1_3]) (kX3_size D g x l q_o_present_nodes q_o_present_nodes_xs q_o_present_nodes_ys q_o_present_nodes_ws o_present_nodes_count o_present_nodes_mode o_present_nodes_degree  r2 c2) mw_X3_size ml_X6_87 ⟨Nat.le_of_ble_eq_true rfl, Nat.le_of_ble_eq_true rfl⟩ hP hD hS [2] rfl rfl rfl 2 rfl rfl rfl hl.1 rfl (Nat.le_of_ble_eq_true rfl) dX6_weightSum_12 ⟨Nat.le_refl _, Nat.le_refl _⟩ rfl rfl (fun H locs hP hD hS => ?_)
      refine lv_icmp_ge (tgt := 35) hx hb dX6_weightSum_15 (by decide) (fun b3 => ?_) (fun b3 => ?_)
      · have h := o_t b3 h
        cases h
        exact K1_0  _ _ _ hP hD hS (lv_sub hl [1] rfl)
      · have h := o_f b3 h
        refine lv_lload_n hx hb dX6_weightSum_18 rfl (lv_at hl 1 rfl) ?_
        refine lv_aload_n hx hb dX6_weightSum_19 rfl (lv_at hl 0 rfl) ?_
        refine mget X fl_X6_19 hP 0 rfl rfl dX6_weightSum_20 ?_
        refine lv_iload_n hx hb dX6_weightSum_23 rfl (lv_at hl 2 rfl) ?_
        obtain ⟨r4, c4, h⟩ := o_b h
        refine mcallV X (As := [.int v1_3]) (rest := [.long v1_1]) (ws1 := wX6_weightSum g q_o q_o_present q_o_present_nodes q_o_present_weights q_o_text q_o_trial q_o_history q_o_output q_o_answer q_o_best q_o_present_order q_o_present_sorted q_o_present_numerator q_o_present_denominator q_o_present_product q_o_present_nodes_xs q_o_present_nodes_ys q_o_present_nodes_ws o_present_nodes_count o_present_nodes_mode o_present_nodes_degree o_present_weights) (st1 := [.long r4, .long v1_1]) (kX0_weightOf D g x l q_o_present q_o_present_nodes q_o_present_weights q_o_present_order q_o_present_sorted q_o_present_numerator q_o_present_denominator q_o_present_product q_o_present_nodes_xs q_o_present_nodes_ys q_o_present_nodes_ws o_present_nodes_count o_present_nodes_mode o_present_nodes_degree o_present_weights v1_3 r4 c4) mw_X0_weightOf ml_X6_133 ⟨Nat.le_of_ble_eq_true rfl, Nat.le_of_ble_eq_true rfl⟩ hP hD hS [1, 2, 3] rfl rfl rfl 1 rfl rfl rfl hl.1 rfl (Nat.le_of_ble_eq_true rfl) dX6_weightSum_24 ⟨Nat.le_refl _, Nat.le_refl _⟩ rfl rfl (fun H locs hP hD hS => ?_)
        refine lv_ladd hx hb dX6_weightSum_27 ?_
        refine lv_lstore_n (lv' := [(1, .long (v1_1 + r4)), (0, .ref q_o), (3, .int v1_3)]) hx hb dX6_weightSum_28 rfl hl (by decide) rfl (fun ls hl => ?_)
        refine lv_iinc (v := v1_3 + 1) (lv' := [(3, .int (v1_3 + 1)), (1, .long (v1_1 + r4)), (0, .ref q_o)]) hx hb dX6_weightSum_29 hl (k := 2) rfl rfl (by decide) rfl (fun ls hl => ?_)
        refine lv_goto (tgt := 4) hx hb dX6_weightSum_32 (by decide) ?_
        exact ih1 (v1_1 + r4) (v1_3 + 1) _ h _ _ hP hD hS _ (lv_sub hl [2, 1, 0] rfl) K1_0
  obtain ⟨r5, c5, h⟩ := o_b h
  refine lp1 FU 0 0 r5 c5 _ _ hP hD hS _ (lv_sub hl [2, 1, 0] rfl) (fun H locs ls hP hD hS hl => ?_)
  refine lv_lload_n hx hb dX6_weightSum_35 rfl (lv_at hl 0 rfl) ?_
  cases h
  exact fin _ _ _ _ hP hS dX6_weightSum_36
abbrev wX6_degreeOf (g : Nat → ClassId) (q_o q_o_present q_o_present_denominator q_o_present_numerator q_o_text q_o_trial q_o_history q_o_output q_o_answer q_o_best q_o_present_nodes q_o_present_order q_o_present_sorted q_o_present_weights q_o_present_product : Nat) (o_present_denominator : Nat → Int64) (o_present_numerator : Nat → Int64) : va_W := [(q_o, .inr (6, [.ref q_o_text, .ref q_o_present, .ref q_o_trial, .ref q_o_history, .ref q_o_output, .ref q_o_answer, .ref q_o_best])), (q_o_present, .inr (0, [.ref q_o_present_nodes, .ref q_o_present_order, .ref q_o_present_sorted, .ref q_o_present_weights, .ref q_o_present_numerator, .ref q_o_present_denominator, .ref q_o_present_product])), (q_o_present_denominator, .inl (g 1, 5, .inr (.inl o_present_denominator))), (q_o_present_numerator, .inl (g 1, 5, .inr (.inl o_present_numerator)))]
set_option maxHeartbeats 4000000 in
set_option maxRecDepth 100000 in
theorem kX6_degreeOf (D : va_G) (g : Nat → ClassId) (x : Xd) (l : Launch) (q_o q_o_present q_o_present_denominator q_o_present_numerator q_o_text q_o_trial q_o_history q_o_output q_o_answer q_o_best q_o_present_nodes q_o_present_order q_o_present_sorted q_o_present_weights q_o_present_product : Nat) (o_present_denominator : Nat → Int64) (o_present_numerator : Nat → Int64) (p1 : Int32) (R : Int32) (h : mX6_degreeOf o_present_denominator o_present_numerator p1 = some R) : Cn D g x l yX6_degreeOf cX6_degreeOf 3 (some .int) 1 22 [.ref q_o, .int p1] (wX6_degreeOf g q_o q_o_present q_o_present_denominator q_o_present_numerator q_o_text q_o_trial q_o_history q_o_output q_o_answer q_o_best q_o_present_nodes q_o_present_order q_o_present_sorted q_o_present_weights q_o_present_product o_present_denominator o_present_numerator) (wX6_degreeOf g q_o q_o_present q_o_present_denominator q_o_present_numerator q_o_text q_o_trial q_o_history q_o_output q_o_answer q_o_best q_o_present_nodes q_o_present_order q_o_present_sorted q_o_present_weights q_o_present_product o_present_denominator o_present_numerator) (some (.int R)) := by
  refine CnI (by decide +kernel) (Nat.le_of_ble_eq_true rfl) (fun p e s m args below meth c A Q ls X hD hP hS fin hl => ?_)
  obtain ⟨hx, hb, hml, -, -, hown, hts, hK, hA, hE⟩ := id X
  unfold mX6_degreeOf at h
  have hl : lv_has ls 3 [(0, .ref q_o), (1, .int p1)] := hl
  refine lv_iconst (v := 4) hx hb dX6_degreeOf_0 (by decide) ?_
  refine lv_istore_n (lv' := [(2, .int 4), (0, .ref q_o), (1, .int p1)]) hx hb dX6_degreeOf_1 rfl hl (by decide) rfl (fun ls hl => ?_)
  have lp1 : ∀ (n : Nat) (v1_2 : Int32) (R1 : Nat × Int32) (h : lX6_degreeOf_2 p1 o_present_denominator o_present_numerator n v1_2 = some R1) (H : Heap) (locs : List Loc), va_P D vwCl (wX6_degreeOf g q_o q_o_present q_o_present_denominator q_o_present_numerator q_o_text q_o_trial q_o_history q_o_output q_o_answer q_o_best q_o_present_nodes q_o_present_order q_o_present_sorted q_o_present_weights q_o_present_product o_present_denominator o_present_numerator) H → va_D A (wX6_degreeOf g q_o q_o_present q_o_present_denominator q_o_present_numerator q_o_text q_o_trial q_o_history q_o_output q_o_answer q_o_best q_o_present_nodes q_o_present_order q_o_present_sorted q_o_present_weights q_o_present_product o_present_denominator o_present_numerator) → va_S A s.heap H locs → ∀ (ls : Array Slot), lv_has ls 3 [(0, .ref q_o), (1, .int p1), (2, .int v1_2)] → (R1.1 = 0 → ∀ (H : Heap) (locs : List Loc) (ls : Array Slot), va_P D vwCl (wX6_degreeOf g q_o q_o_present q_o_present_denominator q_o_present_numerator q_o_text q_o_trial q_o_history q_o_output q_o_answer q_o_best q_o_present_nodes q_o_present_order q_o_present_sorted q_o_present_weights q_o_present_product o_present_denominator o_present_numerator) H → va_D A (wX6_degreeOf g q_o q_o_present q_o_present_denominator q_o_present_numerator q_o_text q_o_trial q_o_history q_o_output q_o_answer q_o_best q_o_present_nodes q_o_present_order q_o_present_sorted q_o_present_weights q_o_present_product o_present_denominator o_present_numerator) → va_S A s.heap H locs → lv_has ls 3 [(2, .int R1.2)] → W p l e (rmF 1 22) s m args below meth c H locs 0 0 Q (F0 m 20 ls [])) → (¬ R1.1 = 0 → ∀ (H : Heap) (locs : List Loc) (ls : Array Slot), va_P D vwCl (wX6_degreeOf g q_o q_o_present q_o_present_denominator q_o_present_numerator q_o_text q_o_trial q_o_history q_o_output q_o_answer q_o_best q_o_present_nodes q_o_present_order q_o_present_sorted q_o_present_weights q_o_present_product o_present_denominator o_present_numerator) H → va_D A (wX6_degreeOf g q_o q_o_present q_o_present_denominator q_o_present_numerator q_o_text q_o_trial q_o_history q_o_output q_o_answer q_o_best q_o_present_nodes q_o_present_order q_o_present_sorted q_o_present_weights q_o_present_product o_present_denominator o_present_numerator) → va_S A s.heap H locs → lv_has ls 3 [] → W p l e (rmF 1 22) s m args below meth c H locs 0 0 Q (F0 m 28 ls [])) → W p l e (rmF 1 22) s m args below meth c H locs 0 0 Q (F0 m 2 ls []) := by
    intro n
    induction n with
    | zero =>
      intro v1_2 R1 h
      have h : none = some R1 := h
      cases h
    | succ n ih1 =>
      intro v1_2 R1 h H locs hP hD hS ls hl K1_0 K1_1
      have h : (if v1_2 < 0 then some ((1 : Nat), v1_2) else (mX0_factor o_present_denominator o_present_numerator p1 v1_2).bind fun r3 => if r3 = 0 then lX6_degreeOf_2 p1 o_present_denominator o_present_numerator n (v1_2 + (-1)) else some ((0 : Nat), v1_2) : Option (Nat × Int32)) = some R1 := h
      refine lv_iload_n hx hb dX6_degreeOf_2 rfl (lv_at hl 2 rfl) ?_
      refine lv_if_lt (tgt := 28) hx hb dX6_degreeOf_3 (by decide) (fun b2 => ?_) (fun b2 => ?_)
      · have h := o_t b2 h
        cases h
        exact K1_1 (show ¬ (1 : Nat) = 0 from by decide) _ _ _ hP hD hS (lv_sub hl [] rfl)
      · have h := o_f b2 h
        refine lv_aload_n hx hb dX6_degreeOf_6 rfl (lv_at hl 0 rfl) ?_
        refine mget X fl_X6_19 hP 0 rfl rfl dX6_degreeOf_7 ?_
        refine lv_iload_n hx hb dX6_degreeOf_10 rfl (lv_at hl 1 rfl) ?_
        refine lv_iload_n hx hb dX6_degreeOf_11 rfl (lv_at hl 2 rfl) ?_
        obtain ⟨r3, c3, h⟩ := o_b h
        refine mcallV X (As := [.int p1, .int v1_2]) (rest := []) (ws1 := wX6_degreeOf g q_o q_o_present q_o_present_denominator q_o_present_numerator q_o_text q_o_trial q_o_history q_o_output q_o_answer q_o_best q_o_present_nodes q_o_present_order q_o_present_sorted q_o_present_weights q_o_present_product o_present_denominator o_present_numerator) (st1 := [.long r3]) (kX0_factor D g x l q_o_present q_o_present_denominator q_o_present_numerator q_o_present_nodes q_o_present_order q_o_present_sorted q_o_present_weights q_o_present_product o_present_denominator o_present_numerator p1 v1_2 r3 c3) mw_X0_factor ml_X6_141 ⟨Nat.le_of_ble_eq_true rfl, Nat.le_of_ble_eq_true rfl⟩ hP hD hS [1, 2, 3] rfl rfl rfl 1 rfl rfl rfl hl.1 rfl (Nat.le_of_ble_eq_true rfl) dX6_degreeOf_12 ⟨Nat.le_refl _, Nat.le_refl _⟩ rfl rfl (fun H locs hP hD hS => ?_)
        refine lv_lconst (v := 0) hx hb dX6_degreeOf_15 (by decide) ?_
        refine W.lcmp hx hb dX6_degreeOf_16 ?_
        refine lv_if_eq (tgt := 22) hx hb dX6_degreeOf_17 (by decide) (fun b4 => ?_) (fun b4 => ?_)
        · have b4 := (lg_cmp_eq _ _).mp b4
          have h := o_t b4 h
          refine lv_iinc (v := v1_2 + (-1)) (lv' := [(2, .int (v1_2 + (-1))), (0, .ref q_o), (1, .int p1)]) hx hb dX6_degreeOf_22 hl (k := 2) rfl rfl (by decide) rfl (fun ls hl => ?_)
          refine lv_goto (tgt := 2) hx hb dX6_degreeOf_25 (by decide) ?_
          exact ih1 (v1_2 + (-1)) _ h _ _ hP hD hS _ (lv_sub hl [1, 2, 0] rfl) K1_0 K1_1
        · have b4 := mt (lg_cmp_eq _ _).mpr b4
          have h := o_f b4 h
          cases h
          exact K1_0 rfl _ _ _ hP hD hS (lv_sub hl [2] rfl)
  obtain ⟨r5, c5, h⟩ := o_b h
  refine lp1 FU 4 r5 c5 _ _ hP hD hS _ (lv_sub hl [1, 2, 0] rfl) (fun t1_0 H locs ls hP hD hS hl => ?_) (fun t1_0 H locs ls hP hD hS hl => ?_)
  · have h := o_t t1_0 h
    refine lv_iload_n hx hb dX6_degreeOf_20 rfl (lv_at hl 0 rfl) ?_
    cases h
    exact fin _ _ _ _ rfl hP hS dX6_degreeOf_21
  · have h := o_f t1_0 h
    refine lv_iconst (v := (-1)) hx hb dX6_degreeOf_28 (by decide) ?_
    cases h
    exact fin _ _ _ _ rfl hP hS dX6_degreeOf_29
abbrev wX6_meets (g : Nat → ClassId) (q_o q_o_answer q_o_present q_o_present_denominator q_o_present_nodes q_o_present_nodes_xs q_o_present_nodes_ys q_o_present_numerator q_o_text q_o_trial q_o_history q_o_output q_o_best q_o_present_order q_o_present_sorted q_o_present_weights q_o_present_product q_o_present_nodes_ws : Nat) (o_answer_top : Int64) (o_answer_bottom : Int64) (o_present_denominator : Nat → Int64) (o_present_nodes_count : Int32) (o_present_nodes_mode : Int32) (o_present_nodes_degree : Int32) (o_present_nodes_xs : Nat → Int32) (o_present_nodes_ys : Nat → Int32) (o_present_numerator : Nat → Int64) : va_W := [(q_o, .inr (6, [.ref q_o_text, .ref q_o_present, .ref q_o_trial, .ref q_o_history, .ref q_o_output, .ref q_o_answer, .ref q_o_best])), (q_o_answer, .inr (1, [.long o_answer_top, .long o_answer_bottom])), (q_o_present, .inr (0, [.ref q_o_present_nodes, .ref q_o_present_order, .ref q_o_present_sorted, .ref q_o_present_weights, .ref q_o_present_numerator, .ref q_o_present_denominator, .ref q_o_present_product])), (q_o_present_denominator, .inl (g 1, 5, .inr (.inl o_present_denominator))), (q_o_present_nodes, .inr (3, [.ref q_o_present_nodes_xs, .ref q_o_present_nodes_ys, .ref q_o_present_nodes_ws, .int o_present_nodes_count, .int o_present_nodes_mode, .int o_present_nodes_degree])), (q_o_present_nodes_xs, .inl (g 0, 5, .inl o_present_nodes_xs)), (q_o_present_nodes_ys, .inl (g 0, 5, .inl o_present_nodes_ys)), (q_o_present_numerator, .inl (g 1, 5, .inr (.inl o_present_numerator)))]
set_option maxHeartbeats 4000000 in
set_option maxRecDepth 100000 in
theorem kX6_meets (D : va_G) (g : Nat → ClassId) (x : Xd) (l : Launch) (q_o q_o_answer q_o_present q_o_present_denominator q_o_present_nodes q_o_present_nodes_xs q_o_present_nodes_ys q_o_present_numerator q_o_text q_o_trial q_o_history q_o_output q_o_best q_o_present_order q_o_present_sorted q_o_present_weights q_o_present_product q_o_present_nodes_ws : Nat) (o_answer_top : Int64) (o_answer_bottom : Int64) (o_present_denominator : Nat → Int64) (o_present_nodes_count : Int32) (o_present_nodes_mode : Int32) (o_present_nodes_degree : Int32) (o_present_nodes_xs : Nat → Int32) (o_present_nodes_ys : Nat → Int32) (o_present_numerator : Nat → Int64) (p1 : Int32) (R : Int32 × Int64 × Int64) (h : mX6_meets o_answer_bottom o_answer_top o_present_denominator o_present_nodes_xs o_present_nodes_ys o_present_numerator p1 = some R) : Cn D g x l yX6_meets cX6_meets 2 (some .boolean) 4 111 [.ref q_o, .int p1] (wX6_meets g q_o q_o_answer q_o_present q_o_present_denominator q_o_present_nodes q_o_present_nodes_xs q_o_present_nodes_ys q_o_present_numerator q_o_text q_o_trial q_o_history q_o_output q_o_best q_o_present_order q_o_present_sorted q_o_present_weights q_o_present_product q_o_present_nodes_ws o_answer_top o_answer_bottom o_present_denominator o_present_nodes_count o_present_nodes_mode o_present_nodes_degree o_present_nodes_xs o_present_nodes_ys o_present_numerator) (wX6_meets g q_o q_o_answer q_o_present q_o_present_denominator q_o_present_nodes q_o_present_nodes_xs q_o_present_nodes_ys q_o_present_numerator q_o_text q_o_trial q_o_history q_o_output q_o_best q_o_present_order q_o_present_sorted q_o_present_weights q_o_present_product q_o_present_nodes_ws R.2.2 R.2.1 o_present_denominator o_present_nodes_count o_present_nodes_mode o_present_nodes_degree o_present_nodes_xs o_present_nodes_ys o_present_numerator) (some (.int R.1)) := by
  refine CnI (by decide +kernel) (Nat.le_of_ble_eq_true rfl) (fun p e s m args below meth c A Q ls X hD hP hS fin hl => ?_)
  obtain ⟨hx, hb, hml, -, -, hown, hts, hK, hA, hE⟩ := id X
  unfold mX6_meets at h
  have hl : lv_has ls 2 [(0, .ref q_o), (1, .int p1)] := hl
  refine lv_aload_n hx hb dX6_meets_0 rfl (lv_at hl 0 rfl) ?_
  refine mget X fl_X6_19 hP 0 rfl rfl dX6_meets_1 ?_
  refine lv_aload_n hx hb dX6_meets_4 rfl (lv_at hl 0 rfl) ?_
  refine mget X fl_X6_19 hP 0 rfl rfl dX6_meets_5 ?_
  refine mget X fl_X6_66 hP 2 rfl rfl dX6_meets_8 ?_
  refine lv_iload_n hx hb dX6_meets_11 rfl (lv_at hl 1 rfl) ?_
  obtain ⟨r1, c1, h⟩ := o_b h
  refine mcallV X (As := [.int p1]) (rest := [.ref q_o_present]) (ws1 := wX6_meets g q_o q_o_answer q_o_present q_o_present_denominator q_o_present_nodes q_o_present_nodes_xs q_o_present_nodes_ys q_o_present_numerator q_o_text q_o_trial q_o_history q_o_output q_o_best q_o_present_order q_o_present_sorted q_o_present_weights q_o_present_product q_o_present_nodes_ws o_answer_top o_answer_bottom o_present_denominator o_present_nodes_count o_present_nodes_mode o_present_nodes_degree o_present_nodes_xs o_present_nodes_ys o_present_numerator) (st1 := [.int r1, .ref q_o_present]) (kX3_xOf D g x l q_o_present_nodes q_o_present_nodes_xs q_o_present_nodes_ys q_o_present_nodes_ws o_present_nodes_count o_present_nodes_mode o_present_nodes_degree o_present_nodes_xs p1 r1 c1) mw_X3_xOf ml_X6_106 ⟨Nat.le_of_ble_eq_true rfl, Nat.le_of_ble_eq_true rfl⟩ hP hD hS [4, 5] rfl rfl rfl 4 rfl rfl rfl hl.1 rfl (Nat.le_of_ble_eq_true rfl) dX6_meets_12 ⟨Nat.le_refl _, Nat.le_refl _⟩ rfl rfl (fun H locs hP hD hS => ?_)
  refine lv_aload_n hx hb dX6_meets_15 rfl (lv_at hl 0 rfl) ?_
  refine mget X fl_X6_43 hP 0 rfl rfl dX6_meets_16 ?_
  obtain ⟨r2, c2, h⟩ := o_b h
  refine mcallV X (As := [.int r1, .ref q_o_answer]) (rest := []) (ws1 := wX6_meets g q_o q_o_answer q_o_present q_o_present_denominator q_o_present_nodes q_o_present_nodes_xs q_o_present_nodes_ys q_o_present_numerator q_o_text q_o_trial q_o_history q_o_output q_o_best q_o_present_order q_o_present_sorted q_o_present_weights q_o_present_product q_o_present_nodes_ws r2.2.2 r2.2.1 o_present_denominator o_present_nodes_count o_present_nodes_mode o_present_nodes_degree o_present_nodes_xs o_present_nodes_ys o_present_numerator) (st1 := [.int r2.1]) (kX0_putValue D g x l q_o_present q_o_present_denominator q_o_present_numerator q_o_answer q_o_present_nodes q_o_present_order q_o_present_sorted q_o_present_weights q_o_present_product o_present_denominator o_present_numerator o_answer_top o_answer_bottom r1 r2 c2) mw_X0_putValue ml_X6_166 ⟨Nat.le_of_ble_eq_true rfl, Nat.le_of_ble_eq_true rfl⟩ hP hD hS [2, 3, 7, 1] rfl rfl rfl 2 rfl rfl rfl hl.1 rfl (Nat.le_of_ble_eq_true rfl) dX6_meets_19 ⟨Nat.le_refl _, Nat.le_refl _⟩ rfl rfl (fun H locs hP hD hS => ?_)
  refine lv_if_eq (tgt := 66) hx hb dX6_meets_22 (by decide) (fun b3 => ?_) (fun b3 => ?_)
  · have h := o_t b3 h
    refine lv_iconst (v := 0) hx hb dX6_meets_66 (by decide) ?_
    cases h
    exact fin _ _ _ _ (nar_z (Or.inl rfl)) hP hS dX6_meets_67
  · have h := o_f b3 h
    refine lv_aload_n hx hb dX6_meets_25 rfl (lv_at hl 0 rfl) ?_
    refine mget X fl_X6_43 hP 0 rfl rfl dX6_meets_26 ?_
    refine lv_iconst (v := 1) hx hb dX6_meets_29 (by decide) ?_
    obtain ⟨r4, c4, h⟩ := o_b h
    refine mcallV X (As := [.int 1]) (rest := []) (ws1 := wX6_meets g q_o q_o_answer q_o_present q_o_present_denominator q_o_present_nodes q_o_present_nodes_xs q_o_present_nodes_ys q_o_present_numerator q_o_text q_o_trial q_o_history q_o_output q_o_best q_o_present_order q_o_present_sorted q_o_present_weights q_o_present_product q_o_present_nodes_ws r2.2.2 r2.2.1 o_present_denominator o_present_nodes_count o_present_nodes_mode o_present_nodes_degree o_present_nodes_xs o_present_nodes_ys o_present_numerator) (st1 := [.long r4]) (kX1_part D g x l q_o_answer r2.2.2 r2.2.1 1 r4 c4) mw_X1_part ml_X6_155 ⟨Nat.le_of_ble_eq_true rfl, Nat.le_of_ble_eq_true rfl⟩ hP hD hS [1] rfl rfl rfl 1 rfl rfl rfl hl.1 rfl (Nat.le_of_ble_eq_true rfl) dX6_meets_30 ⟨Nat.le_refl _, Nat.le_refl _⟩ rfl rfl (fun H locs hP hD hS => ?_)
    refine lv_lconst (v := 1) hx hb dX6_meets_33 (by decide) ?_
    refine W.lcmp hx hb dX6_meets_34 ?_
    refine lv_if_ne (tgt := 66) hx hb dX6_meets_35 (by decide) (fun b5 => ?_) (fun b5 => ?_)
    · have b5 := mt (lg_cmp_eq _ _).mpr b5
      have h := o_f b5 h
      refine lv_iconst (v := 0) hx hb dX6_meets_66 (by decide) ?_
      cases h
      exact fin _ _ _ _ (nar_z (Or.inl rfl)) hP hS dX6_meets_67
    · have b5 := (lg_cmp_eq _ _).mp b5
      have h := o_t b5 h
      refine lv_aload_n hx hb dX6_meets_38 rfl (lv_at hl 0 rfl) ?_
      refine mget X fl_X6_43 hP 0 rfl rfl dX6_meets_39 ?_
      refine lv_iconst (v := 0) hx hb dX6_meets_42 (by decide) ?_
      obtain ⟨r6, c6, h⟩ := o_b h
      refine mcallV X (As := [.int 0]) (rest := []) (ws1 := wX6_meets g q_o q_o_answer q_o_present q_o_present_denominator q_o_present_nodes q_o_present_nodes_xs q_o_present_nodes_ys q_o_present_numerator q_o_text q_o_trial q_o_history q_o_output q_o_best q_o_present_order q_o_present_sorted q_o_present_weights q_o_present_product q_o_present_nodes_ws r2.2.2 r2.2.1 o_present_denominator o_present_nodes_count o_present_nodes_mode o_present_nodes_degree o_present_nodes_xs o_present_nodes_ys o_present_numerator) (st1 := [.long r6]) (kX1_part D g x l q_o_answer r2.2.2 r2.2.1 0 r6 c6) mw_X1_part ml_X6_155 ⟨Nat.le_of_ble_eq_true rfl, Nat.le_of_ble_eq_true rfl⟩ hP hD hS [1] rfl rfl rfl 1 rfl rfl rfl hl.1 rfl (Nat.le_of_ble_eq_true rfl) dX6_meets_43 ⟨Nat.le_refl _, Nat.le_refl _⟩ rfl rfl (fun H locs hP hD hS => ?_)
      refine lv_aload_n hx hb dX6_meets_46 rfl (lv_at hl 0 rfl) ?_
      refine mget X fl_X6_19 hP 0 rfl rfl dX6_meets_47 ?_
      refine mget X fl_X6_66 hP 2 rfl rfl dX6_meets_50 ?_
      refine lv_iload_n hx hb dX6_meets_53 rfl (lv_at hl 1 rfl) ?_
      obtain ⟨r7, c7, h⟩ := o_b h
      refine mcallV X (As := [.int p1]) (rest := [.long r6]) (ws1 := wX6_meets g q_o q_o_answer q_o_present q_o_present_denominator q_o_present_nodes q_o_present_nodes_xs q_o_present_nodes_ys q_o_present_numerator q_o_text q_o_trial q_o_history q_o_output q_o_best q_o_present_order q_o_present_sorted q_o_present_weights q_o_present_product q_o_present_nodes_ws r2.2.2 r2.2.1 o_present_denominator o_present_nodes_count o_present_nodes_mode o_present_nodes_degree o_present_nodes_xs o_present_nodes_ys o_present_numerator) (st1 := [.int r7, .long r6]) (kX3_yOf D g x l q_o_present_nodes q_o_present_nodes_ys q_o_present_nodes_xs q_o_present_nodes_ws o_present_nodes_count o_present_nodes_mode o_present_nodes_degree o_present_nodes_ys p1 r7 c7) mw_X3_yOf ml_X6_110 ⟨Nat.le_of_ble_eq_true rfl, Nat.le_of_ble_eq_true rfl⟩ hP hD hS [4, 6] rfl rfl rfl 4 rfl rfl rfl hl.1 rfl (Nat.le_of_ble_eq_true rfl) dX6_meets_54 ⟨Nat.le_refl _, Nat.le_refl _⟩ rfl rfl (fun H locs hP hD hS => ?_)
      refine lv_i2l (v := Int32.toInt64 r7) hx hb dX6_meets_57 rfl ?_
      refine W.lcmp hx hb dX6_meets_58 ?_
      refine lv_if_ne (tgt := 66) hx hb dX6_meets_59 (by decide) (fun b8 => ?_) (fun b8 => ?_)
      · have b8 := mt (lg_cmp_eq _ _).mpr b8
        have h := o_f b8 h
        refine lv_iconst (v := 0) hx hb dX6_meets_66 (by decide) ?_
        cases h
        exact fin _ _ _ _ (nar_z (Or.inl rfl)) hP hS dX6_meets_67
      · have b8 := (lg_cmp_eq _ _).mp b8
        have h := o_t b8 h
        refine lv_iconst (v := 1) hx hb dX6_meets_62 (by decide) ?_
        refine lv_goto (tgt := 67) hx hb dX6_meets_63 (by decide) ?_
        cases h
        exact fin _ _ _ _ (nar_z (Or.inr rfl)) hP hS dX6_meets_67
abbrev wX6_missed (g : Nat → ClassId) (q_o q_o_answer q_o_present q_o_present_denominator q_o_present_nodes q_o_present_nodes_xs q_o_present_nodes_ys q_o_present_numerator q_o_text q_o_trial q_o_history q_o_output q_o_best q_o_present_order q_o_present_sorted q_o_present_weights q_o_present_product q_o_present_nodes_ws : Nat) (o_answer_top : Int64) (o_answer_bottom : Int64) (o_present_denominator : Nat → Int64) (o_present_nodes_count : Int32) (o_present_nodes_mode : Int32) (o_present_nodes_degree : Int32) (o_present_nodes_xs : Nat → Int32) (o_present_nodes_ys : Nat → Int32) (o_present_numerator : Nat → Int64) : va_W := [(q_o, .inr (6, [.ref q_o_text, .ref q_o_present, .ref q_o_trial, .ref q_o_history, .ref q_o_output, .ref q_o_answer, .ref q_o_best])), (q_o_answer, .inr (1, [.long o_answer_top, .long o_answer_bottom])), (q_o_present, .inr (0, [.ref q_o_present_nodes, .ref q_o_present_order, .ref q_o_present_sorted, .ref q_o_present_weights, .ref q_o_present_numerator, .ref q_o_present_denominator, .ref q_o_present_product])), (q_o_present_denominator, .inl (g 1, 5, .inr (.inl o_present_denominator))), (q_o_present_nodes, .inr (3, [.ref q_o_present_nodes_xs, .ref q_o_present_nodes_ys, .ref q_o_present_nodes_ws, .int o_present_nodes_count, .int o_present_nodes_mode, .int o_present_nodes_degree])), (q_o_present_nodes_xs, .inl (g 0, 5, .inl o_present_nodes_xs)), (q_o_present_nodes_ys, .inl (g 0, 5, .inl o_present_nodes_ys)), (q_o_present_numerator, .inl (g 1, 5, .inr (.inl o_present_numerator)))]
set_option maxHeartbeats 4000000 in
set_option maxRecDepth 100000 in
theorem kX6_missed (D : va_G) (g : Nat → ClassId) (x : Xd) (l : Launch) (q_o q_o_answer q_o_present q_o_present_denominator q_o_present_nodes q_o_present_nodes_xs q_o_present_nodes_ys q_o_present_numerator q_o_text q_o_trial q_o_history q_o_output q_o_best q_o_present_order q_o_present_sorted q_o_present_weights q_o_present_product q_o_present_nodes_ws : Nat) (o_answer_top : Int64) (o_answer_bottom : Int64) (o_present_denominator : Nat → Int64) (o_present_nodes_count : Int32) (o_present_nodes_mode : Int32) (o_present_nodes_degree : Int32) (o_present_nodes_xs : Nat → Int32) (o_present_nodes_ys : Nat → Int32) (o_present_numerator : Nat → Int64) (R : Int32 × Int64 × Int64) (h : mX6_missed o_answer_bottom o_answer_top o_present_denominator o_present_nodes_count o_present_nodes_xs o_present_nodes_ys o_present_numerator = some R) : Cn D g x l yX6_missed cX6_missed 3 (some .int) 5 132 [.ref q_o] (wX6_missed g q_o q_o_answer q_o_present q_o_present_denominator q_o_present_nodes q_o_present_nodes_xs q_o_present_nodes_ys q_o_present_numerator q_o_text q_o_trial q_o_history q_o_output q_o_best q_o_present_order q_o_present_sorted q_o_present_weights q_o_present_product q_o_present_nodes_ws o_answer_top o_answer_bottom o_present_denominator o_present_nodes_count o_present_nodes_mode o_present_nodes_degree o_present_nodes_xs o_present_nodes_ys o_present_numerator) (wX6_missed g q_o q_o_answer q_o_present q_o_present_denominator q_o_present_nodes q_o_present_nodes_xs q_o_present_nodes_ys q_o_present_numerator q_o_text q_o_trial q_o_history q_o_output q_o_best q_o_present_order q_o_present_sorted q_o_present_weights q_o_present_product q_o_present_nodes_ws R.2.2 R.2.1 o_present_denominator o_present_nodes_count o_present_nodes_mode o_present_nodes_degree o_present_nodes_xs o_present_nodes_ys o_present_numerator) (some (.int R.1)) := by
  refine CnI (by decide +kernel) (Nat.le_of_ble_eq_true rfl) (fun p e s m args below meth c A Q ls X hD hP hS fin hl => ?_)
  obtain ⟨hx, hb, hml, -, -, hown, hts, hK, hA, hE⟩ := id X
  unfold mX6_missed at h
  have hl : lv_has ls 3 [(0, .ref q_o)] := hl
  refine lv_iconst (v := 0) hx hb dX6_missed_0 (by decide) ?_
  refine lv_istore_n (lv' := [(1, .int 0), (0, .ref q_o)]) hx hb dX6_missed_1 rfl hl (by decide) rfl (fun ls hl => ?_)
  refine lv_iconst (v := 0) hx hb dX6_missed_2 (by decide) ?_
  refine lv_istore_n (lv' := [(2, .int 0), (1, .int 0), (0, .ref q_o)]) hx hb dX6_missed_3 rfl hl (by decide) rfl (fun ls hl => ?_)
  have lp1 : ∀ (n : Nat) (v1_1 : Int32) (v1_2 : Int32) (u1_o_answer_bottom : Int64) (u1_o_answer_top : Int64) (R1 : Int32 × Int64 × Int64) (h : lX6_missed_4 o_present_denominator o_present_nodes_count o_present_nodes_xs o_present_nodes_ys o_present_numerator n v1_1 v1_2 u1_o_answer_bottom u1_o_answer_top = some R1) (H : Heap) (locs : List Loc), va_P D vwCl (wX6_missed g q_o q_o_answer q_o_present q_o_present_denominator q_o_present_nodes q_o_present_nodes_xs q_o_present_nodes_ys q_o_present_numerator q_o_text q_o_trial q_o_history q_o_output q_o_best q_o_present_order q_o_present_sorted q_o_present_weights q_o_present_product q_o_present_nodes_ws u1_o_answer_top u1_o_answer_bottom o_present_denominator o_present_nodes_count o_present_nodes_mode o_present_nodes_degree o_present_nodes_xs o_present_nodes_ys o_present_numerator) H → va_D A (wX6_missed g q_o q_o_answer q_o_present q_o_present_denominator q_o_present_nodes q_o_present_nodes_xs q_o_present_nodes_ys q_o_present_numerator q_o_text q_o_trial q_o_history q_o_output q_o_best q_o_present_order q_o_present_sorted q_o_present_weights q_o_present_product q_o_present_nodes_ws u1_o_answer_top u1_o_answer_bottom o_present_denominator o_present_nodes_count o_present_nodes_mode o_present_nodes_degree o_present_nodes_xs o_present_nodes_ys o_present_numerator) → va_S A s.heap H locs → ∀ (ls : Array Slot), lv_has ls 3 [(0, .ref q_o), (1, .int v1_1), (2, .int v1_2)] → (∀ (H : Heap) (locs : List Loc) (ls : Array Slot), va_P D vwCl (wX6_missed g q_o q_o_answer q_o_present q_o_present_denominator q_o_present_nodes q_o_present_nodes_xs q_o_present_nodes_ys q_o_present_numerator q_o_text q_o_trial q_o_history q_o_output q_o_best q_o_present_order q_o_present_sorted q_o_present_weights q_o_present_product q_o_present_nodes_ws R1.2.2 R1.2.1 o_present_denominator o_present_nodes_count o_present_nodes_mode o_present_nodes_degree o_present_nodes_xs o_present_nodes_ys o_present_numerator) H → va_D A (wX6_missed g q_o q_o_answer q_o_present q_o_present_denominator q_o_present_nodes q_o_present_nodes_xs q_o_present_nodes_ys q_o_present_numerator q_o_text q_o_trial q_o_history q_o_output q_o_best q_o_present_order q_o_present_sorted q_o_present_weights q_o_present_product q_o_present_nodes_ws R1.2.2 R1.2.1 o_present_denominator o_present_nodes_count o_present_nodes_mode o_present_nodes_degree o_present_nodes_xs o_present_nodes_ys o_present_numerator) → va_S A s.heap H locs → lv_has ls 3 [(1, .int R1.1)] → W p l e (rmF 5 132) s m args below meth c H locs 0 0 Q (F0 m 35 ls [])) → W p l e (rmF 5 132) s m args below meth c H locs 0 0 Q (F0 m 4 ls []) := by
    intro n
    induction n with
    | zero =>
      intro v1_1 v1_2 u1_o_answer_bottom u1_o_answer_top R1 h
      have h : none = some R1 := h
      cases h
    | succ n ih1 =>
      intro v1_1 v1_2 u1_o_answer_bottom u1_o_answer_top R1 h H locs hP hD hS ls hl K1_0
      have h : ((mX3_size o_present_nodes_count).bind fun r2 => if r2 ≤ v1_2 then some (v1_1, u1_o_answer_bottom, u1_o_answer_top) else (mX6_meets u1_o_answer_bottom u1_o_answer_top o_present_denominator o_present_nodes_xs o_present_nodes_ys o_present_numerator v1_2).bind fun r4 => if r4.1 = 0 then lX6_missed_4 o_present_denominator o_present_nodes_count o_present_nodes_xs o_present_nodes_ys o_present_numerator n (v1_1 + 1) (v1_2 + 1) r4.2.1 r4.2.2 else lX6_missed_4 o_present_denominator o_present_nodes_count o_present_nodes_xs o_present_nodes_ys o_present_numerator n v1_1 (v1_2 + 1) r4.2.1 r4.2.2 : Option (Int32 × Int64 × Int64)) = some R1 := h
      refine lv_iload_n hx hb dX6_missed_4 rfl (lv_at hl 2 rfl) ?_
      refine lv_aload_n hx hb dX6_missed_5 rfl (lv_at hl 0 rfl) ?_
      refine mget X fl_X6_19 hP 0 rfl rfl dX6_missed_6 ?_
      refine mget X fl_X6_66 hP 2 rfl rfl dX6_missed_9 ?_
      obtain ⟨r2, c2, h⟩ := o_b h
      refine mcallV X (As := []) (rest := [.int v1_2]) (ws1 := wX6_missed g q_o q_o_answer q_o_present q_o_present_denominator q_o_present_nodes q_o_present_nodes_xs q_o_present_nodes_ys q_o_present_numerator q_o_text q_o_trial q_o_history q_o_output q_o_best q_o_present_order q_o_present_sorted q_o_present_weights q_o_present_product q_o_present_nodes_ws u1_o_answer_top u1_o_answer_bottom o_present_denominator o_present_nodes_count o_present_nodes_mode o_present_nodes_degree o_present_nodes_xs o_present_nodes_ys o_present_numerator) (st1 := [.int r2, .int v1_2]) (kX3_size D g x l q_o_present_nodes q_o_present_nodes_xs q_o_present_nodes_ys q_o_present_nodes_ws o_present_nodes_count o_present_nodes_mode o_present_nodes_degree  r2 c2) mw_X3_size ml_X6_87 ⟨Nat.le_of_ble_eq_true rfl, Nat.le_of_ble_eq_true rfl⟩ hP hD hS [4] rfl rfl rfl 4 rfl rfl rfl hl.1 rfl (Nat.le_of_ble_eq_true rfl) dX6_missed_12 ⟨Nat.le_refl _, Nat.le_refl _⟩ rfl rfl (fun H locs hP hD hS => ?_)
      refine lv_icmp_ge (tgt := 35) hx hb dX6_missed_15 (by decide) (fun b3 => ?_) (fun b3 => ?_)
      · have h := o_t b3 h
        cases h
        exact K1_0  _ _ _ hP hD hS (lv_sub hl [1] rfl)
      · have h := o_f b3 h
        refine lv_aload_n hx hb dX6_missed_18 rfl (lv_at hl 0 rfl) ?_
        refine lv_iload_n hx hb dX6_missed_19 rfl (lv_at hl 2 rfl) ?_
        obtain ⟨r4, c4, h⟩ := o_b h
        refine mcallV X (As := [.int v1_2]) (rest := []) (ws1 := wX6_missed g q_o q_o_answer q_o_present q_o_present_denominator q_o_present_nodes q_o_present_nodes_xs q_o_present_nodes_ys q_o_present_numerator q_o_text q_o_trial q_o_history q_o_output q_o_best q_o_present_order q_o_present_sorted q_o_present_weights q_o_present_product q_o_present_nodes_ws r4.2.2 r4.2.1 o_present_denominator o_present_nodes_count o_present_nodes_mode o_present_nodes_degree o_present_nodes_xs o_present_nodes_ys o_present_numerator) (st1 := [.int r4.1]) (kX6_meets D g x l q_o q_o_answer q_o_present q_o_present_denominator q_o_present_nodes q_o_present_nodes_xs q_o_present_nodes_ys q_o_present_numerator q_o_text q_o_trial q_o_history q_o_output q_o_best q_o_present_order q_o_present_sorted q_o_present_weights q_o_present_product q_o_present_nodes_ws u1_o_answer_top u1_o_answer_bottom o_present_denominator o_present_nodes_count o_present_nodes_mode o_present_nodes_degree o_present_nodes_xs o_present_nodes_ys o_present_numerator v1_2 r4 c4) mw_X6_meets ml_X6_158 ⟨Nat.le_of_ble_eq_true rfl, Nat.le_of_ble_eq_true rfl⟩ hP hD hS [0, 1, 2, 3, 4, 5, 6, 7] rfl rfl rfl 0 rfl rfl rfl hl.1 rfl (Nat.le_of_ble_eq_true rfl) dX6_missed_20 ⟨Nat.le_refl _, Nat.le_refl _⟩ rfl rfl (fun H locs hP hD hS => ?_)
        refine lv_if_ne (tgt := 29) hx hb dX6_missed_23 (by decide) (fun b5 => ?_) (fun b5 => ?_)
        · have h := o_f b5 h
          refine lv_iinc (v := v1_2 + 1) (lv' := [(2, .int (v1_2 + 1)), (0, .ref q_o), (1, .int v1_1)]) hx hb dX6_missed_29 hl (k := 2) rfl rfl (by decide) rfl (fun ls hl => ?_)
          refine lv_goto (tgt := 4) hx hb dX6_missed_32 (by decide) ?_
          exact ih1 v1_1 (v1_2 + 1) r4.2.1 r4.2.2 _ h _ _ hP hD hS _ (lv_sub hl [1, 2, 0] rfl) K1_0
        · have h := o_t b5 h
          refine lv_iinc (v := v1_1 + 1) (lv' := [(1, .int (v1_1 + 1)), (0, .ref q_o), (2, .int v1_2)]) hx hb dX6_missed_26 hl (k := 1) rfl rfl (by decide) rfl (fun ls hl => ?_)
          refine lv_iinc (v := v1_2 + 1) (lv' := [(2, .int (v1_2 + 1)), (1, .int (v1_1 + 1)), (0, .ref q_o)]) hx hb dX6_missed_29 hl (k := 2) rfl rfl (by decide) rfl (fun ls hl => ?_)
          refine lv_goto (tgt := 4) hx hb dX6_missed_32 (by decide) ?_
          exact ih1 (v1_1 + 1) (v1_2 + 1) r4.2.1 r4.2.2 _ h _ _ hP hD hS _ (lv_sub hl [2, 1, 0] rfl) K1_0
  obtain ⟨r6, c6, h⟩ := o_b h
  refine lp1 FU 0 0 o_answer_bottom o_answer_top r6 c6 _ _ hP hD hS _ (lv_sub hl [2, 1, 0] rfl) (fun H locs ls hP hD hS hl => ?_)
  refine lv_iload_n hx hb dX6_missed_35 rfl (lv_at hl 0 rfl) ?_
  cases h
  exact fin _ _ _ _ rfl hP hS dX6_missed_36
abbrev wX6_many (g : Nat → ClassId) (q_o q_o_present q_o_present_denominator q_o_present_numerator q_o_text q_o_trial q_o_history q_o_output q_o_answer q_o_best q_o_present_nodes q_o_present_order q_o_present_sorted q_o_present_weights q_o_present_product : Nat) (o_present_denominator : Nat → Int64) (o_present_numerator : Nat → Int64) : va_W := [(q_o, .inr (6, [.ref q_o_text, .ref q_o_present, .ref q_o_trial, .ref q_o_history, .ref q_o_output, .ref q_o_answer, .ref q_o_best])), (q_o_present, .inr (0, [.ref q_o_present_nodes, .ref q_o_present_order, .ref q_o_present_sorted, .ref q_o_present_weights, .ref q_o_present_numerator, .ref q_o_present_denominator, .ref q_o_present_product])), (q_o_present_denominator, .inl (g 1, 5, .inr (.inl o_present_denominator))), (q_o_present_numerator, .inl (g 1, 5, .inr (.inl o_present_numerator)))]
set_option maxHeartbeats 4000000 in
set_option maxRecDepth 100000 in
theorem kX6_many (D : va_G) (g : Nat → ClassId) (x : Xd) (l : Launch) (q_o q_o_present q_o_present_denominator q_o_present_numerator q_o_text q_o_trial q_o_history q_o_output q_o_answer q_o_best q_o_present_nodes q_o_present_order q_o_present_sorted q_o_present_weights q_o_present_product : Nat) (o_present_denominator : Nat → Int64) (o_present_numerator : Nat → Int64) (p1 : Int32) (R : Int32) (h : mX6_many o_present_denominator o_present_numerator p1 = some R) : Cn D g x l yX6_many cX6_many 4 (some .int) 3 68 [.ref q_o, .int p1] (wX6_many g q_o q_o_present q_o_present_denominator q_o_present_numerator q_o_text q_o_trial q_o_history q_o_output q_o_answer q_o_best q_o_present_nodes q_o_present_order q_o_present_sorted q_o_present_weights q_o_present_product o_present_denominator o_present_numerator) (wX6_many g q_o q_o_present q_o_present_denominator q_o_present_numerator q_o_text q_o_trial q_o_history q_o_output q_o_answer q_o_best q_o_present_nodes q_o_present_order q_o_present_sorted q_o_present_weights q_o_present_product o_present_denominator o_present_numerator) (some (.int R)) := by
  refine CnI (by decide +kernel) (Nat.le_of_ble_eq_true rfl) (fun p e s m args below meth c A Q ls X hD hP hS fin hl => ?_)
  obtain ⟨hx, hb, hml, -, -, hown, hts, hK, hA, hE⟩ := id X
  unfold mX6_many at h
  have hl : lv_has ls 4 [(0, .ref q_o), (1, .int p1)] := hl
  refine lv_iconst (v := 0) hx hb dX6_many_0 (by decide) ?_
  refine lv_istore_n (lv' := [(2, .int 0), (0, .ref q_o), (1, .int p1)]) hx hb dX6_many_1 rfl hl (by decide) rfl (fun ls hl => ?_)
  refine lv_bipush (v := (-12)) hx hb dX6_many_2 (by decide) ?_
  refine lv_istore_n (lv' := [(3, .int ((-12))), (2, .int 0), (0, .ref q_o), (1, .int p1)]) hx hb dX6_many_4 rfl hl (by decide) rfl (fun ls hl => ?_)
  have lp1 : ∀ (n : Nat) (v1_2 : Int32) (v1_3 : Int32) (R1 : Int32) (h : lX6_many_5 p1 o_present_denominator o_present_numerator n v1_2 v1_3 = some R1) (H : Heap) (locs : List Loc), va_P D vwCl (wX6_many g q_o q_o_present q_o_present_denominator q_o_present_numerator q_o_text q_o_trial q_o_history q_o_output q_o_answer q_o_best q_o_present_nodes q_o_present_order q_o_present_sorted q_o_present_weights q_o_present_product o_present_denominator o_present_numerator) H → va_D A (wX6_many g q_o q_o_present q_o_present_denominator q_o_present_numerator q_o_text q_o_trial q_o_history q_o_output q_o_answer q_o_best q_o_present_nodes q_o_present_order q_o_present_sorted q_o_present_weights q_o_present_product o_present_denominator o_present_numerator) → va_S A s.heap H locs → ∀ (ls : Array Slot), lv_has ls 4 [(0, .ref q_o), (1, .int p1), (2, .int v1_2), (3, .int v1_3)] → (∀ (H : Heap) (locs : List Loc) (ls : Array Slot), va_P D vwCl (wX6_many g q_o q_o_present q_o_present_denominator q_o_present_numerator q_o_text q_o_trial q_o_history q_o_output q_o_answer q_o_best q_o_present_nodes q_o_present_order q_o_present_sorted q_o_present_weights q_o_present_product o_present_denominator o_present_numerator) H → va_D A (wX6_many g q_o q_o_present q_o_present_denominator q_o_present_numerator q_o_text q_o_trial q_o_history q_o_output q_o_answer q_o_best q_o_present_nodes q_o_present_order q_o_present_sorted q_o_present_weights q_o_present_product o_present_denominator o_present_numerator) → va_S A s.heap H locs → lv_has ls 4 [(2, .int R1)] → W p l e (rmF 3 68) s m args below meth c H locs 0 0 Q (F0 m 32 ls [])) → W p l e (rmF 3 68) s m args below meth c H locs 0 0 Q (F0 m 5 ls []) := by
    intro n
    induction n with
    | zero =>
      intro v1_2 v1_3 R1 h
      have h : none = some R1 := h
      cases h
    | succ n ih1 =>
      intro v1_2 v1_3 R1 h H locs hP hD hS ls hl K1_0
      have h : (if 12 < v1_3 then some v1_2 else (mX0_kindOf o_present_denominator o_present_numerator v1_3).bind fun r3 => if r3 = p1 then lX6_many_5 p1 o_present_denominator o_present_numerator n (v1_2 + 1) (v1_3 + 1) else lX6_many_5 p1 o_present_denominator o_present_numerator n v1_2 (v1_3 + 1) : Option (Int32)) = some R1 := h
      refine lv_iload_n hx hb dX6_many_5 rfl (lv_at hl 3 rfl) ?_
      refine lv_bipush (v := 12) hx hb dX6_many_6 (by decide) ?_
      refine lv_icmp_gt (tgt := 32) hx hb dX6_many_8 (by decide) (fun b2 => ?_) (fun b2 => ?_)
      · have h := o_t b2 h
        cases h
        exact K1_0  _ _ _ hP hD hS (lv_sub hl [2] rfl)
      · have h := o_f b2 h
        refine lv_aload_n hx hb dX6_many_11 rfl (lv_at hl 0 rfl) ?_
        refine mget X fl_X6_19 hP 0 rfl rfl dX6_many_12 ?_
        refine lv_iload_n hx hb dX6_many_15 rfl (lv_at hl 3 rfl) ?_
        obtain ⟨r3, c3, h⟩ := o_b h
        refine mcallV X (As := [.int v1_3]) (rest := []) (ws1 := wX6_many g q_o q_o_present q_o_present_denominator q_o_present_numerator q_o_text q_o_trial q_o_history q_o_output q_o_answer q_o_best q_o_present_nodes q_o_present_order q_o_present_sorted q_o_present_weights q_o_present_product o_present_denominator o_present_numerator) (st1 := [.int r3]) (kX0_kindOf D g x l q_o_present q_o_present_denominator q_o_present_numerator q_o_present_nodes q_o_present_order q_o_present_sorted q_o_present_weights q_o_present_product o_present_denominator o_present_numerator v1_3 r3 c3) mw_X0_kindOf ml_X6_145 ⟨Nat.le_of_ble_eq_true rfl, Nat.le_of_ble_eq_true rfl⟩ hP hD hS [1, 2, 3] rfl rfl rfl 1 rfl rfl rfl hl.1 rfl (Nat.le_of_ble_eq_true rfl) dX6_many_16 ⟨Nat.le_refl _, Nat.le_refl _⟩ rfl rfl (fun H locs hP hD hS => ?_)
        refine lv_iload_n hx hb dX6_many_19 rfl (lv_at hl 1 rfl) ?_
        refine lv_icmp_ne (tgt := 26) hx hb dX6_many_20 (by decide) (fun b4 => ?_) (fun b4 => ?_)
        · have h := o_f b4 h
          refine lv_iinc (v := v1_3 + 1) (lv' := [(3, .int (v1_3 + 1)), (0, .ref q_o), (1, .int p1), (2, .int v1_2)]) hx hb dX6_many_26 hl (k := 3) rfl rfl (by decide) rfl (fun ls hl => ?_)
          refine lv_goto (tgt := 5) hx hb dX6_many_29 (by decide) ?_
          exact ih1 v1_2 (v1_3 + 1) _ h _ _ hP hD hS _ (lv_sub hl [1, 2, 3, 0] rfl) K1_0
        · have h := o_t b4 h
          refine lv_iinc (v := v1_2 + 1) (lv' := [(2, .int (v1_2 + 1)), (0, .ref q_o), (1, .int p1), (3, .int v1_3)]) hx hb dX6_many_23 hl (k := 2) rfl rfl (by decide) rfl (fun ls hl => ?_)
          refine lv_iinc (v := v1_3 + 1) (lv' := [(3, .int (v1_3 + 1)), (2, .int (v1_2 + 1)), (0, .ref q_o), (1, .int p1)]) hx hb dX6_many_26 hl (k := 3) rfl rfl (by decide) rfl (fun ls hl => ?_)
          refine lv_goto (tgt := 5) hx hb dX6_many_29 (by decide) ?_
          exact ih1 (v1_2 + 1) (v1_3 + 1) _ h _ _ hP hD hS _ (lv_sub hl [2, 3, 1, 0] rfl) K1_0
  obtain ⟨r5, c5, h⟩ := o_b h
  refine lp1 FU 0 ((-12)) r5 c5 _ _ hP hD hS _ (lv_sub hl [2, 3, 1, 0] rfl) (fun H locs ls hP hD hS hl => ?_)
  refine lv_iload_n hx hb dX6_many_32 rfl (lv_at hl 0 rfl) ?_
  cases h
  exact fin _ _ _ _ rfl hP hS dX6_many_33
abbrev wX6_hiddenPoles (g : Nat → ClassId) (q_o q_o_present q_o_present_denominator q_o_present_numerator q_o_text q_o_trial q_o_history q_o_output q_o_answer q_o_best q_o_present_nodes q_o_present_order q_o_present_sorted q_o_present_weights q_o_present_product : Nat) (o_present_denominator : Nat → Int64) (o_present_numerator : Nat → Int64) : va_W := [(q_o, .inr (6, [.ref q_o_text, .ref q_o_present, .ref q_o_trial, .ref q_o_history, .ref q_o_output, .ref q_o_answer, .ref q_o_best])), (q_o_present, .inr (0, [.ref q_o_present_nodes, .ref q_o_present_order, .ref q_o_present_sorted, .ref q_o_present_weights, .ref q_o_present_numerator, .ref q_o_present_denominator, .ref q_o_present_product])), (q_o_present_denominator, .inl (g 1, 5, .inr (.inl o_present_denominator))), (q_o_present_numerator, .inl (g 1, 5, .inr (.inl o_present_numerator)))]
set_option maxHeartbeats 4000000 in
set_option maxRecDepth 100000 in
theorem kX6_hiddenPoles (D : va_G) (g : Nat → ClassId) (x : Xd) (l : Launch) (q_o q_o_present q_o_present_denominator q_o_present_numerator q_o_text q_o_trial q_o_history q_o_output q_o_answer q_o_best q_o_present_nodes q_o_present_order q_o_present_sorted q_o_present_weights q_o_present_product : Nat) (o_present_denominator : Nat → Int64) (o_present_numerator : Nat → Int64) (R : Int32) (h : mX6_hiddenPoles o_present_denominator o_present_numerator = some R) : Cn D g x l yX6_hiddenPoles cX6_hiddenPoles 3 (some .int) 3 72 [.ref q_o] (wX6_hiddenPoles g q_o q_o_present q_o_present_denominator q_o_present_numerator q_o_text q_o_trial q_o_history q_o_output q_o_answer q_o_best q_o_present_nodes q_o_present_order q_o_present_sorted q_o_present_weights q_o_present_product o_present_denominator o_present_numerator) (wX6_hiddenPoles g q_o q_o_present q_o_present_denominator q_o_present_numerator q_o_text q_o_trial q_o_history q_o_output q_o_answer q_o_best q_o_present_nodes q_o_present_order q_o_present_sorted q_o_present_weights q_o_present_product o_present_denominator o_present_numerator) (some (.int R)) := by
  refine CnI (by decide +kernel) (Nat.le_of_ble_eq_true rfl) (fun p e s m args below meth c A Q ls X hD hP hS fin hl => ?_)
  obtain ⟨hx, hb, hml, -, -, hown, hts, hK, hA, hE⟩ := id X
  unfold mX6_hiddenPoles at h
  have hl : lv_has ls 3 [(0, .ref q_o)] := hl
  refine lv_iconst (v := 0) hx hb dX6_hiddenPoles_0 (by decide) ?_
  refine lv_istore_n (lv' := [(1, .int 0), (0, .ref q_o)]) hx hb dX6_hiddenPoles_1 rfl hl (by decide) rfl (fun ls hl => ?_)
  refine lv_bipush (v := (-12)) hx hb dX6_hiddenPoles_2 (by decide) ?_
  refine lv_istore_n (lv' := [(2, .int ((-12))), (1, .int 0), (0, .ref q_o)]) hx hb dX6_hiddenPoles_4 rfl hl (by decide) rfl (fun ls hl => ?_)
  have lp1 : ∀ (n : Nat) (v1_1 : Int32) (v1_2 : Int32) (R1 : Int32) (h : lX6_hiddenPoles_5 o_present_denominator o_present_numerator n v1_1 v1_2 = some R1) (H : Heap) (locs : List Loc), va_P D vwCl (wX6_hiddenPoles g q_o q_o_present q_o_present_denominator q_o_present_numerator q_o_text q_o_trial q_o_history q_o_output q_o_answer q_o_best q_o_present_nodes q_o_present_order q_o_present_sorted q_o_present_weights q_o_present_product o_present_denominator o_present_numerator) H → va_D A (wX6_hiddenPoles g q_o q_o_present q_o_present_denominator q_o_present_numerator q_o_text q_o_trial q_o_history q_o_output q_o_answer q_o_best q_o_present_nodes q_o_present_order q_o_present_sorted q_o_present_weights q_o_present_product o_present_denominator o_present_numerator) → va_S A s.heap H locs → ∀ (ls : Array Slot), lv_has ls 3 [(0, .ref q_o), (1, .int v1_1), (2, .int v1_2)] → (∀ (H : Heap) (locs : List Loc) (ls : Array Slot), va_P D vwCl (wX6_hiddenPoles g q_o q_o_present q_o_present_denominator q_o_present_numerator q_o_text q_o_trial q_o_history q_o_output q_o_answer q_o_best q_o_present_nodes q_o_present_order q_o_present_sorted q_o_present_weights q_o_present_product o_present_denominator o_present_numerator) H → va_D A (wX6_hiddenPoles g q_o q_o_present q_o_present_denominator q_o_present_numerator q_o_text q_o_trial q_o_history q_o_output q_o_answer q_o_best q_o_present_nodes q_o_present_order q_o_present_sorted q_o_present_weights q_o_present_product o_present_denominator o_present_numerator) → va_S A s.heap H locs → lv_has ls 3 [(1, .int R1)] → W p l e (rmF 3 72) s m args below meth c H locs 0 0 Q (F0 m 31 ls [])) → W p l e (rmF 3 72) s m args below meth c H locs 0 0 Q (F0 m 5 ls []) := by
    intro n
    induction n with
    | zero =>
      intro v1_1 v1_2 R1 h
      have h : none = some R1 := h
      cases h
    | succ n ih1 =>
      intro v1_1 v1_2 R1 h H locs hP hD hS ls hl K1_0
      have h : (if 12 ≤ v1_2 then some v1_1 else (mX0_hidesPoleBehind o_present_denominator o_present_numerator v1_2).bind fun r3 => if r3 = 0 then lX6_hiddenPoles_5 o_present_denominator o_present_numerator n v1_1 (v1_2 + 1) else lX6_hiddenPoles_5 o_present_denominator o_present_numerator n (v1_1 + 1) (v1_2 + 1) : Option (Int32)) = some R1 := h
      refine lv_iload_n hx hb dX6_hiddenPoles_5 rfl (lv_at hl 2 rfl) ?_
      refine lv_bipush (v := 12) hx hb dX6_hiddenPoles_6 (by decide) ?_
      refine lv_icmp_ge (tgt := 31) hx hb dX6_hiddenPoles_8 (by decide) (fun b2 => ?_) (fun b2 => ?_)
      · have h := o_t b2 h
        cases h
        exact K1_0  _ _ _ hP hD hS (lv_sub hl [1] rfl)
      · have h := o_f b2 h
        refine lv_aload_n hx hb dX6_hiddenPoles_11 rfl (lv_at hl 0 rfl) ?_
        refine mget X fl_X6_19 hP 0 rfl rfl dX6_hiddenPoles_12 ?_
        refine lv_iload_n hx hb dX6_hiddenPoles_15 rfl (lv_at hl 2 rfl) ?_
        obtain ⟨r3, c3, h⟩ := o_b h
        refine mcallV X (As := [.int v1_2]) (rest := []) (ws1 := wX6_hiddenPoles g q_o q_o_present q_o_present_denominator q_o_present_numerator q_o_text q_o_trial q_o_history q_o_output q_o_answer q_o_best q_o_present_nodes q_o_present_order q_o_present_sorted q_o_present_weights q_o_present_product o_present_denominator o_present_numerator) (st1 := [.int r3]) (kX0_hidesPoleBehind D g x l q_o_present q_o_present_denominator q_o_present_numerator q_o_present_nodes q_o_present_order q_o_present_sorted q_o_present_weights q_o_present_product o_present_denominator o_present_numerator v1_2 r3 c3) mw_X0_hidesPoleBehind ml_X6_161 ⟨Nat.le_of_ble_eq_true rfl, Nat.le_of_ble_eq_true rfl⟩ hP hD hS [1, 2, 3] rfl rfl rfl 1 rfl rfl rfl hl.1 rfl (Nat.le_of_ble_eq_true rfl) dX6_hiddenPoles_16 ⟨Nat.le_refl _, Nat.le_refl _⟩ rfl rfl (fun H locs hP hD hS => ?_)
        refine lv_if_eq (tgt := 25) hx hb dX6_hiddenPoles_19 (by decide) (fun b4 => ?_) (fun b4 => ?_)
        · have h := o_t b4 h
          refine lv_iinc (v := v1_2 + 1) (lv' := [(2, .int (v1_2 + 1)), (0, .ref q_o), (1, .int v1_1)]) hx hb dX6_hiddenPoles_25 hl (k := 2) rfl rfl (by decide) rfl (fun ls hl => ?_)
          refine lv_goto (tgt := 5) hx hb dX6_hiddenPoles_28 (by decide) ?_
          exact ih1 v1_1 (v1_2 + 1) _ h _ _ hP hD hS _ (lv_sub hl [1, 2, 0] rfl) K1_0
        · have h := o_f b4 h
          refine lv_iinc (v := v1_1 + 1) (lv' := [(1, .int (v1_1 + 1)), (0, .ref q_o), (2, .int v1_2)]) hx hb dX6_hiddenPoles_22 hl (k := 1) rfl rfl (by decide) rfl (fun ls hl => ?_)
          refine lv_iinc (v := v1_2 + 1) (lv' := [(2, .int (v1_2 + 1)), (1, .int (v1_1 + 1)), (0, .ref q_o)]) hx hb dX6_hiddenPoles_25 hl (k := 2) rfl rfl (by decide) rfl (fun ls hl => ?_)
          refine lv_goto (tgt := 5) hx hb dX6_hiddenPoles_28 (by decide) ?_
          exact ih1 (v1_1 + 1) (v1_2 + 1) _ h _ _ hP hD hS _ (lv_sub hl [2, 1, 0] rfl) K1_0
  obtain ⟨r5, c5, h⟩ := o_b h
  refine lp1 FU 0 ((-12)) r5 c5 _ _ hP hD hS _ (lv_sub hl [2, 1, 0] rfl) (fun H locs ls hP hD hS hl => ?_)
  refine lv_iload_n hx hb dX6_hiddenPoles_31 rfl (lv_at hl 0 rfl) ?_
  cases h
  exact fin _ _ _ _ rfl hP hS dX6_hiddenPoles_32
abbrev wX6_write (g : Nat → ClassId) (q_o q_o_output q_o_output_signs q_o_present q_o_present_denominator q_o_present_numerator q_o_text q_o_trial q_o_history q_o_answer q_o_best q_o_present_nodes q_o_present_order q_o_present_sorted q_o_present_weights q_o_present_product : Nat) (o_output_count : Int32) (o_output_signs : Nat → Int32) (o_present_denominator : Nat → Int64) (o_present_numerator : Nat → Int64) : va_W := [(q_o, .inr (6, [.ref q_o_text, .ref q_o_present, .ref q_o_trial, .ref q_o_history, .ref q_o_output, .ref q_o_answer, .ref q_o_best])), (q_o_output, .inr (4, [.ref q_o_output_signs, .int o_output_count])), (q_o_output_signs, .inl (g 2, 320, .inl o_output_signs)), (q_o_present, .inr (0, [.ref q_o_present_nodes, .ref q_o_present_order, .ref q_o_present_sorted, .ref q_o_present_weights, .ref q_o_present_numerator, .ref q_o_present_denominator, .ref q_o_present_product])), (q_o_present_denominator, .inl (g 1, 5, .inr (.inl o_present_denominator))), (q_o_present_numerator, .inl (g 1, 5, .inr (.inl o_present_numerator)))]
set_option maxHeartbeats 4000000 in
set_option maxRecDepth 100000 in
theorem kX6_write (D : va_G) (g : Nat → ClassId) (x : Xd) (l : Launch) (q_o q_o_output q_o_output_signs q_o_present q_o_present_denominator q_o_present_numerator q_o_text q_o_trial q_o_history q_o_answer q_o_best q_o_present_nodes q_o_present_order q_o_present_sorted q_o_present_weights q_o_present_product : Nat) (o_output_count : Int32) (o_output_signs : Nat → Int32) (o_present_denominator : Nat → Int64) (o_present_numerator : Nat → Int64) (p1 : Int32) (R : Int32 × Int32 × (Nat → Int32)) (h : mX6_write o_output_count o_output_signs o_present_denominator o_present_numerator p1 = some R) : Cn D g x l yX6_write cX6_write 3 (some .int) 3 71 [.ref q_o, .int p1] (wX6_write g q_o q_o_output q_o_output_signs q_o_present q_o_present_denominator q_o_present_numerator q_o_text q_o_trial q_o_history q_o_answer q_o_best q_o_present_nodes q_o_present_order q_o_present_sorted q_o_present_weights q_o_present_product o_output_count o_output_signs o_present_denominator o_present_numerator) (wX6_write g q_o q_o_output q_o_output_signs q_o_present q_o_present_denominator q_o_present_numerator q_o_text q_o_trial q_o_history q_o_answer q_o_best q_o_present_nodes q_o_present_order q_o_present_sorted q_o_present_weights q_o_present_product R.2.1 R.2.2 o_present_denominator o_present_numerator) (some (.int R.1)) := by
  refine CnI (by decide +kernel) (Nat.le_of_ble_eq_true rfl) (fun p e s m args below meth c A Q ls X hD hP hS fin hl => ?_)
  obtain ⟨hx, hb, hml, -, -, hown, hts, hK, hA, hE⟩ := id X
  unfold mX6_write at h
  have hl : lv_has ls 3 [(0, .ref q_o), (1, .int p1)] := hl
  refine lv_aload_n hx hb dX6_write_0 rfl (lv_at hl 0 rfl) ?_
  refine mget X fl_X6_36 hP 0 rfl rfl dX6_write_1 ?_
  obtain ⟨r1, c1, h⟩ := o_b h
  refine mcallV X (As := []) (rest := []) (ws1 := wX6_write g q_o q_o_output q_o_output_signs q_o_present q_o_present_denominator q_o_present_numerator q_o_text q_o_trial q_o_history q_o_answer q_o_best q_o_present_nodes q_o_present_order q_o_present_sorted q_o_present_weights q_o_present_product r1 o_output_signs o_present_denominator o_present_numerator) (st1 := []) (kX4_clear D g x l q_o_output q_o_output_signs o_output_count  r1 c1) mw_X4_clear ml_X6_242 ⟨Nat.le_of_ble_eq_true rfl, Nat.le_of_ble_eq_true rfl⟩ hP hD hS [1] rfl rfl rfl 1 rfl rfl rfl hl.1 rfl (Nat.le_of_ble_eq_true rfl) dX6_write_4 ⟨Nat.le_refl _, Nat.le_refl _⟩ rfl rfl (fun H locs hP hD hS => ?_)
  refine lv_iconst (v := 4) hx hb dX6_write_7 (by decide) ?_
  refine lv_istore_n (lv' := [(2, .int 4), (0, .ref q_o), (1, .int p1)]) hx hb dX6_write_8 rfl hl (by decide) rfl (fun ls hl => ?_)
  have lp2 : ∀ (n : Nat) (v2_2 : Int32) (u2_o_output_count : Int32) (u2_o_output_signs : Nat → Int32) (R2 : Int32 × (Nat → Int32)) (h : lX6_write_9 p1 o_present_denominator o_present_numerator n v2_2 u2_o_output_count u2_o_output_signs = some R2) (H : Heap) (locs : List Loc), va_P D vwCl (wX6_write g q_o q_o_output q_o_output_signs q_o_present q_o_present_denominator q_o_present_numerator q_o_text q_o_trial q_o_history q_o_answer q_o_best q_o_present_nodes q_o_present_order q_o_present_sorted q_o_present_weights q_o_present_product u2_o_output_count u2_o_output_signs o_present_denominator o_present_numerator) H → va_D A (wX6_write g q_o q_o_output q_o_output_signs q_o_present q_o_present_denominator q_o_present_numerator q_o_text q_o_trial q_o_history q_o_answer q_o_best q_o_present_nodes q_o_present_order q_o_present_sorted q_o_present_weights q_o_present_product u2_o_output_count u2_o_output_signs o_present_denominator o_present_numerator) → va_S A s.heap H locs → ∀ (ls : Array Slot), lv_has ls 3 [(0, .ref q_o), (1, .int p1), (2, .int v2_2)] → (∀ (H : Heap) (locs : List Loc) (ls : Array Slot), va_P D vwCl (wX6_write g q_o q_o_output q_o_output_signs q_o_present q_o_present_denominator q_o_present_numerator q_o_text q_o_trial q_o_history q_o_answer q_o_best q_o_present_nodes q_o_present_order q_o_present_sorted q_o_present_weights q_o_present_product R2.1 R2.2 o_present_denominator o_present_numerator) H → va_D A (wX6_write g q_o q_o_output q_o_output_signs q_o_present q_o_present_denominator q_o_present_numerator q_o_text q_o_trial q_o_history q_o_answer q_o_best q_o_present_nodes q_o_present_order q_o_present_sorted q_o_present_weights q_o_present_product R2.1 R2.2 o_present_denominator o_present_numerator) → va_S A s.heap H locs → lv_has ls 3 [(0, .ref q_o)] → W p l e (rmF 3 71) s m args below meth c H locs 0 0 Q (F0 m 36 ls [])) → W p l e (rmF 3 71) s m args below meth c H locs 0 0 Q (F0 m 9 ls []) := by
    intro n
    induction n with
    | zero =>
      intro v2_2 u2_o_output_count u2_o_output_signs R2 h
      have h : none = some R2 := h
      cases h
    | succ n ih2 =>
      intro v2_2 u2_o_output_count u2_o_output_signs R2 h H locs hP hD hS ls hl K2_0
      have h : (if v2_2 < 0 then some (u2_o_output_count, u2_o_output_signs) else (mX0_factor o_present_denominator o_present_numerator p1 v2_2).bind fun r4 => (mX4_putTerm u2_o_output_count u2_o_output_signs r4 v2_2).bind fun r5 => lX6_write_9 p1 o_present_denominator o_present_numerator n (v2_2 + (-1)) r5.1 r5.2 : Option (Int32 × (Nat → Int32))) = some R2 := h
      refine lv_iload_n hx hb dX6_write_9 rfl (lv_at hl 2 rfl) ?_
      refine lv_if_lt (tgt := 36) hx hb dX6_write_10 (by decide) (fun b3 => ?_) (fun b3 => ?_)
      · have h := o_t b3 h
        cases h
        exact K2_0  _ _ _ hP hD hS (lv_sub hl [0] rfl)
      · have h := o_f b3 h
        refine lv_aload_n hx hb dX6_write_13 rfl (lv_at hl 0 rfl) ?_
        refine mget X fl_X6_36 hP 0 rfl rfl dX6_write_14 ?_
        refine lv_aload_n hx hb dX6_write_17 rfl (lv_at hl 0 rfl) ?_
        refine mget X fl_X6_19 hP 0 rfl rfl dX6_write_18 ?_
        refine lv_iload_n hx hb dX6_write_21 rfl (lv_at hl 1 rfl) ?_
        refine lv_iload_n hx hb dX6_write_22 rfl (lv_at hl 2 rfl) ?_
        obtain ⟨r4, c4, h⟩ := o_b h
        refine mcallV X (As := [.int p1, .int v2_2]) (rest := [.ref q_o_output]) (ws1 := wX6_write g q_o q_o_output q_o_output_signs q_o_present q_o_present_denominator q_o_present_numerator q_o_text q_o_trial q_o_history q_o_answer q_o_best q_o_present_nodes q_o_present_order q_o_present_sorted q_o_present_weights q_o_present_product u2_o_output_count u2_o_output_signs o_present_denominator o_present_numerator) (st1 := [.long r4, .ref q_o_output]) (kX0_factor D g x l q_o_present q_o_present_denominator q_o_present_numerator q_o_present_nodes q_o_present_order q_o_present_sorted q_o_present_weights q_o_present_product o_present_denominator o_present_numerator p1 v2_2 r4 c4) mw_X0_factor ml_X6_141 ⟨Nat.le_of_ble_eq_true rfl, Nat.le_of_ble_eq_true rfl⟩ hP hD hS [3, 4, 5] rfl rfl rfl 3 rfl rfl rfl hl.1 rfl (Nat.le_of_ble_eq_true rfl) dX6_write_23 ⟨Nat.le_refl _, Nat.le_refl _⟩ rfl rfl (fun H locs hP hD hS => ?_)
        refine lv_iload_n hx hb dX6_write_26 rfl (lv_at hl 2 rfl) ?_
        obtain ⟨r5, c5, h⟩ := o_b h
        refine mcallV X (As := [.long r4, .int v2_2]) (rest := []) (ws1 := wX6_write g q_o q_o_output q_o_output_signs q_o_present q_o_present_denominator q_o_present_numerator q_o_text q_o_trial q_o_history q_o_answer q_o_best q_o_present_nodes q_o_present_order q_o_present_sorted q_o_present_weights q_o_present_product r5.1 r5.2 o_present_denominator o_present_numerator) (st1 := []) (kX4_putTerm D g x l q_o_output q_o_output_signs u2_o_output_count u2_o_output_signs r4 v2_2 r5 c5) mw_X4_putTerm ml_X6_243 ⟨Nat.le_of_ble_eq_true rfl, Nat.le_of_ble_eq_true rfl⟩ hP hD hS [1, 2] rfl rfl rfl 1 rfl rfl rfl hl.1 rfl (Nat.le_of_ble_eq_true rfl) dX6_write_27 ⟨Nat.le_refl _, Nat.le_refl _⟩ rfl rfl (fun H locs hP hD hS => ?_)
        refine lv_iinc (v := v2_2 + (-1)) (lv' := [(2, .int (v2_2 + (-1))), (0, .ref q_o), (1, .int p1)]) hx hb dX6_write_30 hl (k := 2) rfl rfl (by decide) rfl (fun ls hl => ?_)
        refine lv_goto (tgt := 9) hx hb dX6_write_33 (by decide) ?_
        exact ih2 (v2_2 + (-1)) r5.1 r5.2 _ h _ _ hP hD hS _ (lv_sub hl [1, 2, 0] rfl) K2_0
  obtain ⟨r6, c6, h⟩ := o_b h
  refine lp2 FU 4 r1 o_output_signs r6 c6 _ _ hP hD hS _ (lv_sub hl [1, 2, 0] rfl) (fun H locs ls hP hD hS hl => ?_)
  refine lv_aload_n hx hb dX6_write_36 rfl (lv_at hl 0 rfl) ?_
  refine mget X fl_X6_36 hP 0 rfl rfl dX6_write_37 ?_
  obtain ⟨r7, c7, h⟩ := o_b h
  refine mcallV X (As := []) (rest := []) (ws1 := wX6_write g q_o q_o_output q_o_output_signs q_o_present q_o_present_denominator q_o_present_numerator q_o_text q_o_trial q_o_history q_o_answer q_o_best q_o_present_nodes q_o_present_order q_o_present_sorted q_o_present_weights q_o_present_product r6.1 r6.2 o_present_denominator o_present_numerator) (st1 := [.int r7]) (kX4_size D g x l q_o_output q_o_output_signs r6.1  r7 c7) mw_X4_size ml_X6_247 ⟨Nat.le_of_ble_eq_true rfl, Nat.le_of_ble_eq_true rfl⟩ hP hD hS [1] rfl rfl rfl 1 rfl rfl rfl hl.1 rfl (Nat.le_of_ble_eq_true rfl) dX6_write_40 ⟨Nat.le_refl _, Nat.le_refl _⟩ rfl rfl (fun H locs hP hD hS => ?_)
  refine lv_if_ne (tgt := 55) hx hb dX6_write_43 (by decide) (fun b8 => ?_) (fun b8 => ?_)
  · have h := o_f b8 h
    refine lv_aload_n hx hb dX6_write_55 rfl (lv_at hl 0 rfl) ?_
    refine mget X fl_X6_36 hP 0 rfl rfl dX6_write_56 ?_
    obtain ⟨r9, c9, h⟩ := o_b h
    refine mcallV X (As := []) (rest := []) (ws1 := wX6_write g q_o q_o_output q_o_output_signs q_o_present q_o_present_denominator q_o_present_numerator q_o_text q_o_trial q_o_history q_o_answer q_o_best q_o_present_nodes q_o_present_order q_o_present_sorted q_o_present_weights q_o_present_product r6.1 r6.2 o_present_denominator o_present_numerator) (st1 := [.int r9]) (kX4_size D g x l q_o_output q_o_output_signs r6.1  r9 c9) mw_X4_size ml_X6_247 ⟨Nat.le_of_ble_eq_true rfl, Nat.le_of_ble_eq_true rfl⟩ hP hD hS [1] rfl rfl rfl 1 rfl rfl rfl hl.1 rfl (Nat.le_of_ble_eq_true rfl) dX6_write_59 ⟨Nat.le_refl _, Nat.le_refl _⟩ rfl rfl (fun H locs hP hD hS => ?_)
    cases h
    exact fin _ _ _ _ rfl hP hS dX6_write_62
  · have h := o_t b8 h
    refine lv_aload_n hx hb dX6_write_46 rfl (lv_at hl 0 rfl) ?_
    refine mget X fl_X6_36 hP 0 rfl rfl dX6_write_47 ?_
    refine lv_bipush (v := 48) hx hb dX6_write_50 (by decide) ?_
    obtain ⟨r10, c10, h⟩ := o_b h
    refine mcallV X (As := [.int 48]) (rest := []) (ws1 := wX6_write g q_o q_o_output q_o_output_signs q_o_present q_o_present_denominator q_o_present_numerator q_o_text q_o_trial q_o_history q_o_answer q_o_best q_o_present_nodes q_o_present_order q_o_present_sorted q_o_present_weights q_o_present_product r10.1 r10.2 o_present_denominator o_present_numerator) (st1 := []) (kX4_put D g x l q_o_output q_o_output_signs r6.1 r6.2 48 r10 c10) mw_X4_put ml_X6_248 ⟨Nat.le_of_ble_eq_true rfl, Nat.le_of_ble_eq_true rfl⟩ hP hD hS [1, 2] rfl rfl rfl 1 rfl rfl rfl hl.1 rfl (Nat.le_of_ble_eq_true rfl) dX6_write_52 ⟨Nat.le_refl _, Nat.le_refl _⟩ rfl rfl (fun H locs hP hD hS => ?_)
    refine lv_aload_n hx hb dX6_write_55 rfl (lv_at hl 0 rfl) ?_
    refine mget X fl_X6_36 hP 0 rfl rfl dX6_write_56 ?_
    obtain ⟨r11, c11, h⟩ := o_b h
    refine mcallV X (As := []) (rest := []) (ws1 := wX6_write g q_o q_o_output q_o_output_signs q_o_present q_o_present_denominator q_o_present_numerator q_o_text q_o_trial q_o_history q_o_answer q_o_best q_o_present_nodes q_o_present_order q_o_present_sorted q_o_present_weights q_o_present_product r10.1 r10.2 o_present_denominator o_present_numerator) (st1 := [.int r11]) (kX4_size D g x l q_o_output q_o_output_signs r10.1  r11 c11) mw_X4_size ml_X6_247 ⟨Nat.le_of_ble_eq_true rfl, Nat.le_of_ble_eq_true rfl⟩ hP hD hS [1] rfl rfl rfl 1 rfl rfl rfl hl.1 rfl (Nat.le_of_ble_eq_true rfl) dX6_write_59 ⟨Nat.le_refl _, Nat.le_refl _⟩ rfl rfl (fun H locs hP hD hS => ?_)
    cases h
    exact fin _ _ _ _ rfl hP hS dX6_write_62
abbrev wX6_writeValues (g : Nat → ClassId) (q_o q_o_answer q_o_output q_o_output_signs q_o_present q_o_present_denominator q_o_present_numerator q_o_text q_o_trial q_o_history q_o_best q_o_present_nodes q_o_present_order q_o_present_sorted q_o_present_weights q_o_present_product : Nat) (o_answer_top : Int64) (o_answer_bottom : Int64) (o_output_count : Int32) (o_output_signs : Nat → Int32) (o_present_denominator : Nat → Int64) (o_present_numerator : Nat → Int64) : va_W := [(q_o, .inr (6, [.ref q_o_text, .ref q_o_present, .ref q_o_trial, .ref q_o_history, .ref q_o_output, .ref q_o_answer, .ref q_o_best])), (q_o_answer, .inr (1, [.long o_answer_top, .long o_answer_bottom])), (q_o_output, .inr (4, [.ref q_o_output_signs, .int o_output_count])), (q_o_output_signs, .inl (g 2, 320, .inl o_output_signs)), (q_o_present, .inr (0, [.ref q_o_present_nodes, .ref q_o_present_order, .ref q_o_present_sorted, .ref q_o_present_weights, .ref q_o_present_numerator, .ref q_o_present_denominator, .ref q_o_present_product])), (q_o_present_denominator, .inl (g 1, 5, .inr (.inl o_present_denominator))), (q_o_present_numerator, .inl (g 1, 5, .inr (.inl o_present_numerator)))]
set_option maxHeartbeats 4000000 in
set_option maxRecDepth 100000 in
theorem kX6_writeValues (D : va_G) (g : Nat → ClassId) (x : Xd) (l : Launch) (q_o q_o_answer q_o_output q_o_output_signs q_o_present q_o_present_denominator q_o_present_numerator q_o_text q_o_trial q_o_history q_o_best q_o_present_nodes q_o_present_order q_o_present_sorted q_o_present_weights q_o_present_product : Nat) (o_answer_top : Int64) (o_answer_bottom : Int64) (o_output_count : Int32) (o_output_signs : Nat → Int32) (o_present_denominator : Nat → Int64) (o_present_numerator : Nat → Int64) (R : Int32 × Int64 × Int64 × Int32 × (Nat → Int32)) (h : mX6_writeValues o_answer_bottom o_answer_top o_output_count o_output_signs o_present_denominator o_present_numerator = some R) : Cn D g x l yX6_writeValues cX6_writeValues 2 (some .int) 4 111 [.ref q_o] (wX6_writeValues g q_o q_o_answer q_o_output q_o_output_signs q_o_present q_o_present_denominator q_o_present_numerator q_o_text q_o_trial q_o_history q_o_best q_o_present_nodes q_o_present_order q_o_present_sorted q_o_present_weights q_o_present_product o_answer_top o_answer_bottom o_output_count o_output_signs o_present_denominator o_present_numerator) (wX6_writeValues g q_o q_o_answer q_o_output q_o_output_signs q_o_present q_o_present_denominator q_o_present_numerator q_o_text q_o_trial q_o_history q_o_best q_o_present_nodes q_o_present_order q_o_present_sorted q_o_present_weights q_o_present_product R.2.2.1 R.2.1 R.2.2.2.1 R.2.2.2.2 o_present_denominator o_present_numerator) (some (.int R.1)) := by
  refine CnI (by decide +kernel) (Nat.le_of_ble_eq_true rfl) (fun p e s m args below meth c A Q ls X hD hP hS fin hl => ?_)
  obtain ⟨hx, hb, hml, -, -, hown, hts, hK, hA, hE⟩ := id X
  unfold mX6_writeValues at h
  have hl : lv_has ls 2 [(0, .ref q_o)] := hl
  refine lv_aload_n hx hb dX6_writeValues_0 rfl (lv_at hl 0 rfl) ?_
  refine mget X fl_X6_36 hP 0 rfl rfl dX6_writeValues_1 ?_
  obtain ⟨r1, c1, h⟩ := o_b h
  refine mcallV X (As := []) (rest := []) (ws1 := wX6_writeValues g q_o q_o_answer q_o_output q_o_output_signs q_o_present q_o_present_denominator q_o_present_numerator q_o_text q_o_trial q_o_history q_o_best q_o_present_nodes q_o_present_order q_o_present_sorted q_o_present_weights q_o_present_product o_answer_top o_answer_bottom r1 o_output_signs o_present_denominator o_present_numerator) (st1 := []) (kX4_clear D g x l q_o_output q_o_output_signs o_output_count  r1 c1) mw_X4_clear ml_X6_242 ⟨Nat.le_of_ble_eq_true rfl, Nat.le_of_ble_eq_true rfl⟩ hP hD hS [2] rfl rfl rfl 2 rfl rfl rfl hl.1 rfl (Nat.le_of_ble_eq_true rfl) dX6_writeValues_4 ⟨Nat.le_refl _, Nat.le_refl _⟩ rfl rfl (fun H locs hP hD hS => ?_)
  refine lv_bipush (v := (-3)) hx hb dX6_writeValues_7 (by decide) ?_
  refine lv_istore_n (lv' := [(1, .int ((-3))), (0, .ref q_o)]) hx hb dX6_writeValues_9 rfl hl (by decide) rfl (fun ls hl => ?_)
  have lp2 : ∀ (n : Nat) (v2_1 : Int32) (u2_o_answer_bottom : Int64) (u2_o_answer_top : Int64) (u2_o_output_count : Int32) (u2_o_output_signs : Nat → Int32) (R2 : Int64 × Int64 × Int32 × (Nat → Int32)) (h : lX6_writeValues_10 o_present_denominator o_present_numerator n v2_1 u2_o_answer_bottom u2_o_answer_top u2_o_output_count u2_o_output_signs = some R2) (H : Heap) (locs : List Loc), va_P D vwCl (wX6_writeValues g q_o q_o_answer q_o_output q_o_output_signs q_o_present q_o_present_denominator q_o_present_numerator q_o_text q_o_trial q_o_history q_o_best q_o_present_nodes q_o_present_order q_o_present_sorted q_o_present_weights q_o_present_product u2_o_answer_top u2_o_answer_bottom u2_o_output_count u2_o_output_signs o_present_denominator o_present_numerator) H → va_D A (wX6_writeValues g q_o q_o_answer q_o_output q_o_output_signs q_o_present q_o_present_denominator q_o_present_numerator q_o_text q_o_trial q_o_history q_o_best q_o_present_nodes q_o_present_order q_o_present_sorted q_o_present_weights q_o_present_product u2_o_answer_top u2_o_answer_bottom u2_o_output_count u2_o_output_signs o_present_denominator o_present_numerator) → va_S A s.heap H locs → ∀ (ls : Array Slot), lv_has ls 2 [(0, .ref q_o), (1, .int v2_1)] → (∀ (H : Heap) (locs : List Loc) (ls : Array Slot), va_P D vwCl (wX6_writeValues g q_o q_o_answer q_o_output q_o_output_signs q_o_present q_o_present_denominator q_o_present_numerator q_o_text q_o_trial q_o_history q_o_best q_o_present_nodes q_o_present_order q_o_present_sorted q_o_present_weights q_o_present_product R2.2.1 R2.1 R2.2.2.1 R2.2.2.2 o_present_denominator o_present_numerator) H → va_D A (wX6_writeValues g q_o q_o_answer q_o_output q_o_output_signs q_o_present q_o_present_denominator q_o_present_numerator q_o_text q_o_trial q_o_history q_o_best q_o_present_nodes q_o_present_order q_o_present_sorted q_o_present_weights q_o_present_product R2.2.1 R2.1 R2.2.2.1 R2.2.2.2 o_present_denominator o_present_numerator) → va_S A s.heap H locs → lv_has ls 2 [(0, .ref q_o)] → W p l e (rmF 4 111) s m args below meth c H locs 0 0 Q (F0 m 91 ls [])) → W p l e (rmF 4 111) s m args below meth c H locs 0 0 Q (F0 m 10 ls []) := by
    intro n
    induction n with
    | zero =>
      intro v2_1 u2_o_answer_bottom u2_o_answer_top u2_o_output_count u2_o_output_signs R2 h
      have h : none = some R2 := h
      cases h
    | succ n ih2 =>
      intro v2_1 u2_o_answer_bottom u2_o_answer_top u2_o_output_count u2_o_output_signs R2 h H locs hP hD hS ls hl K2_0
      have h : (if 3 < v2_1 then some (u2_o_answer_bottom, u2_o_answer_top, u2_o_output_count, u2_o_output_signs) else if v2_1 ≤ ((-3)) then (mX0_putValue o_present_denominator o_present_numerator u2_o_answer_bottom u2_o_answer_top v2_1).bind fun r5 => if r5.1 = 0 then (mX0_kindOf o_present_denominator o_present_numerator v2_1).bind fun r7 => if r7 = 2 then (mX4_put u2_o_output_count u2_o_output_signs 33).bind fun r10 => lX6_writeValues_10 o_present_denominator o_present_numerator n (v2_1 + 1) r5.2.1 r5.2.2 r10.1 r10.2 else (mX4_put u2_o_output_count u2_o_output_signs 63).bind fun r9 => lX6_writeValues_10 o_present_denominator o_present_numerator n (v2_1 + 1) r5.2.1 r5.2.2 r9.1 r9.2 else (mX4_putFraction u2_o_output_count u2_o_output_signs r5.2.1 r5.2.2).bind fun r11 => lX6_writeValues_10 o_present_denominator o_present_numerator n (v2_1 + 1) r5.2.1 r5.2.2 r11.1 r11.2 else (mX4_put u2_o_output_count u2_o_output_signs 32).bind fun r12 => (mX0_putValue o_present_denominator o_present_numerator u2_o_answer_bottom u2_o_answer_top v2_1).bind fun r13 => if r13.1 = 0 then (mX0_kindOf o_present_denominator o_present_numerator v2_1).bind fun r15 => if r15 = 2 then (mX4_put r12.1 r12.2 33).bind fun r18 => lX6_writeValues_10 o_present_denominator o_present_numerator n (v2_1 + 1) r13.2.1 r13.2.2 r18.1 r18.2 else (mX4_put r12.1 r12.2 63).bind fun r17 => lX6_writeValues_10 o_present_denominator o_present_numerator n (v2_1 + 1) r13.2.1 r13.2.2 r17.1 r17.2 else (mX4_putFraction r12.1 r12.2 r13.2.1 r13.2.2).bind fun r19 => lX6_writeValues_10 o_present_denominator o_present_numerator n (v2_1 + 1) r13.2.1 r13.2.2 r19.1 r19.2 : Option (Int64 × Int64 × Int32 × (Nat → Int32))) = some R2 := h
      refine lv_iload_n hx hb dX6_writeValues_10 rfl (lv_at hl 1 rfl) ?_
      refine lv_iconst (v := 3) hx hb dX6_writeValues_11 (by decide) ?_
      refine lv_icmp_gt (tgt := 91) hx hb dX6_writeValues_12 (by decide) (fun b3 => ?_) (fun b3 => ?_)
      · have h := o_t b3 h
        cases h
        exact K2_0  _ _ _ hP hD hS (lv_sub hl [0] rfl)
      · have h := o_f b3 h
        refine lv_iload_n hx hb dX6_writeValues_15 rfl (lv_at hl 1 rfl) ?_
        refine lv_bipush (v := (-3)) hx hb dX6_writeValues_16 (by decide) ?_
        refine lv_icmp_le (tgt := 30) hx hb dX6_writeValues_18 (by decide) (fun b4 => ?_) (fun b4 => ?_)
        · have h := o_t b4 h
          refine lv_aload_n hx hb dX6_writeValues_30 rfl (lv_at hl 0 rfl) ?_
          refine mget X fl_X6_19 hP 0 rfl rfl dX6_writeValues_31 ?_
          refine lv_iload_n hx hb dX6_writeValues_34 rfl (lv_at hl 1 rfl) ?_
          refine lv_aload_n hx hb dX6_writeValues_35 rfl (lv_at hl 0 rfl) ?_
          refine mget X fl_X6_43 hP 0 rfl rfl dX6_writeValues_36 ?_
          obtain ⟨r5, c5, h⟩ := o_b h
          refine mcallV X (As := [.int v2_1, .ref q_o_answer]) (rest := []) (ws1 := wX6_writeValues g q_o q_o_answer q_o_output q_o_output_signs q_o_present q_o_present_denominator q_o_present_numerator q_o_text q_o_trial q_o_history q_o_best q_o_present_nodes q_o_present_order q_o_present_sorted q_o_present_weights q_o_present_product r5.2.2 r5.2.1 u2_o_output_count u2_o_output_signs o_present_denominator o_present_numerator) (st1 := [.int r5.1]) (kX0_putValue D g x l q_o_present q_o_present_denominator q_o_present_numerator q_o_answer q_o_present_nodes q_o_present_order q_o_present_sorted q_o_present_weights q_o_present_product o_present_denominator o_present_numerator u2_o_answer_top u2_o_answer_bottom v2_1 r5 c5) mw_X0_putValue ml_X6_166 ⟨Nat.le_of_ble_eq_true rfl, Nat.le_of_ble_eq_true rfl⟩ hP hD hS [4, 5, 6, 1] rfl rfl rfl 4 rfl rfl rfl hl.1 rfl (Nat.le_of_ble_eq_true rfl) dX6_writeValues_39 ⟨Nat.le_refl _, Nat.le_refl _⟩ rfl rfl (fun H locs hP hD hS => ?_)
          refine lv_if_eq (tgt := 59) hx hb dX6_writeValues_42 (by decide) (fun b6 => ?_) (fun b6 => ?_)
          · have h := o_t b6 h
            refine lv_aload_n hx hb dX6_writeValues_59 rfl (lv_at hl 0 rfl) ?_
            refine mget X fl_X6_36 hP 0 rfl rfl dX6_writeValues_60 ?_
            refine lv_aload_n hx hb dX6_writeValues_63 rfl (lv_at hl 0 rfl) ?_
            refine mget X fl_X6_19 hP 0 rfl rfl dX6_writeValues_64 ?_
            refine lv_iload_n hx hb dX6_writeValues_67 rfl (lv_at hl 1 rfl) ?_
            obtain ⟨r7, c7, h⟩ := o_b h
            refine mcallV X (As := [.int v2_1]) (rest := [.ref q_o_output]) (ws1 := wX6_writeValues g q_o q_o_answer q_o_output q_o_output_signs q_o_present q_o_present_denominator q_o_present_numerator q_o_text q_o_trial q_o_history q_o_best q_o_present_nodes q_o_present_order q_o_present_sorted q_o_present_weights q_o_present_product r5.2.2 r5.2.1 u2_o_output_count u2_o_output_signs o_present_denominator o_present_numerator) (st1 := [.int r7, .ref q_o_output]) (kX0_kindOf D g x l q_o_present q_o_present_denominator q_o_present_numerator q_o_present_nodes q_o_present_order q_o_present_sorted q_o_present_weights q_o_present_product o_present_denominator o_present_numerator v2_1 r7 c7) mw_X0_kindOf ml_X6_145 ⟨Nat.le_of_ble_eq_true rfl, Nat.le_of_ble_eq_true rfl⟩ hP hD hS [4, 5, 6] rfl rfl rfl 4 rfl rfl rfl hl.1 rfl (Nat.le_of_ble_eq_true rfl) dX6_writeValues_68 ⟨Nat.le_refl _, Nat.le_refl _⟩ rfl rfl (fun H locs hP hD hS => ?_)
            refine lv_iconst (v := 2) hx hb dX6_writeValues_71 (by decide) ?_
            refine lv_icmp_ne (tgt := 80) hx hb dX6_writeValues_72 (by decide) (fun b8 => ?_) (fun b8 => ?_)
            · have h := o_f b8 h
              refine lv_bipush (v := 63) hx hb dX6_writeValues_80 (by decide) ?_
              obtain ⟨r9, c9, h⟩ := o_b h
              refine mcallV X (As := [.int 63]) (rest := []) (ws1 := wX6_writeValues g q_o q_o_answer q_o_output q_o_output_signs q_o_present q_o_present_denominator q_o_present_numerator q_o_text q_o_trial q_o_history q_o_best q_o_present_nodes q_o_present_order q_o_present_sorted q_o_present_weights q_o_present_product r5.2.2 r5.2.1 r9.1 r9.2 o_present_denominator o_present_numerator) (st1 := []) (kX4_put D g x l q_o_output q_o_output_signs u2_o_output_count u2_o_output_signs 63 r9 c9) mw_X4_put ml_X6_248 ⟨Nat.le_of_ble_eq_true rfl, Nat.le_of_ble_eq_true rfl⟩ hP hD hS [2, 3] rfl rfl rfl 2 rfl rfl rfl hl.1 rfl (Nat.le_of_ble_eq_true rfl) dX6_writeValues_82 ⟨Nat.le_refl _, Nat.le_refl _⟩ rfl rfl (fun H locs hP hD hS => ?_)
              refine lv_iinc (v := v2_1 + 1) (lv' := [(1, .int (v2_1 + 1)), (0, .ref q_o)]) hx hb dX6_writeValues_85 hl (k := 1) rfl rfl (by decide) rfl (fun ls hl => ?_)
              refine lv_goto (tgt := 10) hx hb dX6_writeValues_88 (by decide) ?_
              exact ih2 (v2_1 + 1) r5.2.1 r5.2.2 r9.1 r9.2 _ h _ _ hP hD hS _ (lv_sub hl [1, 0] rfl) K2_0
            · have h := o_t b8 h
              refine lv_bipush (v := 33) hx hb dX6_writeValues_75 (by decide) ?_
              refine lv_goto (tgt := 82) hx hb dX6_writeValues_77 (by decide) ?_
              obtain ⟨r10, c10, h⟩ := o_b h
              refine mcallV X (As := [.int 33]) (rest := []) (ws1 := wX6_writeValues g q_o q_o_answer q_o_output q_o_output_signs q_o_present q_o_present_denominator q_o_present_numerator q_o_text q_o_trial q_o_history q_o_best q_o_present_nodes q_o_present_order q_o_present_sorted q_o_present_weights q_o_present_product r5.2.2 r5.2.1 r10.1 r10.2 o_present_denominator o_present_numerator) (st1 := []) (kX4_put D g x l q_o_output q_o_output_signs u2_o_output_count u2_o_output_signs 33 r10 c10) mw_X4_put ml_X6_248 ⟨Nat.le_of_ble_eq_true rfl, Nat.le_of_ble_eq_true rfl⟩ hP hD hS [2, 3] rfl rfl rfl 2 rfl rfl rfl hl.1 rfl (Nat.le_of_ble_eq_true rfl) dX6_writeValues_82 ⟨Nat.le_refl _, Nat.le_refl _⟩ rfl rfl (fun H locs hP hD hS => ?_)
              refine lv_iinc (v := v2_1 + 1) (lv' := [(1, .int (v2_1 + 1)), (0, .ref q_o)]) hx hb dX6_writeValues_85 hl (k := 1) rfl rfl (by decide) rfl (fun ls hl => ?_)
              refine lv_goto (tgt := 10) hx hb dX6_writeValues_88 (by decide) ?_
              exact ih2 (v2_1 + 1) r5.2.1 r5.2.2 r10.1 r10.2 _ h _ _ hP hD hS _ (lv_sub hl [1, 0] rfl) K2_0
          · have h := o_f b6 h
            refine lv_aload_n hx hb dX6_writeValues_45 rfl (lv_at hl 0 rfl) ?_
            refine mget X fl_X6_36 hP 0 rfl rfl dX6_writeValues_46 ?_
            refine lv_aload_n hx hb dX6_writeValues_49 rfl (lv_at hl 0 rfl) ?_
            refine mget X fl_X6_43 hP 0 rfl rfl dX6_writeValues_50 ?_
            obtain ⟨r11, c11, h⟩ := o_b h
            refine mcallV X (As := [.ref q_o_answer]) (rest := []) (ws1 := wX6_writeValues g q_o q_o_answer q_o_output q_o_output_signs q_o_present q_o_present_denominator q_o_present_numerator q_o_text q_o_trial q_o_history q_o_best q_o_present_nodes q_o_present_order q_o_present_sorted q_o_present_weights q_o_present_product r5.2.2 r5.2.1 r11.1 r11.2 o_present_denominator o_present_numerator) (st1 := []) (kX4_putFraction D g x l q_o_output q_o_output_signs q_o_answer u2_o_output_count u2_o_output_signs r5.2.2 r5.2.1  r11 c11) mw_X4_putFraction ml_X6_252 ⟨Nat.le_of_ble_eq_true rfl, Nat.le_of_ble_eq_true rfl⟩ hP hD hS [2, 3, 1] rfl rfl rfl 2 rfl rfl rfl hl.1 rfl (Nat.le_of_ble_eq_true rfl) dX6_writeValues_53 ⟨Nat.le_refl _, Nat.le_refl _⟩ rfl rfl (fun H locs hP hD hS => ?_)
            refine lv_goto (tgt := 85) hx hb dX6_writeValues_56 (by decide) ?_
            refine lv_iinc (v := v2_1 + 1) (lv' := [(1, .int (v2_1 + 1)), (0, .ref q_o)]) hx hb dX6_writeValues_85 hl (k := 1) rfl rfl (by decide) rfl (fun ls hl => ?_)
            refine lv_goto (tgt := 10) hx hb dX6_writeValues_88 (by decide) ?_
            exact ih2 (v2_1 + 1) r5.2.1 r5.2.2 r11.1 r11.2 _ h _ _ hP hD hS _ (lv_sub hl [1, 0] rfl) K2_0
        · have h := o_f b4 h
          refine lv_aload_n hx hb dX6_writeValues_21 rfl (lv_at hl 0 rfl) ?_
          refine mget X fl_X6_36 hP 0 rfl rfl dX6_writeValues_22 ?_
          refine lv_bipush (v := 32) hx hb dX6_writeValues_25 (by decide) ?_
          obtain ⟨r12, c12, h⟩ := o_b h
          refine mcallV X (As := [.int 32]) (rest := []) (ws1 := wX6_writeValues g q_o q_o_answer q_o_output q_o_output_signs q_o_present q_o_present_denominator q_o_present_numerator q_o_text q_o_trial q_o_history q_o_best q_o_present_nodes q_o_present_order q_o_present_sorted q_o_present_weights q_o_present_product u2_o_answer_top u2_o_answer_bottom r12.1 r12.2 o_present_denominator o_present_numerator) (st1 := []) (kX4_put D g x l q_o_output q_o_output_signs u2_o_output_count u2_o_output_signs 32 r12 c12) mw_X4_put ml_X6_248 ⟨Nat.le_of_ble_eq_true rfl, Nat.le_of_ble_eq_true rfl⟩ hP hD hS [2, 3] rfl rfl rfl 2 rfl rfl rfl hl.1 rfl (Nat.le_of_ble_eq_true rfl) dX6_writeValues_27 ⟨Nat.le_refl _, Nat.le_refl _⟩ rfl rfl (fun H locs hP hD hS => ?_)
          refine lv_aload_n hx hb dX6_writeValues_30 rfl (lv_at hl 0 rfl) ?_
          refine mget X fl_X6_19 hP 0 rfl rfl dX6_writeValues_31 ?_
          refine lv_iload_n hx hb dX6_writeValues_34 rfl (lv_at hl 1 rfl) ?_
          refine lv_aload_n hx hb dX6_writeValues_35 rfl (lv_at hl 0 rfl) ?_
          refine mget X fl_X6_43 hP 0 rfl rfl dX6_writeValues_36 ?_
          obtain ⟨r13, c13, h⟩ := o_b h
          refine mcallV X (As := [.int v2_1, .ref q_o_answer]) (rest := []) (ws1 := wX6_writeValues g q_o q_o_answer q_o_output q_o_output_signs q_o_present q_o_present_denominator q_o_present_numerator q_o_text q_o_trial q_o_history q_o_best q_o_present_nodes q_o_present_order q_o_present_sorted q_o_present_weights q_o_present_product r13.2.2 r13.2.1 r12.1 r12.2 o_present_denominator o_present_numerator) (st1 := [.int r13.1]) (kX0_putValue D g x l q_o_present q_o_present_denominator q_o_present_numerator q_o_answer q_o_present_nodes q_o_present_order q_o_present_sorted q_o_present_weights q_o_present_product o_present_denominator o_present_numerator u2_o_answer_top u2_o_answer_bottom v2_1 r13 c13) mw_X0_putValue ml_X6_166 ⟨Nat.le_of_ble_eq_true rfl, Nat.le_of_ble_eq_true rfl⟩ hP hD hS [4, 5, 6, 1] rfl rfl rfl 4 rfl rfl rfl hl.1 rfl (Nat.le_of_ble_eq_true rfl) dX6_writeValues_39 ⟨Nat.le_refl _, Nat.le_refl _⟩ rfl rfl (fun H locs hP hD hS => ?_)
          refine lv_if_eq (tgt := 59) hx hb dX6_writeValues_42 (by decide) (fun b14 => ?_) (fun b14 => ?_)
          · have h := o_t b14 h
            refine lv_aload_n hx hb dX6_writeValues_59 rfl (lv_at hl 0 rfl) ?_
            refine mget X fl_X6_36 hP 0 rfl rfl dX6_writeValues_60 ?_
            refine lv_aload_n hx hb dX6_writeValues_63 rfl (lv_at hl 0 rfl) ?_
            refine mget X fl_X6_19 hP 0 rfl rfl dX6_writeValues_64 ?_
            refine lv_iload_n hx hb dX6_writeValues_67 rfl (lv_at hl 1 rfl) ?_
            obtain ⟨r15, c15, h⟩ := o_b h
            refine mcallV X (As := [.int v2_1]) (rest := [.ref q_o_output]) (ws1 := wX6_writeValues g q_o q_o_answer q_o_output q_o_output_signs q_o_present q_o_present_denominator q_o_present_numerator q_o_text q_o_trial q_o_history q_o_best q_o_present_nodes q_o_present_order q_o_present_sorted q_o_present_weights q_o_present_product r13.2.2 r13.2.1 r12.1 r12.2 o_present_denominator o_present_numerator) (st1 := [.int r15, .ref q_o_output]) (kX0_kindOf D g x l q_o_present q_o_present_denominator q_o_present_numerator q_o_present_nodes q_o_present_order q_o_present_sorted q_o_present_weights q_o_present_product o_present_denominator o_present_numerator v2_1 r15 c15) mw_X0_kindOf ml_X6_145 ⟨Nat.le_of_ble_eq_true rfl, Nat.le_of_ble_eq_true rfl⟩ hP hD hS [4, 5, 6] rfl rfl rfl 4 rfl rfl rfl hl.1 rfl (Nat.le_of_ble_eq_true rfl) dX6_writeValues_68 ⟨Nat.le_refl _, Nat.le_refl _⟩ rfl rfl (fun H locs hP hD hS => ?_)
            refine lv_iconst (v := 2) hx hb dX6_writeValues_71 (by decide) ?_
            refine lv_icmp_ne (tgt := 80) hx hb dX6_writeValues_72 (by decide) (fun b16 => ?_) (fun b16 => ?_)
            · have h := o_f b16 h
              refine lv_bipush (v := 63) hx hb dX6_writeValues_80 (by decide) ?_
              obtain ⟨r17, c17, h⟩ := o_b h
              refine mcallV X (As := [.int 63]) (rest := []) (ws1 := wX6_writeValues g q_o q_o_answer q_o_output q_o_output_signs q_o_present q_o_present_denominator q_o_present_numerator q_o_text q_o_trial q_o_history q_o_best q_o_present_nodes q_o_present_order q_o_present_sorted q_o_present_weights q_o_present_product r13.2.2 r13.2.1 r17.1 r17.2 o_present_denominator o_present_numerator) (st1 := []) (kX4_put D g x l q_o_output q_o_output_signs r12.1 r12.2 63 r17 c17) mw_X4_put ml_X6_248 ⟨Nat.le_of_ble_eq_true rfl, Nat.le_of_ble_eq_true rfl⟩ hP hD hS [2, 3] rfl rfl rfl 2 rfl rfl rfl hl.1 rfl (Nat.le_of_ble_eq_true rfl) dX6_writeValues_82 ⟨Nat.le_refl _, Nat.le_refl _⟩ rfl rfl (fun H locs hP hD hS => ?_)
              refine lv_iinc (v := v2_1 + 1) (lv' := [(1, .int (v2_1 + 1)), (0, .ref q_o)]) hx hb dX6_writeValues_85 hl (k := 1) rfl rfl (by decide) rfl (fun ls hl => ?_)
              refine lv_goto (tgt := 10) hx hb dX6_writeValues_88 (by decide) ?_
              exact ih2 (v2_1 + 1) r13.2.1 r13.2.2 r17.1 r17.2 _ h _ _ hP hD hS _ (lv_sub hl [1, 0] rfl) K2_0
            · have h := o_t b16 h
              refine lv_bipush (v := 33) hx hb dX6_writeValues_75 (by decide) ?_
              refine lv_goto (tgt := 82) hx hb dX6_writeValues_77 (by decide) ?_
              obtain ⟨r18, c18, h⟩ := o_b h
              refine mcallV X (As := [.int 33]) (rest := []) (ws1 := wX6_writeValues g q_o q_o_answer q_o_output q_o_output_signs q_o_present q_o_present_denominator q_o_present_numerator q_o_text q_o_trial q_o_history q_o_best q_o_present_nodes q_o_present_order q_o_present_sorted q_o_present_weights q_o_present_product r13.2.2 r13.2.1 r18.1 r18.2 o_present_denominator o_present_numerator) (st1 := []) (kX4_put D g x l q_o_output q_o_output_signs r12.1 r12.2 33 r18 c18) mw_X4_put ml_X6_248 ⟨Nat.le_of_ble_eq_true rfl, Nat.le_of_ble_eq_true rfl⟩ hP hD hS [2, 3] rfl rfl rfl 2 rfl rfl rfl hl.1 rfl (Nat.le_of_ble_eq_true rfl) dX6_writeValues_82 ⟨Nat.le_refl _, Nat.le_refl _⟩ rfl rfl (fun H locs hP hD hS => ?_)
              refine lv_iinc (v := v2_1 + 1) (lv' := [(1, .int (v2_1 + 1)), (0, .ref q_o)]) hx hb dX6_writeValues_85 hl (k := 1) rfl rfl (by decide) rfl (fun ls hl => ?_)
              refine lv_goto (tgt := 10) hx hb dX6_writeValues_88 (by decide) ?_
              exact ih2 (v2_1 + 1) r13.2.1 r13.2.2 r18.1 r18.2 _ h _ _ hP hD hS _ (lv_sub hl [1, 0] rfl) K2_0
          · have h := o_f b14 h
            refine lv_aload_n hx hb dX6_writeValues_45 rfl (lv_at hl 0 rfl) ?_
            refine mget X fl_X6_36 hP 0 rfl rfl dX6_writeValues_46 ?_
            refine lv_aload_n hx hb dX6_writeValues_49 rfl (lv_at hl 0 rfl) ?_
            refine mget X fl_X6_43 hP 0 rfl rfl dX6_writeValues_50 ?_
            obtain ⟨r19, c19, h⟩ := o_b h
            refine mcallV X (As := [.ref q_o_answer]) (rest := []) (ws1 := wX6_writeValues g q_o q_o_answer q_o_output q_o_output_signs q_o_present q_o_present_denominator q_o_present_numerator q_o_text q_o_trial q_o_history q_o_best q_o_present_nodes q_o_present_order q_o_present_sorted q_o_present_weights q_o_present_product r13.2.2 r13.2.1 r19.1 r19.2 o_present_denominator o_present_numerator) (st1 := []) (kX4_putFraction D g x l q_o_output q_o_output_signs q_o_answer r12.1 r12.2 r13.2.2 r13.2.1  r19 c19) mw_X4_putFraction ml_X6_252 ⟨Nat.le_of_ble_eq_true rfl, Nat.le_of_ble_eq_true rfl⟩ hP hD hS [2, 3, 1] rfl rfl rfl 2 rfl rfl rfl hl.1 rfl (Nat.le_of_ble_eq_true rfl) dX6_writeValues_53 ⟨Nat.le_refl _, Nat.le_refl _⟩ rfl rfl (fun H locs hP hD hS => ?_)
            refine lv_goto (tgt := 85) hx hb dX6_writeValues_56 (by decide) ?_
            refine lv_iinc (v := v2_1 + 1) (lv' := [(1, .int (v2_1 + 1)), (0, .ref q_o)]) hx hb dX6_writeValues_85 hl (k := 1) rfl rfl (by decide) rfl (fun ls hl => ?_)
            refine lv_goto (tgt := 10) hx hb dX6_writeValues_88 (by decide) ?_
            exact ih2 (v2_1 + 1) r13.2.1 r13.2.2 r19.1 r19.2 _ h _ _ hP hD hS _ (lv_sub hl [1, 0] rfl) K2_0
  obtain ⟨r20, c20, h⟩ := o_b h
  refine lp2 FU ((-3)) o_answer_bottom o_answer_top r1 o_output_signs r20 c20 _ _ hP hD hS _ (lv_sub hl [1, 0] rfl) (fun H locs ls hP hD hS hl => ?_)
  refine lv_aload_n hx hb dX6_writeValues_91 rfl (lv_at hl 0 rfl) ?_
  refine mget X fl_X6_36 hP 0 rfl rfl dX6_writeValues_92 ?_
  obtain ⟨r21, c21, h⟩ := o_b h
  refine mcallV X (As := []) (rest := []) (ws1 := wX6_writeValues g q_o q_o_answer q_o_output q_o_output_signs q_o_present q_o_present_denominator q_o_present_numerator q_o_text q_o_trial q_o_history q_o_best q_o_present_nodes q_o_present_order q_o_present_sorted q_o_present_weights q_o_present_product r20.2.1 r20.1 r20.2.2.1 r20.2.2.2 o_present_denominator o_present_numerator) (st1 := [.int r21]) (kX4_size D g x l q_o_output q_o_output_signs r20.2.2.1  r21 c21) mw_X4_size ml_X6_247 ⟨Nat.le_of_ble_eq_true rfl, Nat.le_of_ble_eq_true rfl⟩ hP hD hS [2] rfl rfl rfl 2 rfl rfl rfl hl.1 rfl (Nat.le_of_ble_eq_true rfl) dX6_writeValues_95 ⟨Nat.le_refl _, Nat.le_refl _⟩ rfl rfl (fun H locs hP hD hS => ?_)
  cases h
  exact fin _ _ _ _ rfl hP hS dX6_writeValues_98
abbrev wX6_tryPlace (g : Nat → ClassId) (q_o q_o_present q_o_present_nodes q_o_present_nodes_ws q_o_present_nodes_xs q_o_present_nodes_ys q_o_trial q_o_trial_denominator q_o_trial_nodes q_o_trial_nodes_ws q_o_trial_nodes_xs q_o_trial_nodes_ys q_o_trial_numerator q_o_trial_order q_o_trial_product q_o_trial_sorted q_o_trial_weights q_o_text q_o_history q_o_output q_o_answer q_o_best q_o_present_order q_o_present_sorted q_o_present_weights q_o_present_numerator q_o_present_denominator q_o_present_product : Nat) (o_present_nodes_count : Int32) (o_present_nodes_mode : Int32) (o_present_nodes_degree : Int32) (o_present_nodes_ws : Nat → Int32) (o_present_nodes_xs : Nat → Int32) (o_present_nodes_ys : Nat → Int32) (o_trial_denominator : Nat → Int64) (o_trial_nodes_count : Int32) (o_trial_nodes_mode : Int32) (o_trial_nodes_degree : Int32) (o_trial_nodes_ws : Nat → Int32) (o_trial_nodes_xs : Nat → Int32) (o_trial_nodes_ys : Nat → Int32) (o_trial_numerator : Nat → Int64) (o_trial_order : Nat → Int32) (o_trial_product : Nat → Int64) (o_trial_sorted : Nat → Int32) (o_trial_weights : Nat → Int64) : va_W := [(q_o, .inr (6, [.ref q_o_text, .ref q_o_present, .ref q_o_trial, .ref q_o_history, .ref q_o_output, .ref q_o_answer, .ref q_o_best])), (q_o_present, .inr (0, [.ref q_o_present_nodes, .ref q_o_present_order, .ref q_o_present_sorted, .ref q_o_present_weights, .ref q_o_present_numerator, .ref q_o_present_denominator, .ref q_o_present_product])), (q_o_present_nodes, .inr (3, [.ref q_o_present_nodes_xs, .ref q_o_present_nodes_ys, .ref q_o_present_nodes_ws, .int o_present_nodes_count, .int o_present_nodes_mode, .int o_present_nodes_degree])), (q_o_present_nodes_ws, .inl (g 0, 5, .inl o_present_nodes_ws)), (q_o_present_nodes_xs, .inl (g 0, 5, .inl o_present_nodes_xs)), (q_o_present_nodes_ys, .inl (g 0, 5, .inl o_present_nodes_ys)), (q_o_trial, .inr (0, [.ref q_o_trial_nodes, .ref q_o_trial_order, .ref q_o_trial_sorted, .ref q_o_trial_weights, .ref q_o_trial_numerator, .ref q_o_trial_denominator, .ref q_o_trial_product])), (q_o_trial_denominator, .inl (g 1, 5, .inr (.inl o_trial_denominator))), (q_o_trial_nodes, .inr (3, [.ref q_o_trial_nodes_xs, .ref q_o_trial_nodes_ys, .ref q_o_trial_nodes_ws, .int o_trial_nodes_count, .int o_trial_nodes_mode, .int o_trial_nodes_degree])), (q_o_trial_nodes_ws, .inl (g 0, 5, .inl o_trial_nodes_ws)), (q_o_trial_nodes_xs, .inl (g 0, 5, .inl o_trial_nodes_xs)), (q_o_trial_nodes_ys, .inl (g 0, 5, .inl o_trial_nodes_ys)), (q_o_trial_numerator, .inl (g 1, 5, .inr (.inl o_trial_numerator))), (q_o_trial_order, .inl (g 0, 5, .inl o_trial_order)), (q_o_trial_product, .inl (g 1, 5, .inr (.inl o_trial_product))), (q_o_trial_sorted, .inl (g 0, 5, .inl o_trial_sorted)), (q_o_trial_weights, .inl (g 1, 5, .inr (.inl o_trial_weights)))]
set_option maxHeartbeats 4000000 in
set_option maxRecDepth 100000 in
theorem kX6_tryPlace (D : va_G) (g : Nat → ClassId) (x : Xd) (l : Launch) (q_o q_o_present q_o_present_nodes q_o_present_nodes_ws q_o_present_nodes_xs q_o_present_nodes_ys q_o_trial q_o_trial_denominator q_o_trial_nodes q_o_trial_nodes_ws q_o_trial_nodes_xs q_o_trial_nodes_ys q_o_trial_numerator q_o_trial_order q_o_trial_product q_o_trial_sorted q_o_trial_weights q_o_text q_o_history q_o_output q_o_answer q_o_best q_o_present_order q_o_present_sorted q_o_present_weights q_o_present_numerator q_o_present_denominator q_o_present_product : Nat) (o_present_nodes_count : Int32) (o_present_nodes_mode : Int32) (o_present_nodes_degree : Int32) (o_present_nodes_ws : Nat → Int32) (o_present_nodes_xs : Nat → Int32) (o_present_nodes_ys : Nat → Int32) (o_trial_denominator : Nat → Int64) (o_trial_nodes_count : Int32) (o_trial_nodes_mode : Int32) (o_trial_nodes_degree : Int32) (o_trial_nodes_ws : Nat → Int32) (o_trial_nodes_xs : Nat → Int32) (o_trial_nodes_ys : Nat → Int32) (o_trial_numerator : Nat → Int64) (o_trial_order : Nat → Int32) (o_trial_product : Nat → Int64) (o_trial_sorted : Nat → Int32) (o_trial_weights : Nat → Int64) (p1 : Int32) (p2 : Int32) (R : (Nat → Int64) × Int32 × Int32 × Int32 × (Nat → Int32) × (Nat → Int32) × (Nat → Int32) × (Nat → Int64) × (Nat → Int32) × (Nat → Int64) × (Nat → Int32) × (Nat → Int64)) (h : mX6_tryPlace o_present_nodes_count o_present_nodes_degree o_present_nodes_mode o_present_nodes_ws o_present_nodes_xs o_present_nodes_ys o_trial_denominator o_trial_nodes_count o_trial_nodes_degree o_trial_nodes_mode o_trial_nodes_ws o_trial_nodes_xs o_trial_nodes_ys o_trial_numerator o_trial_order o_trial_product o_trial_sorted o_trial_weights p1 p2 = some R) : Cn D g x l yX6_tryPlace cX6_tryPlace 3 none 5 122 [.ref q_o, .int p1, .int p2] (wX6_tryPlace g q_o q_o_present q_o_present_nodes q_o_present_nodes_ws q_o_present_nodes_xs q_o_present_nodes_ys q_o_trial q_o_trial_denominator q_o_trial_nodes q_o_trial_nodes_ws q_o_trial_nodes_xs q_o_trial_nodes_ys q_o_trial_numerator q_o_trial_order q_o_trial_product q_o_trial_sorted q_o_trial_weights q_o_text q_o_history q_o_output q_o_answer q_o_best q_o_present_order q_o_present_sorted q_o_present_weights q_o_present_numerator q_o_present_denominator q_o_present_product o_present_nodes_count o_present_nodes_mode o_present_nodes_degree o_present_nodes_ws o_present_nodes_xs o_present_nodes_ys o_trial_denominator o_trial_nodes_count o_trial_nodes_mode o_trial_nodes_degree o_trial_nodes_ws o_trial_nodes_xs o_trial_nodes_ys o_trial_numerator o_trial_order o_trial_product o_trial_sorted o_trial_weights) (wX6_tryPlace g q_o q_o_present q_o_present_nodes q_o_present_nodes_ws q_o_present_nodes_xs q_o_present_nodes_ys q_o_trial q_o_trial_denominator q_o_trial_nodes q_o_trial_nodes_ws q_o_trial_nodes_xs q_o_trial_nodes_ys q_o_trial_numerator q_o_trial_order q_o_trial_product q_o_trial_sorted q_o_trial_weights q_o_text q_o_history q_o_output q_o_answer q_o_best q_o_present_order q_o_present_sorted q_o_present_weights q_o_present_numerator q_o_present_denominator q_o_present_product o_present_nodes_count o_present_nodes_mode o_present_nodes_degree o_present_nodes_ws o_present_nodes_xs o_present_nodes_ys R.1 R.2.1 R.2.2.2.1 R.2.2.1 R.2.2.2.2.1 R.2.2.2.2.2.1 R.2.2.2.2.2.2.1 R.2.2.2.2.2.2.2.1 R.2.2.2.2.2.2.2.2.1 R.2.2.2.2.2.2.2.2.2.1 R.2.2.2.2.2.2.2.2.2.2.1 R.2.2.2.2.2.2.2.2.2.2.2) none := by
  refine CnV (by decide +kernel) (Nat.le_of_ble_eq_true rfl) (fun p e s m args below meth c A Q ls X hD hP hS fin hl => ?_)
  obtain ⟨hx, hb, hml, -, -, hown, hts, hK, hA, hE⟩ := id X
  unfold mX6_tryPlace at h
  have hl : lv_has ls 3 [(0, .ref q_o), (1, .int p1), (2, .int p2)] := hl
  refine lv_aload_n hx hb dX6_tryPlace_0 rfl (lv_at hl 0 rfl) ?_
  refine mget X fl_X6_23 hP 0 rfl rfl dX6_tryPlace_1 ?_
  refine mget X fl_X6_66 hP 6 rfl rfl dX6_tryPlace_4 ?_
  refine lv_aload_n hx hb dX6_tryPlace_7 rfl (lv_at hl 0 rfl) ?_
  refine mget X fl_X6_19 hP 0 rfl rfl dX6_tryPlace_8 ?_
  refine mget X fl_X6_66 hP 1 rfl rfl dX6_tryPlace_11 ?_
  obtain ⟨r1, c1, h⟩ := o_b h
  refine mcallV X (As := [.ref q_o_present_nodes]) (rest := []) (ws1 := wX6_tryPlace g q_o q_o_present q_o_present_nodes q_o_present_nodes_ws q_o_present_nodes_xs q_o_present_nodes_ys q_o_trial q_o_trial_denominator q_o_trial_nodes q_o_trial_nodes_ws q_o_trial_nodes_xs q_o_trial_nodes_ys q_o_trial_numerator q_o_trial_order q_o_trial_product q_o_trial_sorted q_o_trial_weights q_o_text q_o_history q_o_output q_o_answer q_o_best q_o_present_order q_o_present_sorted q_o_present_weights q_o_present_numerator q_o_present_denominator q_o_present_product o_present_nodes_count o_present_nodes_mode o_present_nodes_degree o_present_nodes_ws o_present_nodes_xs o_present_nodes_ys o_trial_denominator r1.1 r1.2.2.1 r1.2.1 r1.2.2.2.1 r1.2.2.2.2.1 r1.2.2.2.2.2 o_trial_numerator o_trial_order o_trial_product o_trial_sorted o_trial_weights) (st1 := []) (kX3_copyFrom D g x l q_o_trial_nodes q_o_trial_nodes_ws q_o_trial_nodes_xs q_o_trial_nodes_ys q_o_present_nodes q_o_present_nodes_ws q_o_present_nodes_xs q_o_present_nodes_ys o_trial_nodes_count o_trial_nodes_mode o_trial_nodes_degree o_trial_nodes_ws o_trial_nodes_xs o_trial_nodes_ys o_present_nodes_count o_present_nodes_mode o_present_nodes_degree o_present_nodes_ws o_present_nodes_xs o_present_nodes_ys  r1 c1) mw_X3_copyFrom ml_X6_77 ⟨Nat.le_of_ble_eq_true rfl, Nat.le_of_ble_eq_true rfl⟩ hP hD hS [8, 9, 10, 11, 2, 3, 4, 5] rfl rfl rfl 8 rfl rfl rfl hl.1 rfl (Nat.le_of_ble_eq_true rfl) dX6_tryPlace_14 ⟨Nat.le_refl _, Nat.le_refl _⟩ rfl rfl (fun H locs hP hD hS => ?_)
  refine lv_aload_n hx hb dX6_tryPlace_17 rfl (lv_at hl 0 rfl) ?_
  refine mget X fl_X6_23 hP 0 rfl rfl dX6_tryPlace_18 ?_
  refine mget X fl_X6_66 hP 6 rfl rfl dX6_tryPlace_21 ?_
  refine lv_iload_n hx hb dX6_tryPlace_24 rfl (lv_at hl 1 rfl) ?_
  refine lv_iload_n hx hb dX6_tryPlace_25 rfl (lv_at hl 2 rfl) ?_
  obtain ⟨r2, c2, h⟩ := o_b h
  refine mcallV X (As := [.int p1, .int p2]) (rest := []) (ws1 := wX6_tryPlace g q_o q_o_present q_o_present_nodes q_o_present_nodes_ws q_o_present_nodes_xs q_o_present_nodes_ys q_o_trial q_o_trial_denominator q_o_trial_nodes q_o_trial_nodes_ws q_o_trial_nodes_xs q_o_trial_nodes_ys q_o_trial_numerator q_o_trial_order q_o_trial_product q_o_trial_sorted q_o_trial_weights q_o_text q_o_history q_o_output q_o_answer q_o_best q_o_present_order q_o_present_sorted q_o_present_weights q_o_present_numerator q_o_present_denominator q_o_present_product o_present_nodes_count o_present_nodes_mode o_present_nodes_degree o_present_nodes_ws o_present_nodes_xs o_present_nodes_ys o_trial_denominator r1.1 r1.2.2.1 r1.2.1 r1.2.2.2.1 r2 r1.2.2.2.2.2 o_trial_numerator o_trial_order o_trial_product o_trial_sorted o_trial_weights) (st1 := []) (kX3_putX D g x l q_o_trial_nodes q_o_trial_nodes_xs q_o_trial_nodes_ys q_o_trial_nodes_ws r1.1 r1.2.2.1 r1.2.1 r1.2.2.2.2.1 p1 p2 r2 c2) mw_X3_putX ml_X6_213 ⟨Nat.le_of_ble_eq_true rfl, Nat.le_of_ble_eq_true rfl⟩ hP hD hS [8, 10] rfl rfl rfl 8 rfl rfl rfl hl.1 rfl (Nat.le_of_ble_eq_true rfl) dX6_tryPlace_26 ⟨Nat.le_refl _, Nat.le_refl _⟩ rfl rfl (fun H locs hP hD hS => ?_)
  refine lv_aload_n hx hb dX6_tryPlace_29 rfl (lv_at hl 0 rfl) ?_
  refine mget X fl_X6_23 hP 0 rfl rfl dX6_tryPlace_30 ?_
  obtain ⟨r3, c3, h⟩ := o_b h
  refine mcallV X (As := []) (rest := []) (ws1 := wX6_tryPlace g q_o q_o_present q_o_present_nodes q_o_present_nodes_ws q_o_present_nodes_xs q_o_present_nodes_ys q_o_trial q_o_trial_denominator q_o_trial_nodes q_o_trial_nodes_ws q_o_trial_nodes_xs q_o_trial_nodes_ys q_o_trial_numerator q_o_trial_order q_o_trial_product q_o_trial_sorted q_o_trial_weights q_o_text q_o_history q_o_output q_o_answer q_o_best q_o_present_order q_o_present_sorted q_o_present_weights q_o_present_numerator q_o_present_denominator q_o_present_product o_present_nodes_count o_present_nodes_mode o_present_nodes_degree o_present_nodes_ws o_present_nodes_xs o_present_nodes_ys r3.1 r1.1 r1.2.2.1 r1.2.1 r1.2.2.2.1 r2 r1.2.2.2.2.2 r3.2.1 r3.2.2.1 r3.2.2.2.1 r3.2.2.2.2.1 r3.2.2.2.2.2) (st1 := []) (kX0_reckon D g x l q_o_trial q_o_trial_denominator q_o_trial_nodes q_o_trial_nodes_ws q_o_trial_nodes_xs q_o_trial_nodes_ys q_o_trial_numerator q_o_trial_order q_o_trial_product q_o_trial_sorted q_o_trial_weights o_trial_denominator r1.1 r1.2.2.1 r1.2.1 r1.2.2.2.1 r2 r1.2.2.2.2.2 o_trial_numerator o_trial_order o_trial_product o_trial_sorted o_trial_weights  r3 c3) mw_X0_reckon ml_X6_83 ⟨Nat.le_of_ble_eq_true rfl, Nat.le_of_ble_eq_true rfl⟩ hP hD hS [6, 7, 8, 9, 10, 11, 12, 13, 14, 15, 16] rfl rfl rfl 6 rfl rfl rfl hl.1 rfl (Nat.le_of_ble_eq_true rfl) dX6_tryPlace_33 ⟨Nat.le_refl _, Nat.le_refl _⟩ rfl rfl (fun H locs hP hD hS => ?_)
  cases h
  exact fin _ _ _ _ hP hS dX6_tryPlace_36
