abbrev wX6_feed (g : Nat → ClassId) (q_o q_o_text q_o_text_bytes q_o_present q_o_trial q_o_history q_o_output q_o_answer q_o_best : Nat)  (o_text_filled : Int32) (o_text_length : Int32) (o_text_token : Int32) (o_text_start : Int32) (o_text_next : Int32) (o_text_faultKind : Int32) (o_text_faultPosition : Int32) (o_text_bytes : Nat → Int32) : va_W := [(q_o, .inr (6, [.ref q_o_text, .ref q_o_present, .ref q_o_trial, .ref q_o_history, .ref q_o_output, .ref q_o_answer, .ref q_o_best])), (q_o_text, .inr (5, [.ref q_o_text_bytes, .int o_text_filled, .int o_text_length, .int o_text_token, .int o_text_start, .int o_text_next, .int o_text_faultKind, .int o_text_faultPosition])), (q_o_text_bytes, .inl (g 0, 400, .inl o_text_bytes))]
set_option maxHeartbeats 4000000 in
set_option maxRecDepth 100000 in
theorem kX6_feed (D : va_G) (g : Nat → ClassId) (x : Xd) (l : Launch) (q_o q_o_text q_o_text_bytes q_o_present q_o_trial q_o_history q_o_output q_o_answer q_o_best : Nat)  (o_text_filled : Int32) (o_text_length : Int32) (o_text_token : Int32) (o_text_start : Int32) (o_text_next : Int32) (o_text_faultKind : Int32) (o_text_faultPosition : Int32) (o_text_bytes : Nat → Int32) (p1 : Int32) (p2 : Int32) (p3 : Int32) (p4 : Int32) (p5 : Int32) (R : Int32 × (Nat → Int32) × Int32) (h : mX6_feed o_text_bytes o_text_filled p1 p2 p3 p4 p5 = some R) : Cn D g x l yX6_feed cX6_feed 6 (some .int) 1 22 [.ref q_o, .int p1, .int p2, .int p3, .int p4, .int p5] (wX6_feed g q_o q_o_text q_o_text_bytes q_o_present q_o_trial q_o_history q_o_output q_o_answer q_o_best o_text_filled o_text_length o_text_token o_text_start o_text_next o_text_faultKind o_text_faultPosition o_text_bytes) (wX6_feed g q_o q_o_text q_o_text_bytes q_o_present q_o_trial q_o_history q_o_output q_o_answer q_o_best R.2.2 o_text_length o_text_token o_text_start o_text_next o_text_faultKind o_text_faultPosition R.2.1) (some (.int R.1)) := by
  refine CnI (by decide +kernel) (Nat.le_of_ble_eq_true rfl) (fun p e s m args below meth c A Q ls X hD hP hS fin hl => ?_)
  obtain ⟨hx, hb, hml, -, -, hown, hts, hK, hA, hE⟩ := id X
  unfold mX6_feed at h
  have hl : lv_has ls 6 [(0, .ref q_o), (1, .int p1), (2, .int p2), (3, .int p3), (4, .int p4), (5, .int p5)] := hl
  refine lv_aload_n hx hb dX6_feed_0 rfl (lv_at hl 0 rfl) ?_
  refine mget X fl_X6_10 hP 0 rfl rfl dX6_feed_1 ?_
  refine lv_bipush (v := 20) hx hb dX6_feed_4 (by decide) ?_
  obtain ⟨r1, c1, h⟩ := o_b h
  refine mcallV X (As := [.int 20]) (rest := []) (ws1 := wX6_feed g q_o q_o_text q_o_text_bytes q_o_present q_o_trial q_o_history q_o_output q_o_answer q_o_best o_text_filled o_text_length o_text_token o_text_start o_text_next o_text_faultKind o_text_faultPosition o_text_bytes) (st1 := [.int r1]) (kX5_hasRoomFor D g x l q_o_text q_o_text_bytes o_text_filled o_text_length o_text_token o_text_start o_text_next o_text_faultKind o_text_faultPosition 20 r1 c1) mw_X5_hasRoomFor ml_X6_50 ⟨Nat.le_of_ble_eq_true rfl, Nat.le_of_ble_eq_true rfl⟩ hP hD hS [1] (by decide +kernel) rfl rfl 1 rfl rfl rfl hl.1 rfl (Nat.le_of_ble_eq_true rfl) dX6_feed_6 ⟨Nat.le_refl _, Nat.le_refl _⟩ rfl rfl (fun H locs hP hD hS => ?_)
  refine lv_if_ne (tgt := 15) hx hb dX6_feed_9 (by decide) (fun b2 => ?_) (fun b2 => ?_)
  · have h := o_f b2 h
    refine lv_aload_n hx hb dX6_feed_15 rfl (lv_at hl 0 rfl) ?_
    refine mget X fl_X6_10 hP 0 rfl rfl dX6_feed_16 ?_
    refine lv_iload_n hx hb dX6_feed_19 rfl (lv_at hl 1 rfl) ?_
    obtain ⟨r3, c3, h⟩ := o_b h
    refine mcallV X (As := [.int p1]) (rest := []) (ws1 := wX6_feed g q_o q_o_text q_o_text_bytes q_o_present q_o_trial q_o_history q_o_output q_o_answer q_o_best r3.2 o_text_length o_text_token o_text_start o_text_next o_text_faultKind o_text_faultPosition r3.1) (st1 := []) (kX5_append D g x l q_o_text q_o_text_bytes o_text_filled o_text_length o_text_token o_text_start o_text_next o_text_faultKind o_text_faultPosition o_text_bytes p1 r3 c3) mw_X5_append ml_X6_54 ⟨Nat.le_of_ble_eq_true rfl, Nat.le_of_ble_eq_true rfl⟩ hP hD hS [1, 2] (by decide +kernel) rfl rfl 1 rfl rfl rfl hl.1 rfl (Nat.le_of_ble_eq_true rfl) dX6_feed_20 ⟨Nat.le_refl _, Nat.le_refl _⟩ rfl rfl (fun H locs hP hD hS => ?_)
    refine lv_aload_n hx hb dX6_feed_23 rfl (lv_at hl 0 rfl) ?_
    refine mget X fl_X6_10 hP 0 rfl rfl dX6_feed_24 ?_
    refine lv_iload_n hx hb dX6_feed_27 rfl (lv_at hl 2 rfl) ?_
    obtain ⟨r4, c4, h⟩ := o_b h
    refine mcallV X (As := [.int p2]) (rest := []) (ws1 := wX6_feed g q_o q_o_text q_o_text_bytes q_o_present q_o_trial q_o_history q_o_output q_o_answer q_o_best r4.2 o_text_length o_text_token o_text_start o_text_next o_text_faultKind o_text_faultPosition r4.1) (st1 := []) (kX5_append D g x l q_o_text q_o_text_bytes r3.2 o_text_length o_text_token o_text_start o_text_next o_text_faultKind o_text_faultPosition r3.1 p2 r4 c4) mw_X5_append ml_X6_54 ⟨Nat.le_of_ble_eq_true rfl, Nat.le_of_ble_eq_true rfl⟩ hP hD hS [1, 2] (by decide +kernel) rfl rfl 1 rfl rfl rfl hl.1 rfl (Nat.le_of_ble_eq_true rfl) dX6_feed_28 ⟨Nat.le_refl _, Nat.le_refl _⟩ rfl rfl (fun H locs hP hD hS => ?_)
    refine lv_aload_n hx hb dX6_feed_31 rfl (lv_at hl 0 rfl) ?_
    refine mget X fl_X6_10 hP 0 rfl rfl dX6_feed_32 ?_
    refine lv_iload_n hx hb dX6_feed_35 rfl (lv_at hl 3 rfl) ?_
    obtain ⟨r5, c5, h⟩ := o_b h
    refine mcallV X (As := [.int p3]) (rest := []) (ws1 := wX6_feed g q_o q_o_text q_o_text_bytes q_o_present q_o_trial q_o_history q_o_output q_o_answer q_o_best r5.2 o_text_length o_text_token o_text_start o_text_next o_text_faultKind o_text_faultPosition r5.1) (st1 := []) (kX5_append D g x l q_o_text q_o_text_bytes r4.2 o_text_length o_text_token o_text_start o_text_next o_text_faultKind o_text_faultPosition r4.1 p3 r5 c5) mw_X5_append ml_X6_54 ⟨Nat.le_of_ble_eq_true rfl, Nat.le_of_ble_eq_true rfl⟩ hP hD hS [1, 2] (by decide +kernel) rfl rfl 1 rfl rfl rfl hl.1 rfl (Nat.le_of_ble_eq_true rfl) dX6_feed_36 ⟨Nat.le_refl _, Nat.le_refl _⟩ rfl rfl (fun H locs hP hD hS => ?_)
    refine lv_aload_n hx hb dX6_feed_39 rfl (lv_at hl 0 rfl) ?_
    refine mget X fl_X6_10 hP 0 rfl rfl dX6_feed_40 ?_
    refine lv_iload hx hb dX6_feed_43 (lv_at hl 4 rfl) ?_
    obtain ⟨r6, c6, h⟩ := o_b h
    refine mcallV X (As := [.int p4]) (rest := []) (ws1 := wX6_feed g q_o q_o_text q_o_text_bytes q_o_present q_o_trial q_o_history q_o_output q_o_answer q_o_best r6.2 o_text_length o_text_token o_text_start o_text_next o_text_faultKind o_text_faultPosition r6.1) (st1 := []) (kX5_append D g x l q_o_text q_o_text_bytes r5.2 o_text_length o_text_token o_text_start o_text_next o_text_faultKind o_text_faultPosition r5.1 p4 r6 c6) mw_X5_append ml_X6_54 ⟨Nat.le_of_ble_eq_true rfl, Nat.le_of_ble_eq_true rfl⟩ hP hD hS [1, 2] (by decide +kernel) rfl rfl 1 rfl rfl rfl hl.1 rfl (Nat.le_of_ble_eq_true rfl) dX6_feed_45 ⟨Nat.le_refl _, Nat.le_refl _⟩ rfl rfl (fun H locs hP hD hS => ?_)
    refine lv_aload_n hx hb dX6_feed_48 rfl (lv_at hl 0 rfl) ?_
    refine mget X fl_X6_10 hP 0 rfl rfl dX6_feed_49 ?_
    refine lv_iload hx hb dX6_feed_52 (lv_at hl 5 rfl) ?_
    obtain ⟨r7, c7, h⟩ := o_b h
    refine mcallV X (As := [.int p5]) (rest := []) (ws1 := wX6_feed g q_o q_o_text q_o_text_bytes q_o_present q_o_trial q_o_history q_o_output q_o_answer q_o_best r7.2 o_text_length o_text_token o_text_start o_text_next o_text_faultKind o_text_faultPosition r7.1) (st1 := []) (kX5_append D g x l q_o_text q_o_text_bytes r6.2 o_text_length o_text_token o_text_start o_text_next o_text_faultKind o_text_faultPosition r6.1 p5 r7 c7) mw_X5_append ml_X6_54 ⟨Nat.le_of_ble_eq_true rfl, Nat.le_of_ble_eq_true rfl⟩ hP hD hS [1, 2] (by decide +kernel) rfl rfl 1 rfl rfl rfl hl.1 rfl (Nat.le_of_ble_eq_true rfl) dX6_feed_54 ⟨Nat.le_refl _, Nat.le_refl _⟩ rfl rfl (fun H locs hP hD hS => ?_)
    refine lv_aload_n hx hb dX6_feed_57 rfl (lv_at hl 0 rfl) ?_
    refine mget X fl_X6_10 hP 0 rfl rfl dX6_feed_58 ?_
    obtain ⟨r8, c8, h⟩ := o_b h
    refine mcallV X (As := []) (rest := []) (ws1 := wX6_feed g q_o q_o_text q_o_text_bytes q_o_present q_o_trial q_o_history q_o_output q_o_answer q_o_best r7.2 o_text_length o_text_token o_text_start o_text_next o_text_faultKind o_text_faultPosition r7.1) (st1 := [.int r8]) (kX5_filled D g x l q_o_text q_o_text_bytes r7.2 o_text_length o_text_token o_text_start o_text_next o_text_faultKind o_text_faultPosition  r8 c8) mw_X5_filled ml_X6_58 ⟨Nat.le_of_ble_eq_true rfl, Nat.le_of_ble_eq_true rfl⟩ hP hD hS [1] (by decide +kernel) rfl rfl 1 rfl rfl rfl hl.1 rfl (Nat.le_of_ble_eq_true rfl) dX6_feed_61 ⟨Nat.le_refl _, Nat.le_refl _⟩ rfl rfl (fun H locs hP hD hS => ?_)
    cases h
    exact fin _ _ _ _ rfl hP hS dX6_feed_64
  · have h := o_t b2 h
    refine lv_bipush (v := (-2)) hx hb dX6_feed_12 (by decide) ?_
    cases h
    exact fin _ _ _ _ rfl hP hS dX6_feed_14
abbrev wX6_needBetween (g : Nat → ClassId)   : va_W := []
set_option maxHeartbeats 4000000 in
set_option maxRecDepth 100000 in
theorem nX6_needBetween (D : va_G) (g : Nat → ClassId) (x : Xd) (l : Launch) (p1 : Int32) (p2 : Int32) (p3 : Int32) (R : Nat) (h : mX6_needBetween p1 p2 p3 = some R) (h0 : R = 0) : Cn D g x l yX6_needBetween cX6_needBetween 3 none 0 0 [.int p1, .int p2, .int p3] (wX6_needBetween g  ) (wX6_needBetween g  ) none := by
  refine CnV (by decide +kernel) (Nat.le_of_ble_eq_true rfl) (fun p e s m args below meth c A Q ls X hD hP hS fin hl => ?_)
  obtain ⟨hx, hb, hml, -, -, hown, hts, hK, hA, hE⟩ := id X
  unfold mX6_needBetween at h
  have hl : lv_has ls 3 [(0, .int p1), (1, .int p2), (2, .int p3)] := hl
  refine lv_iload_n hx hb dX6_needBetween_0 rfl (lv_at hl 0 rfl) ?_
  refine lv_iload_n hx hb dX6_needBetween_1 rfl (lv_at hl 1 rfl) ?_
  refine lv_icmp_lt (tgt := 10) hx hb dX6_needBetween_2 (by decide) (fun b1 => ?_) (fun b1 => ?_)
  · have h := o_t b1 h
    cases h
    exact absurd (show (2 : Nat) = 0 from h0) (by decide)
  · have h := o_f b1 h
    refine lv_iload_n hx hb dX6_needBetween_5 rfl (lv_at hl 0 rfl) ?_
    refine lv_iload_n hx hb dX6_needBetween_6 rfl (lv_at hl 2 rfl) ?_
    refine lv_icmp_le (tgt := 21) hx hb dX6_needBetween_7 (by decide) (fun b2 => ?_) (fun b2 => ?_)
    · have h := o_t b2 h
      cases h
      exact fin _ _ _ _ hP hS dX6_needBetween_21
    · have h := o_f b2 h
      cases h
      exact absurd (show (2 : Nat) = 0 from h0) (by decide)
set_option maxHeartbeats 4000000 in
set_option maxRecDepth 100000 in
theorem kX6_needBetween (D : va_G) (g : Nat → ClassId) (x : Xd) (l : Launch) (hl0 : l.stackTraces = false) (p1 : Int32) (p2 : Int32) (p3 : Int32) (R : Nat) (h : mX6_needBetween p1 p2 p3 = some R) : CnX D g x l yX6_needBetween cX6_needBetween 3 none 6 90 1 [.int p1, .int p2, .int p3] (wX6_needBetween g  ) (wX6_needBetween g  ) R none := by
  refine XnV (by decide) (Nat.le_of_ble_eq_true rfl) hl0 (fun p e s m args below meth c A Q ls X hD hP hS fin finO finT hl => ?_)
  obtain ⟨hx, hb, hml, -, -, hown, hts, hK, hA, hE⟩ := id X
  unfold mX6_needBetween at h
  have hl : lv_has ls 3 [(0, .int p1), (1, .int p2), (2, .int p3)] := hl
  refine lv_iload_n hx hb dX6_needBetween_0 rfl (lv_at hl 0 rfl) ?_
  refine lv_iload_n hx hb dX6_needBetween_1 rfl (lv_at hl 1 rfl) ?_
  refine lv_icmp_lt (tgt := 10) hx hb dX6_needBetween_2 (by decide) (fun b1 => ?_) (fun b1 => ?_)
  · have h := o_t b1 h
    cases h
    exact finT rfl _ _ _ _ _ _ _ 269 273 271 15 (show ¬ (2 : Nat) = 0 from by decide) (Or.inr tw_2) (by decide) rfl rfl (Nat.le_of_ble_eq_true rfl) (Nat.le_of_ble_eq_true rfl) (Nat.le_of_ble_eq_true rfl) (Nat.le_of_ble_eq_true rfl) rfl rfl (Nat.le_of_ble_eq_true rfl) hP hS hl.1 dX6_needBetween_10 dX6_needBetween_13 (Or.inr ⟨dX6_needBetween_14, dX6_needBetween_17, dX6_needBetween_20⟩)
  · have h := o_f b1 h
    refine lv_iload_n hx hb dX6_needBetween_5 rfl (lv_at hl 0 rfl) ?_
    refine lv_iload_n hx hb dX6_needBetween_6 rfl (lv_at hl 2 rfl) ?_
    refine lv_icmp_le (tgt := 21) hx hb dX6_needBetween_7 (by decide) (fun b2 => ?_) (fun b2 => ?_)
    · have h := o_t b2 h
      cases h
      exact fin _ _ _ _ _ _ rfl (Nat.le_of_ble_eq_true rfl) (Nat.le_of_ble_eq_true rfl) trivial hP hS dX6_needBetween_21
    · have h := o_f b2 h
      cases h
      exact finT rfl _ _ _ _ _ _ _ 269 273 271 15 (show ¬ (2 : Nat) = 0 from by decide) (Or.inr tw_2) (by decide) rfl rfl (Nat.le_of_ble_eq_true rfl) (Nat.le_of_ble_eq_true rfl) (Nat.le_of_ble_eq_true rfl) (Nat.le_of_ble_eq_true rfl) rfl rfl (Nat.le_of_ble_eq_true rfl) hP hS hl.1 dX6_needBetween_10 dX6_needBetween_13 (Or.inr ⟨dX6_needBetween_14, dX6_needBetween_17, dX6_needBetween_20⟩)
abbrev wX6_load (g : Nat → ClassId) (q_o q_o_history q_o_present q_o_present_denominator q_o_present_nodes q_o_present_nodes_ws q_o_present_nodes_xs q_o_present_nodes_ys q_o_present_numerator q_o_present_order q_o_present_product q_o_present_sorted q_o_present_weights q_o_text q_o_text_bytes q_o_trial q_o_trial_nodes q_o_trial_nodes_ws q_o_trial_nodes_xs q_o_trial_nodes_ys q_o_output q_o_answer q_o_best q_o_history_kept q_o_trial_order q_o_trial_sorted q_o_trial_weights q_o_trial_numerator q_o_trial_denominator q_o_trial_product : Nat)  (o_history_count : Int32) (o_present_denominator : Nat → Int64) (o_present_nodes_count : Int32) (o_present_nodes_mode : Int32) (o_present_nodes_degree : Int32) (o_present_nodes_ws : Nat → Int32) (o_present_nodes_xs : Nat → Int32) (o_present_nodes_ys : Nat → Int32) (o_present_numerator : Nat → Int64) (o_present_order : Nat → Int32) (o_present_product : Nat → Int64) (o_present_sorted : Nat → Int32) (o_present_weights : Nat → Int64) (o_text_filled : Int32) (o_text_length : Int32) (o_text_token : Int32) (o_text_start : Int32) (o_text_next : Int32) (o_text_faultKind : Int32) (o_text_faultPosition : Int32) (o_text_bytes : Nat → Int32) (o_trial_nodes_count : Int32) (o_trial_nodes_mode : Int32) (o_trial_nodes_degree : Int32) (o_trial_nodes_ws : Nat → Int32) (o_trial_nodes_xs : Nat → Int32) (o_trial_nodes_ys : Nat → Int32) : va_W := [(q_o, .inr (6, [.ref q_o_text, .ref q_o_present, .ref q_o_trial, .ref q_o_history, .ref q_o_output, .ref q_o_answer, .ref q_o_best])), (q_o_history, .inr (2, [.ref q_o_history_kept, .int o_history_count])), (q_o_present, .inr (0, [.ref q_o_present_nodes, .ref q_o_present_order, .ref q_o_present_sorted, .ref q_o_present_weights, .ref q_o_present_numerator, .ref q_o_present_denominator, .ref q_o_present_product])), (q_o_present_denominator, .inl (g 1, 5, .inr (.inl o_present_denominator))), (q_o_present_nodes, .inr (3, [.ref q_o_present_nodes_xs, .ref q_o_present_nodes_ys, .ref q_o_present_nodes_ws, .int o_present_nodes_count, .int o_present_nodes_mode, .int o_present_nodes_degree])), (q_o_present_nodes_ws, .inl (g 0, 5, .inl o_present_nodes_ws)), (q_o_present_nodes_xs, .inl (g 0, 5, .inl o_present_nodes_xs)), (q_o_present_nodes_ys, .inl (g 0, 5, .inl o_present_nodes_ys)), (q_o_present_numerator, .inl (g 1, 5, .inr (.inl o_present_numerator))), (q_o_present_order, .inl (g 0, 5, .inl o_present_order)), (q_o_present_product, .inl (g 1, 5, .inr (.inl o_present_product))), (q_o_present_sorted, .inl (g 0, 5, .inl o_present_sorted)), (q_o_present_weights, .inl (g 1, 5, .inr (.inl o_present_weights))), (q_o_text, .inr (5, [.ref q_o_text_bytes, .int o_text_filled, .int o_text_length, .int o_text_token, .int o_text_start, .int o_text_next, .int o_text_faultKind, .int o_text_faultPosition])), (q_o_text_bytes, .inl (g 0, 400, .inl o_text_bytes)), (q_o_trial, .inr (0, [.ref q_o_trial_nodes, .ref q_o_trial_order, .ref q_o_trial_sorted, .ref q_o_trial_weights, .ref q_o_trial_numerator, .ref q_o_trial_denominator, .ref q_o_trial_product])), (q_o_trial_nodes, .inr (3, [.ref q_o_trial_nodes_xs, .ref q_o_trial_nodes_ys, .ref q_o_trial_nodes_ws, .int o_trial_nodes_count, .int o_trial_nodes_mode, .int o_trial_nodes_degree])), (q_o_trial_nodes_ws, .inl (g 0, 5, .inl o_trial_nodes_ws)), (q_o_trial_nodes_xs, .inl (g 0, 5, .inl o_trial_nodes_xs)), (q_o_trial_nodes_ys, .inl (g 0, 5, .inl o_trial_nodes_ys))]
set_option maxHeartbeats 4000000 in
set_option maxRecDepth 100000 in
theorem nX6_load (D : va_G) (g : Nat → ClassId) (x : Xd) (l : Launch) (q_o q_o_history q_o_present q_o_present_denominator q_o_present_nodes q_o_present_nodes_ws q_o_present_nodes_xs q_o_present_nodes_ys q_o_present_numerator q_o_present_order q_o_present_product q_o_present_sorted q_o_present_weights q_o_text q_o_text_bytes q_o_trial q_o_trial_nodes q_o_trial_nodes_ws q_o_trial_nodes_xs q_o_trial_nodes_ys q_o_output q_o_answer q_o_best q_o_history_kept q_o_trial_order q_o_trial_sorted q_o_trial_weights q_o_trial_numerator q_o_trial_denominator q_o_trial_product : Nat)  (o_history_count : Int32) (o_present_denominator : Nat → Int64) (o_present_nodes_count : Int32) (o_present_nodes_mode : Int32) (o_present_nodes_degree : Int32) (o_present_nodes_ws : Nat → Int32) (o_present_nodes_xs : Nat → Int32) (o_present_nodes_ys : Nat → Int32) (o_present_numerator : Nat → Int64) (o_present_order : Nat → Int32) (o_present_product : Nat → Int64) (o_present_sorted : Nat → Int32) (o_present_weights : Nat → Int64) (o_text_filled : Int32) (o_text_length : Int32) (o_text_token : Int32) (o_text_start : Int32) (o_text_next : Int32) (o_text_faultKind : Int32) (o_text_faultPosition : Int32) (o_text_bytes : Nat → Int32) (o_trial_nodes_count : Int32) (o_trial_nodes_mode : Int32) (o_trial_nodes_degree : Int32) (o_trial_nodes_ws : Nat → Int32) (o_trial_nodes_xs : Nat → Int32) (o_trial_nodes_ys : Nat → Int32) (p1 : Int32) (R : Nat × Int32 × Int32 × (Nat → Int64) × Int32 × Int32 × Int32 × (Nat → Int32) × (Nat → Int32) × (Nat → Int32) × (Nat → Int64) × (Nat → Int32) × (Nat → Int64) × (Nat → Int32) × (Nat → Int64) × Int32 × Int32 × Int32 × Int32 × Int32 × Int32 × Int32 × Int32 × Int32 × Int32 × (Nat → Int32) × (Nat → Int32) × (Nat → Int32)) (h : mX6_load o_history_count o_present_denominator o_present_nodes_count o_present_nodes_degree o_present_nodes_mode o_present_nodes_ws o_present_nodes_xs o_present_nodes_ys o_present_numerator o_present_order o_present_product o_present_sorted o_present_weights o_text_bytes o_text_faultKind o_text_faultPosition o_text_filled o_text_length o_text_next o_text_start o_text_token o_trial_nodes_count o_trial_nodes_degree o_trial_nodes_mode o_trial_nodes_ws o_trial_nodes_xs o_trial_nodes_ys p1 = some R) (h0 : R.1 = 0) : Cn D g x l yX6_load cX6_load 3 (some .int) 8 292 [.ref q_o, .int p1] (wX6_load g q_o q_o_history q_o_present q_o_present_denominator q_o_present_nodes q_o_present_nodes_ws q_o_present_nodes_xs q_o_present_nodes_ys q_o_present_numerator q_o_present_order q_o_present_product q_o_present_sorted q_o_present_weights q_o_text q_o_text_bytes q_o_trial q_o_trial_nodes q_o_trial_nodes_ws q_o_trial_nodes_xs q_o_trial_nodes_ys q_o_output q_o_answer q_o_best q_o_history_kept q_o_trial_order q_o_trial_sorted q_o_trial_weights q_o_trial_numerator q_o_trial_denominator q_o_trial_product o_history_count o_present_denominator o_present_nodes_count o_present_nodes_mode o_present_nodes_degree o_present_nodes_ws o_present_nodes_xs o_present_nodes_ys o_present_numerator o_present_order o_present_product o_present_sorted o_present_weights o_text_filled o_text_length o_text_token o_text_start o_text_next o_text_faultKind o_text_faultPosition o_text_bytes o_trial_nodes_count o_trial_nodes_mode o_trial_nodes_degree o_trial_nodes_ws o_trial_nodes_xs o_trial_nodes_ys) (wX6_load g q_o q_o_history q_o_present q_o_present_denominator q_o_present_nodes q_o_present_nodes_ws q_o_present_nodes_xs q_o_present_nodes_ys q_o_present_numerator q_o_present_order q_o_present_product q_o_present_sorted q_o_present_weights q_o_text q_o_text_bytes q_o_trial q_o_trial_nodes q_o_trial_nodes_ws q_o_trial_nodes_xs q_o_trial_nodes_ys q_o_output q_o_answer q_o_best q_o_history_kept q_o_trial_order q_o_trial_sorted q_o_trial_weights q_o_trial_numerator q_o_trial_denominator q_o_trial_product R.2.2.1 R.2.2.2.1 R.2.2.2.2.1 R.2.2.2.2.2.2.1 R.2.2.2.2.2.1 R.2.2.2.2.2.2.2.1 R.2.2.2.2.2.2.2.2.1 R.2.2.2.2.2.2.2.2.2.1 R.2.2.2.2.2.2.2.2.2.2.1 R.2.2.2.2.2.2.2.2.2.2.2.1 R.2.2.2.2.2.2.2.2.2.2.2.2.1 R.2.2.2.2.2.2.2.2.2.2.2.2.2.1 R.2.2.2.2.2.2.2.2.2.2.2.2.2.2.1 R.2.2.2.2.2.2.2.2.2.2.2.2.2.2.2.2.2.1 R.2.2.2.2.2.2.2.2.2.2.2.2.2.2.2.2.2.2.1 R.2.2.2.2.2.2.2.2.2.2.2.2.2.2.2.2.2.2.2.2.2.1 R.2.2.2.2.2.2.2.2.2.2.2.2.2.2.2.2.2.2.2.2.1 R.2.2.2.2.2.2.2.2.2.2.2.2.2.2.2.2.2.2.2.1 R.2.2.2.2.2.2.2.2.2.2.2.2.2.2.2.1 R.2.2.2.2.2.2.2.2.2.2.2.2.2.2.2.2.1 o_text_bytes R.2.2.2.2.2.2.2.2.2.2.2.2.2.2.2.2.2.2.2.2.2.2.1 R.2.2.2.2.2.2.2.2.2.2.2.2.2.2.2.2.2.2.2.2.2.2.2.2.1 R.2.2.2.2.2.2.2.2.2.2.2.2.2.2.2.2.2.2.2.2.2.2.2.1 R.2.2.2.2.2.2.2.2.2.2.2.2.2.2.2.2.2.2.2.2.2.2.2.2.2.1 R.2.2.2.2.2.2.2.2.2.2.2.2.2.2.2.2.2.2.2.2.2.2.2.2.2.2.1 R.2.2.2.2.2.2.2.2.2.2.2.2.2.2.2.2.2.2.2.2.2.2.2.2.2.2.2) (some (.int R.2.1)) := by
  refine CnI (by decide +kernel) (Nat.le_of_ble_eq_true rfl) (fun p e s m args below meth c A Q ls X hD hP hS fin hl => ?_)
  obtain ⟨hx, hb, hml, -, -, hown, hts, hK, hA, hE⟩ := id X
  unfold mX6_load at h
  have hl : lv_has ls 3 [(0, .ref q_o), (1, .int p1)] := hl
  refine lv_iload_n hx hb dX6_load_0 rfl (lv_at hl 1 rfl) ?_
  refine lv_iconst (v := 0) hx hb dX6_load_1 (by decide) ?_
  refine lv_aload_n hx hb dX6_load_2 rfl (lv_at hl 0 rfl) ?_
  refine mget X fl_X6_10 hP 0 rfl rfl dX6_load_3 ?_
  obtain ⟨r1, c1, h⟩ := o_b h
  refine mcallV X (As := []) (rest := [.int 0, .int p1]) (ws1 := wX6_load g q_o q_o_history q_o_present q_o_present_denominator q_o_present_nodes q_o_present_nodes_ws q_o_present_nodes_xs q_o_present_nodes_ys q_o_present_numerator q_o_present_order q_o_present_product q_o_present_sorted q_o_present_weights q_o_text q_o_text_bytes q_o_trial q_o_trial_nodes q_o_trial_nodes_ws q_o_trial_nodes_xs q_o_trial_nodes_ys q_o_output q_o_answer q_o_best q_o_history_kept q_o_trial_order q_o_trial_sorted q_o_trial_weights q_o_trial_numerator q_o_trial_denominator q_o_trial_product o_history_count o_present_denominator o_present_nodes_count o_present_nodes_mode o_present_nodes_degree o_present_nodes_ws o_present_nodes_xs o_present_nodes_ys o_present_numerator o_present_order o_present_product o_present_sorted o_present_weights o_text_filled o_text_length o_text_token o_text_start o_text_next o_text_faultKind o_text_faultPosition o_text_bytes o_trial_nodes_count o_trial_nodes_mode o_trial_nodes_degree o_trial_nodes_ws o_trial_nodes_xs o_trial_nodes_ys) (st1 := [.int r1, .int 0, .int p1]) (kX5_filled D g x l q_o_text q_o_text_bytes o_text_filled o_text_length o_text_token o_text_start o_text_next o_text_faultKind o_text_faultPosition  r1 c1) mw_X5_filled ml_X6_58 ⟨Nat.le_of_ble_eq_true rfl, Nat.le_of_ble_eq_true rfl⟩ hP hD hS [13] (by decide +kernel) rfl rfl 13 rfl rfl rfl hl.1 rfl (Nat.le_of_ble_eq_true rfl) dX6_load_6 ⟨Nat.le_refl _, Nat.le_refl _⟩ rfl rfl (fun H locs hP hD hS => ?_)
  obtain ⟨r2, c2, h⟩ := o_b h
  by_cases t3 : r2 = 0
  · have h := o_t t3 h
    refine mcallS X (As := [.int p1, .int 0, .int r1]) (rest := []) (ws1 := wX6_load g q_o q_o_history q_o_present q_o_present_denominator q_o_present_nodes q_o_present_nodes_ws q_o_present_nodes_xs q_o_present_nodes_ys q_o_present_numerator q_o_present_order q_o_present_product q_o_present_sorted q_o_present_weights q_o_text q_o_text_bytes q_o_trial q_o_trial_nodes q_o_trial_nodes_ws q_o_trial_nodes_xs q_o_trial_nodes_ys q_o_output q_o_answer q_o_best q_o_history_kept q_o_trial_order q_o_trial_sorted q_o_trial_weights q_o_trial_numerator q_o_trial_denominator q_o_trial_product o_history_count o_present_denominator o_present_nodes_count o_present_nodes_mode o_present_nodes_degree o_present_nodes_ws o_present_nodes_xs o_present_nodes_ys o_present_numerator o_present_order o_present_product o_present_sorted o_present_weights o_text_filled o_text_length o_text_token o_text_start o_text_next o_text_faultKind o_text_faultPosition o_text_bytes o_trial_nodes_count o_trial_nodes_mode o_trial_nodes_degree o_trial_nodes_ws o_trial_nodes_xs o_trial_nodes_ys) (st1 := []) (nX6_needBetween D g x l   p1 0 r1 r2 c2 t3) mw_X6_needBetween ml_X6_62 ⟨Nat.le_of_ble_eq_true rfl, Nat.le_of_ble_eq_true rfl⟩ hP hD hS [] (by decide +kernel) rfl rfl rfl hl.1 rfl (Nat.le_of_ble_eq_true rfl) dX6_load_9 ⟨Nat.le_refl _, Nat.le_refl _⟩ rfl rfl (fun H locs hP hD hS => ?_)
    refine lv_aload_n hx hb dX6_load_12 rfl (lv_at hl 0 rfl) ?_
    refine mget X fl_X6_10 hP 0 rfl rfl dX6_load_13 ?_
    refine lv_iload_n hx hb dX6_load_16 rfl (lv_at hl 1 rfl) ?_
    refine lv_aload_n hx hb dX6_load_17 rfl (lv_at hl 0 rfl) ?_
    refine mget X fl_X6_23 hP 0 rfl rfl dX6_load_18 ?_
    refine mget X fl_X6_66 hP 15 rfl rfl dX6_load_21 ?_
    obtain ⟨r4, c4, h⟩ := o_b h
    refine mcallV X (As := [.int p1, .ref q_o_trial_nodes]) (rest := []) (ws1 := wX6_load g q_o q_o_history q_o_present q_o_present_denominator q_o_present_nodes q_o_present_nodes_ws q_o_present_nodes_xs q_o_present_nodes_ys q_o_present_numerator q_o_present_order q_o_present_product q_o_present_sorted q_o_present_weights q_o_text q_o_text_bytes q_o_trial q_o_trial_nodes q_o_trial_nodes_ws q_o_trial_nodes_xs q_o_trial_nodes_ys q_o_output q_o_answer q_o_best q_o_history_kept q_o_trial_order q_o_trial_sorted q_o_trial_weights q_o_trial_numerator q_o_trial_denominator q_o_trial_product o_history_count o_present_denominator o_present_nodes_count o_present_nodes_mode o_present_nodes_degree o_present_nodes_ws o_present_nodes_xs o_present_nodes_ys o_present_numerator o_present_order o_present_product o_present_sorted o_present_weights o_text_filled r4.2.2.2.1 r4.2.2.2.2.2.2.1 r4.2.2.2.2.2.1 r4.2.2.2.2.1 r4.2.1 r4.2.2.1 o_text_bytes r4.2.2.2.2.2.2.2.1 r4.2.2.2.2.2.2.2.2.2.1 r4.2.2.2.2.2.2.2.2.1 r4.2.2.2.2.2.2.2.2.2.2.1 r4.2.2.2.2.2.2.2.2.2.2.2.1 r4.2.2.2.2.2.2.2.2.2.2.2.2) (st1 := [.int r4.1]) (kX5_read D g x l q_o_text q_o_text_bytes q_o_trial_nodes q_o_trial_nodes_ws q_o_trial_nodes_xs q_o_trial_nodes_ys o_text_filled o_text_length o_text_token o_text_start o_text_next o_text_faultKind o_text_faultPosition o_text_bytes o_trial_nodes_count o_trial_nodes_mode o_trial_nodes_degree o_trial_nodes_ws o_trial_nodes_xs o_trial_nodes_ys p1 r4 c4) mw_X5_read ml_X6_70 ⟨Nat.le_of_ble_eq_true rfl, Nat.le_of_ble_eq_true rfl⟩ hP hD hS [13, 14, 16, 17, 18, 19] (by decide +kernel) rfl rfl 13 rfl rfl rfl hl.1 rfl (Nat.le_of_ble_eq_true rfl) dX6_load_24 ⟨Nat.le_refl _, Nat.le_refl _⟩ rfl rfl (fun H locs hP hD hS => ?_)
    refine lv_istore_n (lv' := [(2, .int r4.1), (0, .ref q_o), (1, .int p1)]) hx hb dX6_load_27 rfl hl (by decide) rfl (fun ls hl => ?_)
    refine lv_aload_n hx hb dX6_load_28 rfl (lv_at hl 1 rfl) ?_
    refine mget X fl_X6_10 hP 0 rfl rfl dX6_load_29 ?_
    obtain ⟨r5, c5, h⟩ := o_b h
    refine mcallV X (As := []) (rest := []) (ws1 := wX6_load g q_o q_o_history q_o_present q_o_present_denominator q_o_present_nodes q_o_present_nodes_ws q_o_present_nodes_xs q_o_present_nodes_ys q_o_present_numerator q_o_present_order q_o_present_product q_o_present_sorted q_o_present_weights q_o_text q_o_text_bytes q_o_trial q_o_trial_nodes q_o_trial_nodes_ws q_o_trial_nodes_xs q_o_trial_nodes_ys q_o_output q_o_answer q_o_best q_o_history_kept q_o_trial_order q_o_trial_sorted q_o_trial_weights q_o_trial_numerator q_o_trial_denominator q_o_trial_product o_history_count o_present_denominator o_present_nodes_count o_present_nodes_mode o_present_nodes_degree o_present_nodes_ws o_present_nodes_xs o_present_nodes_ys o_present_numerator o_present_order o_present_product o_present_sorted o_present_weights r5 r4.2.2.2.1 r4.2.2.2.2.2.2.1 r4.2.2.2.2.2.1 r4.2.2.2.2.1 r4.2.1 r4.2.2.1 o_text_bytes r4.2.2.2.2.2.2.2.1 r4.2.2.2.2.2.2.2.2.2.1 r4.2.2.2.2.2.2.2.2.1 r4.2.2.2.2.2.2.2.2.2.2.1 r4.2.2.2.2.2.2.2.2.2.2.2.1 r4.2.2.2.2.2.2.2.2.2.2.2.2) (st1 := []) (kX5_clear D g x l q_o_text q_o_text_bytes o_text_filled r4.2.2.2.1 r4.2.2.2.2.2.2.1 r4.2.2.2.2.2.1 r4.2.2.2.2.1 r4.2.1 r4.2.2.1  r5 c5) mw_X5_clear ml_X6_74 ⟨Nat.le_of_ble_eq_true rfl, Nat.le_of_ble_eq_true rfl⟩ hP hD hS [13] (by decide +kernel) rfl rfl 13 rfl rfl rfl hl.1 rfl (Nat.le_of_ble_eq_true rfl) dX6_load_32 ⟨Nat.le_refl _, Nat.le_refl _⟩ rfl rfl (fun H locs hP hD hS => ?_)
    refine lv_iload_n hx hb dX6_load_35 rfl (lv_at hl 0 rfl) ?_
    refine lv_if_ne (tgt := 42) hx hb dX6_load_36 (by decide) (fun b6 => ?_) (fun b6 => ?_)
    · have h := o_f b6 h
      refine lv_aload_n hx hb dX6_load_42 rfl (lv_at hl 1 rfl) ?_
      refine mget X fl_X6_19 hP 0 rfl rfl dX6_load_43 ?_
      refine mget X fl_X6_66 hP 2 rfl rfl dX6_load_46 ?_
      refine lv_aload_n hx hb dX6_load_49 rfl (lv_at hl 1 rfl) ?_
      refine mget X fl_X6_23 hP 0 rfl rfl dX6_load_50 ?_
      refine mget X fl_X6_66 hP 15 rfl rfl dX6_load_53 ?_
      obtain ⟨r7, c7, h⟩ := o_b h
      refine mcallV X (As := [.ref q_o_trial_nodes]) (rest := []) (ws1 := wX6_load g q_o q_o_history q_o_present q_o_present_denominator q_o_present_nodes q_o_present_nodes_ws q_o_present_nodes_xs q_o_present_nodes_ys q_o_present_numerator q_o_present_order q_o_present_product q_o_present_sorted q_o_present_weights q_o_text q_o_text_bytes q_o_trial q_o_trial_nodes q_o_trial_nodes_ws q_o_trial_nodes_xs q_o_trial_nodes_ys q_o_output q_o_answer q_o_best q_o_history_kept q_o_trial_order q_o_trial_sorted q_o_trial_weights q_o_trial_numerator q_o_trial_denominator q_o_trial_product o_history_count o_present_denominator r7.1 r7.2.2.1 r7.2.1 r7.2.2.2.1 r7.2.2.2.2.1 r7.2.2.2.2.2 o_present_numerator o_present_order o_present_product o_present_sorted o_present_weights r5 r4.2.2.2.1 r4.2.2.2.2.2.2.1 r4.2.2.2.2.2.1 r4.2.2.2.2.1 r4.2.1 r4.2.2.1 o_text_bytes r4.2.2.2.2.2.2.2.1 r4.2.2.2.2.2.2.2.2.2.1 r4.2.2.2.2.2.2.2.2.1 r4.2.2.2.2.2.2.2.2.2.2.1 r4.2.2.2.2.2.2.2.2.2.2.2.1 r4.2.2.2.2.2.2.2.2.2.2.2.2) (st1 := []) (kX3_copyFrom D g x l q_o_present_nodes q_o_present_nodes_ws q_o_present_nodes_xs q_o_present_nodes_ys q_o_trial_nodes q_o_trial_nodes_ws q_o_trial_nodes_xs q_o_trial_nodes_ys o_present_nodes_count o_present_nodes_mode o_present_nodes_degree o_present_nodes_ws o_present_nodes_xs o_present_nodes_ys r4.2.2.2.2.2.2.2.1 r4.2.2.2.2.2.2.2.2.2.1 r4.2.2.2.2.2.2.2.2.1 r4.2.2.2.2.2.2.2.2.2.2.1 r4.2.2.2.2.2.2.2.2.2.2.2.1 r4.2.2.2.2.2.2.2.2.2.2.2.2  r7 c7) mw_X3_copyFrom ml_X6_77 ⟨Nat.le_of_ble_eq_true rfl, Nat.le_of_ble_eq_true rfl⟩ hP hD hS [4, 5, 6, 7, 16, 17, 18, 19] (by decide +kernel) rfl rfl 4 rfl rfl rfl hl.1 rfl (Nat.le_of_ble_eq_true rfl) dX6_load_56 ⟨Nat.le_refl _, Nat.le_refl _⟩ rfl rfl (fun H locs hP hD hS => ?_)
      refine lv_aload_n hx hb dX6_load_59 rfl (lv_at hl 1 rfl) ?_
      refine mget X fl_X6_19 hP 0 rfl rfl dX6_load_60 ?_
      obtain ⟨r8, c8, h⟩ := o_b h
      refine mcallV X (As := []) (rest := []) (ws1 := wX6_load g q_o q_o_history q_o_present q_o_present_denominator q_o_present_nodes q_o_present_nodes_ws q_o_present_nodes_xs q_o_present_nodes_ys q_o_present_numerator q_o_present_order q_o_present_product q_o_present_sorted q_o_present_weights q_o_text q_o_text_bytes q_o_trial q_o_trial_nodes q_o_trial_nodes_ws q_o_trial_nodes_xs q_o_trial_nodes_ys q_o_output q_o_answer q_o_best q_o_history_kept q_o_trial_order q_o_trial_sorted q_o_trial_weights q_o_trial_numerator q_o_trial_denominator q_o_trial_product o_history_count r8.1 r7.1 r7.2.2.1 r7.2.1 r7.2.2.2.1 r7.2.2.2.2.1 r7.2.2.2.2.2 r8.2.1 r8.2.2.1 r8.2.2.2.1 r8.2.2.2.2.1 r8.2.2.2.2.2 r5 r4.2.2.2.1 r4.2.2.2.2.2.2.1 r4.2.2.2.2.2.1 r4.2.2.2.2.1 r4.2.1 r4.2.2.1 o_text_bytes r4.2.2.2.2.2.2.2.1 r4.2.2.2.2.2.2.2.2.2.1 r4.2.2.2.2.2.2.2.2.1 r4.2.2.2.2.2.2.2.2.2.2.1 r4.2.2.2.2.2.2.2.2.2.2.2.1 r4.2.2.2.2.2.2.2.2.2.2.2.2) (st1 := []) (kX0_reckon D g x l q_o_present q_o_present_denominator q_o_present_nodes q_o_present_nodes_ws q_o_present_nodes_xs q_o_present_nodes_ys q_o_present_numerator q_o_present_order q_o_present_product q_o_present_sorted q_o_present_weights o_present_denominator r7.1 r7.2.2.1 r7.2.1 r7.2.2.2.1 r7.2.2.2.2.1 r7.2.2.2.2.2 o_present_numerator o_present_order o_present_product o_present_sorted o_present_weights  r8 c8) mw_X0_reckon ml_X6_83 ⟨Nat.le_of_ble_eq_true rfl, Nat.le_of_ble_eq_true rfl⟩ hP hD hS [2, 3, 4, 5, 6, 7, 8, 9, 10, 11, 12] (by decide +kernel) rfl rfl 2 rfl rfl rfl hl.1 rfl (Nat.le_of_ble_eq_true rfl) dX6_load_63 ⟨Nat.le_refl _, Nat.le_refl _⟩ rfl rfl (fun H locs hP hD hS => ?_)
      refine lv_aload_n hx hb dX6_load_66 rfl (lv_at hl 1 rfl) ?_
      refine mget X fl_X6_29 hP 0 rfl rfl dX6_load_67 ?_
      obtain ⟨r9, c9, h⟩ := o_b h
      refine mcallV X (As := []) (rest := []) (ws1 := wX6_load g q_o q_o_history q_o_present q_o_present_denominator q_o_present_nodes q_o_present_nodes_ws q_o_present_nodes_xs q_o_present_nodes_ys q_o_present_numerator q_o_present_order q_o_present_product q_o_present_sorted q_o_present_weights q_o_text q_o_text_bytes q_o_trial q_o_trial_nodes q_o_trial_nodes_ws q_o_trial_nodes_xs q_o_trial_nodes_ys q_o_output q_o_answer q_o_best q_o_history_kept q_o_trial_order q_o_trial_sorted q_o_trial_weights q_o_trial_numerator q_o_trial_denominator q_o_trial_product r9 r8.1 r7.1 r7.2.2.1 r7.2.1 r7.2.2.2.1 r7.2.2.2.2.1 r7.2.2.2.2.2 r8.2.1 r8.2.2.1 r8.2.2.2.1 r8.2.2.2.2.1 r8.2.2.2.2.2 r5 r4.2.2.2.1 r4.2.2.2.2.2.2.1 r4.2.2.2.2.2.1 r4.2.2.2.2.1 r4.2.1 r4.2.2.1 o_text_bytes r4.2.2.2.2.2.2.2.1 r4.2.2.2.2.2.2.2.2.2.1 r4.2.2.2.2.2.2.2.2.1 r4.2.2.2.2.2.2.2.2.2.2.1 r4.2.2.2.2.2.2.2.2.2.2.2.1 r4.2.2.2.2.2.2.2.2.2.2.2.2) (st1 := []) (kX2_clear D g x l q_o_history q_o_history_kept o_history_count  r9 c9) mw_X2_clear ml_X6_86 ⟨Nat.le_of_ble_eq_true rfl, Nat.le_of_ble_eq_true rfl⟩ hP hD hS [1] (by decide +kernel) rfl rfl 1 rfl rfl rfl hl.1 rfl (Nat.le_of_ble_eq_true rfl) dX6_load_70 ⟨Nat.le_refl _, Nat.le_refl _⟩ rfl rfl (fun H locs hP hD hS => ?_)
      refine lv_aload_n hx hb dX6_load_73 rfl (lv_at hl 1 rfl) ?_
      refine mget X fl_X6_19 hP 0 rfl rfl dX6_load_74 ?_
      refine mget X fl_X6_66 hP 2 rfl rfl dX6_load_77 ?_
      obtain ⟨r10, c10, h⟩ := o_b h
      refine mcallV X (As := []) (rest := []) (ws1 := wX6_load g q_o q_o_history q_o_present q_o_present_denominator q_o_present_nodes q_o_present_nodes_ws q_o_present_nodes_xs q_o_present_nodes_ys q_o_present_numerator q_o_present_order q_o_present_product q_o_present_sorted q_o_present_weights q_o_text q_o_text_bytes q_o_trial q_o_trial_nodes q_o_trial_nodes_ws q_o_trial_nodes_xs q_o_trial_nodes_ys q_o_output q_o_answer q_o_best q_o_history_kept q_o_trial_order q_o_trial_sorted q_o_trial_weights q_o_trial_numerator q_o_trial_denominator q_o_trial_product r9 r8.1 r7.1 r7.2.2.1 r7.2.1 r7.2.2.2.1 r7.2.2.2.2.1 r7.2.2.2.2.2 r8.2.1 r8.2.2.1 r8.2.2.2.1 r8.2.2.2.2.1 r8.2.2.2.2.2 r5 r4.2.2.2.1 r4.2.2.2.2.2.2.1 r4.2.2.2.2.2.1 r4.2.2.2.2.1 r4.2.1 r4.2.2.1 o_text_bytes r4.2.2.2.2.2.2.2.1 r4.2.2.2.2.2.2.2.2.2.1 r4.2.2.2.2.2.2.2.2.1 r4.2.2.2.2.2.2.2.2.2.2.1 r4.2.2.2.2.2.2.2.2.2.2.2.1 r4.2.2.2.2.2.2.2.2.2.2.2.2) (st1 := [.int r10]) (kX3_size D g x l q_o_present_nodes q_o_present_nodes_xs q_o_present_nodes_ys q_o_present_nodes_ws r7.1 r7.2.2.1 r7.2.1  r10 c10) mw_X3_size ml_X6_87 ⟨Nat.le_of_ble_eq_true rfl, Nat.le_of_ble_eq_true rfl⟩ hP hD hS [4] (by decide +kernel) rfl rfl 4 rfl rfl rfl hl.1 rfl (Nat.le_of_ble_eq_true rfl) dX6_load_80 ⟨Nat.le_refl _, Nat.le_refl _⟩ rfl rfl (fun H locs hP hD hS => ?_)
      cases h
      exact fin _ _ _ _ rfl hP hS dX6_load_83
    · have h := o_t b6 h
      refine lv_bipush (v := (-3)) hx hb dX6_load_39 (by decide) ?_
      cases h
      exact fin _ _ _ _ rfl hP hS dX6_load_41
  · have h := o_f t3 h
    cases h
    exact absurd h0 t3
abbrev wX6_errorKind (g : Nat → ClassId) (q_o q_o_text q_o_present q_o_trial q_o_history q_o_output q_o_answer q_o_best q_o_text_bytes : Nat)  (o_text_filled : Int32) (o_text_length : Int32) (o_text_token : Int32) (o_text_start : Int32) (o_text_next : Int32) (o_text_faultKind : Int32) (o_text_faultPosition : Int32) : va_W := [(q_o, .inr (6, [.ref q_o_text, .ref q_o_present, .ref q_o_trial, .ref q_o_history, .ref q_o_output, .ref q_o_answer, .ref q_o_best])), (q_o_text, .inr (5, [.ref q_o_text_bytes, .int o_text_filled, .int o_text_length, .int o_text_token, .int o_text_start, .int o_text_next, .int o_text_faultKind, .int o_text_faultPosition]))]
set_option maxHeartbeats 4000000 in
set_option maxRecDepth 100000 in
theorem kX6_errorKind (D : va_G) (g : Nat → ClassId) (x : Xd) (l : Launch) (q_o q_o_text q_o_present q_o_trial q_o_history q_o_output q_o_answer q_o_best q_o_text_bytes : Nat)  (o_text_filled : Int32) (o_text_length : Int32) (o_text_token : Int32) (o_text_start : Int32) (o_text_next : Int32) (o_text_faultKind : Int32) (o_text_faultPosition : Int32) (R : Int32) (h : mX6_errorKind o_text_faultKind = some R) : Cn D g x l yX6_errorKind cX6_errorKind 1 (some .int) 1 20 [.ref q_o] (wX6_errorKind g q_o q_o_text q_o_present q_o_trial q_o_history q_o_output q_o_answer q_o_best q_o_text_bytes o_text_filled o_text_length o_text_token o_text_start o_text_next o_text_faultKind o_text_faultPosition) (wX6_errorKind g q_o q_o_text q_o_present q_o_trial q_o_history q_o_output q_o_answer q_o_best q_o_text_bytes o_text_filled o_text_length o_text_token o_text_start o_text_next o_text_faultKind o_text_faultPosition) (some (.int R)) := by
  refine CnI (by decide +kernel) (Nat.le_of_ble_eq_true rfl) (fun p e s m args below meth c A Q ls X hD hP hS fin hl => ?_)
  obtain ⟨hx, hb, hml, -, -, hown, hts, hK, hA, hE⟩ := id X
  unfold mX6_errorKind at h
  have hl : lv_has ls 1 [(0, .ref q_o)] := hl
  refine lv_aload_n hx hb dX6_errorKind_0 rfl (lv_at hl 0 rfl) ?_
  refine mget X fl_X6_10 hP 0 rfl rfl dX6_errorKind_1 ?_
  obtain ⟨r1, c1, h⟩ := o_b h
  refine mcallV X (As := []) (rest := []) (ws1 := wX6_errorKind g q_o q_o_text q_o_present q_o_trial q_o_history q_o_output q_o_answer q_o_best q_o_text_bytes o_text_filled o_text_length o_text_token o_text_start o_text_next o_text_faultKind o_text_faultPosition) (st1 := [.int r1]) (kX5_faultKind D g x l q_o_text q_o_text_bytes o_text_filled o_text_length o_text_token o_text_start o_text_next o_text_faultKind o_text_faultPosition  r1 c1) mw_X5_faultKind ml_X6_90 ⟨Nat.le_of_ble_eq_true rfl, Nat.le_of_ble_eq_true rfl⟩ hP hD hS [1] (by decide +kernel) rfl rfl 1 rfl rfl rfl hl.1 rfl (Nat.le_of_ble_eq_true rfl) dX6_errorKind_4 ⟨Nat.le_refl _, Nat.le_refl _⟩ rfl rfl (fun H locs hP hD hS => ?_)
  cases h
  exact fin _ _ _ _ rfl hP hS dX6_errorKind_7
abbrev wX6_mode (g : Nat → ClassId) (q_o q_o_present q_o_present_nodes q_o_text q_o_trial q_o_history q_o_output q_o_answer q_o_best q_o_present_order q_o_present_sorted q_o_present_weights q_o_present_numerator q_o_present_denominator q_o_present_product q_o_present_nodes_xs q_o_present_nodes_ys q_o_present_nodes_ws : Nat)  (o_present_nodes_count : Int32) (o_present_nodes_mode : Int32) (o_present_nodes_degree : Int32) : va_W := [(q_o, .inr (6, [.ref q_o_text, .ref q_o_present, .ref q_o_trial, .ref q_o_history, .ref q_o_output, .ref q_o_answer, .ref q_o_best])), (q_o_present, .inr (0, [.ref q_o_present_nodes, .ref q_o_present_order, .ref q_o_present_sorted, .ref q_o_present_weights, .ref q_o_present_numerator, .ref q_o_present_denominator, .ref q_o_present_product])), (q_o_present_nodes, .inr (3, [.ref q_o_present_nodes_xs, .ref q_o_present_nodes_ys, .ref q_o_present_nodes_ws, .int o_present_nodes_count, .int o_present_nodes_mode, .int o_present_nodes_degree]))]
set_option maxHeartbeats 4000000 in
set_option maxRecDepth 100000 in
theorem kX6_mode (D : va_G) (g : Nat → ClassId) (x : Xd) (l : Launch) (q_o q_o_present q_o_present_nodes q_o_text q_o_trial q_o_history q_o_output q_o_answer q_o_best q_o_present_order q_o_present_sorted q_o_present_weights q_o_present_numerator q_o_present_denominator q_o_present_product q_o_present_nodes_xs q_o_present_nodes_ys q_o_present_nodes_ws : Nat)  (o_present_nodes_count : Int32) (o_present_nodes_mode : Int32) (o_present_nodes_degree : Int32) (R : Int32) (h : mX6_mode o_present_nodes_mode = some R) : Cn D g x l yX6_mode cX6_mode 1 (some .int) 0 0 [.ref q_o] (wX6_mode g q_o q_o_present q_o_present_nodes q_o_text q_o_trial q_o_history q_o_output q_o_answer q_o_best q_o_present_order q_o_present_sorted q_o_present_weights q_o_present_numerator q_o_present_denominator q_o_present_product q_o_present_nodes_xs q_o_present_nodes_ys q_o_present_nodes_ws o_present_nodes_count o_present_nodes_mode o_present_nodes_degree) (wX6_mode g q_o q_o_present q_o_present_nodes q_o_text q_o_trial q_o_history q_o_output q_o_answer q_o_best q_o_present_order q_o_present_sorted q_o_present_weights q_o_present_numerator q_o_present_denominator q_o_present_product q_o_present_nodes_xs q_o_present_nodes_ys q_o_present_nodes_ws o_present_nodes_count o_present_nodes_mode o_present_nodes_degree) (some (.int R)) := by
  refine CnI (by decide +kernel) (Nat.le_of_ble_eq_true rfl) (fun p e s m args below meth c A Q ls X hD hP hS fin hl => ?_)
  obtain ⟨hx, hb, hml, -, -, hown, hts, hK, hA, hE⟩ := id X
  unfold mX6_mode at h
  have hl : lv_has ls 1 [(0, .ref q_o)] := hl
  refine lv_aload_n hx hb dX6_mode_0 rfl (lv_at hl 0 rfl) ?_
  refine mget X fl_X6_19 hP 0 rfl rfl dX6_mode_1 ?_
  refine mget X fl_X6_66 hP 1 rfl rfl dX6_mode_4 ?_
  refine mget X fl_X6_96 hP 2 rfl rfl dX6_mode_7 ?_
  cases h
  exact fin _ _ _ _ rfl hP hS dX6_mode_10
abbrev wX6_needPoint (g : Nat → ClassId) (q_o q_o_present q_o_present_nodes q_o_text q_o_trial q_o_history q_o_output q_o_answer q_o_best q_o_present_order q_o_present_sorted q_o_present_weights q_o_present_numerator q_o_present_denominator q_o_present_product q_o_present_nodes_xs q_o_present_nodes_ys q_o_present_nodes_ws : Nat)  (o_present_nodes_count : Int32) (o_present_nodes_mode : Int32) (o_present_nodes_degree : Int32) : va_W := [(q_o, .inr (6, [.ref q_o_text, .ref q_o_present, .ref q_o_trial, .ref q_o_history, .ref q_o_output, .ref q_o_answer, .ref q_o_best])), (q_o_present, .inr (0, [.ref q_o_present_nodes, .ref q_o_present_order, .ref q_o_present_sorted, .ref q_o_present_weights, .ref q_o_present_numerator, .ref q_o_present_denominator, .ref q_o_present_product])), (q_o_present_nodes, .inr (3, [.ref q_o_present_nodes_xs, .ref q_o_present_nodes_ys, .ref q_o_present_nodes_ws, .int o_present_nodes_count, .int o_present_nodes_mode, .int o_present_nodes_degree]))]
set_option maxHeartbeats 4000000 in
set_option maxRecDepth 100000 in
theorem nX6_needPoint (D : va_G) (g : Nat → ClassId) (x : Xd) (l : Launch) (q_o q_o_present q_o_present_nodes q_o_text q_o_trial q_o_history q_o_output q_o_answer q_o_best q_o_present_order q_o_present_sorted q_o_present_weights q_o_present_numerator q_o_present_denominator q_o_present_product q_o_present_nodes_xs q_o_present_nodes_ys q_o_present_nodes_ws : Nat)  (o_present_nodes_count : Int32) (o_present_nodes_mode : Int32) (o_present_nodes_degree : Int32) (p1 : Int32) (R : Nat) (h : mX6_needPoint o_present_nodes_count p1 = some R) (h0 : R = 0) : Cn D g x l yX6_needPoint cX6_needPoint 2 none 1 21 [.ref q_o, .int p1] (wX6_needPoint g q_o q_o_present q_o_present_nodes q_o_text q_o_trial q_o_history q_o_output q_o_answer q_o_best q_o_present_order q_o_present_sorted q_o_present_weights q_o_present_numerator q_o_present_denominator q_o_present_product q_o_present_nodes_xs q_o_present_nodes_ys q_o_present_nodes_ws o_present_nodes_count o_present_nodes_mode o_present_nodes_degree) (wX6_needPoint g q_o q_o_present q_o_present_nodes q_o_text q_o_trial q_o_history q_o_output q_o_answer q_o_best q_o_present_order q_o_present_sorted q_o_present_weights q_o_present_numerator q_o_present_denominator q_o_present_product q_o_present_nodes_xs q_o_present_nodes_ys q_o_present_nodes_ws o_present_nodes_count o_present_nodes_mode o_present_nodes_degree) none := by
  refine CnV (by decide +kernel) (Nat.le_of_ble_eq_true rfl) (fun p e s m args below meth c A Q ls X hD hP hS fin hl => ?_)
  obtain ⟨hx, hb, hml, -, -, hown, hts, hK, hA, hE⟩ := id X
  unfold mX6_needPoint at h
  have hl : lv_has ls 2 [(0, .ref q_o), (1, .int p1)] := hl
  refine lv_aload_n hx hb dX6_needPoint_0 rfl (lv_at hl 0 rfl) ?_
  refine mget X fl_X6_19 hP 0 rfl rfl dX6_needPoint_1 ?_
  refine mget X fl_X6_66 hP 1 rfl rfl dX6_needPoint_4 ?_
  refine lv_iload_n hx hb dX6_needPoint_7 rfl (lv_at hl 1 rfl) ?_
  obtain ⟨r1, c1, h⟩ := o_b h
  refine mcallV X (As := [.int p1]) (rest := []) (ws1 := wX6_needPoint g q_o q_o_present q_o_present_nodes q_o_text q_o_trial q_o_history q_o_output q_o_answer q_o_best q_o_present_order q_o_present_sorted q_o_present_weights q_o_present_numerator q_o_present_denominator q_o_present_product q_o_present_nodes_xs q_o_present_nodes_ys q_o_present_nodes_ws o_present_nodes_count o_present_nodes_mode o_present_nodes_degree) (st1 := [.int r1]) (kX3_has D g x l q_o_present_nodes q_o_present_nodes_xs q_o_present_nodes_ys q_o_present_nodes_ws o_present_nodes_count o_present_nodes_mode o_present_nodes_degree p1 r1 c1) mw_X3_has ml_X6_264 ⟨Nat.le_of_ble_eq_true rfl, Nat.le_of_ble_eq_true rfl⟩ hP hD hS [2] (by decide +kernel) rfl rfl 2 rfl rfl rfl hl.1 rfl (Nat.le_of_ble_eq_true rfl) dX6_needPoint_8 ⟨Nat.le_refl _, Nat.le_refl _⟩ rfl rfl (fun H locs hP hD hS => ?_)
  refine lv_if_ne (tgt := 25) hx hb dX6_needPoint_11 (by decide) (fun b2 => ?_) (fun b2 => ?_)
  · have h := o_f b2 h
    cases h
    exact fin _ _ _ _ hP hS dX6_needPoint_25
  · have h := o_t b2 h
    cases h
    exact absurd (show (1 : Nat) = 0 from h0) (by decide)
set_option maxHeartbeats 4000000 in
set_option maxRecDepth 100000 in
theorem kX6_needPoint (D : va_G) (g : Nat → ClassId) (x : Xd) (l : Launch) (hl0 : l.stackTraces = false) (q_o q_o_present q_o_present_nodes q_o_text q_o_trial q_o_history q_o_output q_o_answer q_o_best q_o_present_order q_o_present_sorted q_o_present_weights q_o_present_numerator q_o_present_denominator q_o_present_product q_o_present_nodes_xs q_o_present_nodes_ys q_o_present_nodes_ws : Nat)  (o_present_nodes_count : Int32) (o_present_nodes_mode : Int32) (o_present_nodes_degree : Int32) (p1 : Int32) (R : Nat) (h : mX6_needPoint o_present_nodes_count p1 = some R) : CnX D g x l yX6_needPoint cX6_needPoint 2 none 6 90 1 [.ref q_o, .int p1] (wX6_needPoint g q_o q_o_present q_o_present_nodes q_o_text q_o_trial q_o_history q_o_output q_o_answer q_o_best q_o_present_order q_o_present_sorted q_o_present_weights q_o_present_numerator q_o_present_denominator q_o_present_product q_o_present_nodes_xs q_o_present_nodes_ys q_o_present_nodes_ws o_present_nodes_count o_present_nodes_mode o_present_nodes_degree) (wX6_needPoint g q_o q_o_present q_o_present_nodes q_o_text q_o_trial q_o_history q_o_output q_o_answer q_o_best q_o_present_order q_o_present_sorted q_o_present_weights q_o_present_numerator q_o_present_denominator q_o_present_product q_o_present_nodes_xs q_o_present_nodes_ys q_o_present_nodes_ws o_present_nodes_count o_present_nodes_mode o_present_nodes_degree) R none := by
  refine XnV (by decide) (Nat.le_of_ble_eq_true rfl) hl0 (fun p e s m args below meth c A Q ls X hD hP hS fin finO finT hl => ?_)
  obtain ⟨hx, hb, hml, -, -, hown, hts, hK, hA, hE⟩ := id X
  unfold mX6_needPoint at h
  have hl : lv_has ls 2 [(0, .ref q_o), (1, .int p1)] := hl
  refine lv_aload_n hx hb dX6_needPoint_0 rfl (lv_at hl 0 rfl) ?_
  refine mget X fl_X6_19 hP 0 rfl rfl dX6_needPoint_1 ?_
  refine mget X fl_X6_66 hP 1 rfl rfl dX6_needPoint_4 ?_
  refine lv_iload_n hx hb dX6_needPoint_7 rfl (lv_at hl 1 rfl) ?_
  obtain ⟨r1, c1, h⟩ := o_b h
  refine mcallV X (As := [.int p1]) (rest := []) (ws1 := wX6_needPoint g q_o q_o_present q_o_present_nodes q_o_text q_o_trial q_o_history q_o_output q_o_answer q_o_best q_o_present_order q_o_present_sorted q_o_present_weights q_o_present_numerator q_o_present_denominator q_o_present_product q_o_present_nodes_xs q_o_present_nodes_ys q_o_present_nodes_ws o_present_nodes_count o_present_nodes_mode o_present_nodes_degree) (st1 := [.int r1]) (kX3_has D g x l q_o_present_nodes q_o_present_nodes_xs q_o_present_nodes_ys q_o_present_nodes_ws o_present_nodes_count o_present_nodes_mode o_present_nodes_degree p1 r1 c1) mw_X3_has ml_X6_264 ⟨Nat.le_of_ble_eq_true rfl, Nat.le_of_ble_eq_true rfl⟩ hP hD hS [2] (by decide +kernel) rfl rfl 2 rfl rfl rfl hl.1 rfl (Nat.le_of_ble_eq_true rfl) dX6_needPoint_8 ⟨Nat.le_of_ble_eq_true rfl, Nat.le_of_ble_eq_true rfl⟩ rfl rfl (fun H locs hP hD hS => ?_)
  refine lv_if_ne (tgt := 25) hx hb dX6_needPoint_11 (by decide) (fun b2 => ?_) (fun b2 => ?_)
  · have h := o_f b2 h
    cases h
    exact fin _ _ _ _ _ _ rfl (Nat.le_of_ble_eq_true rfl) (Nat.le_of_ble_eq_true rfl) trivial hP hS dX6_needPoint_25
  · have h := o_t b2 h
    cases h
    exact finT rfl _ _ _ _ _ _ _ 255 259 267 14 (show ¬ (1 : Nat) = 0 from by decide) (Or.inr tw_1) (by decide) rfl rfl (Nat.le_of_ble_eq_true rfl) (Nat.le_of_ble_eq_true rfl) (Nat.le_of_ble_eq_true rfl) (Nat.le_of_ble_eq_true rfl) rfl rfl (Nat.le_of_ble_eq_true rfl) hP hS hl.1 dX6_needPoint_14 dX6_needPoint_17 (Or.inr ⟨dX6_needPoint_18, dX6_needPoint_21, dX6_needPoint_24⟩)
abbrev wX6_point (g : Nat → ClassId) (q_o q_o_present q_o_present_nodes q_o_present_nodes_ws q_o_present_nodes_xs q_o_present_nodes_ys q_o_text q_o_trial q_o_history q_o_output q_o_answer q_o_best q_o_present_order q_o_present_sorted q_o_present_weights q_o_present_numerator q_o_present_denominator q_o_present_product : Nat)  (o_present_nodes_count : Int32) (o_present_nodes_mode : Int32) (o_present_nodes_degree : Int32) (o_present_nodes_ws : Nat → Int32) (o_present_nodes_xs : Nat → Int32) (o_present_nodes_ys : Nat → Int32) : va_W := [(q_o, .inr (6, [.ref q_o_text, .ref q_o_present, .ref q_o_trial, .ref q_o_history, .ref q_o_output, .ref q_o_answer, .ref q_o_best])), (q_o_present, .inr (0, [.ref q_o_present_nodes, .ref q_o_present_order, .ref q_o_present_sorted, .ref q_o_present_weights, .ref q_o_present_numerator, .ref q_o_present_denominator, .ref q_o_present_product])), (q_o_present_nodes, .inr (3, [.ref q_o_present_nodes_xs, .ref q_o_present_nodes_ys, .ref q_o_present_nodes_ws, .int o_present_nodes_count, .int o_present_nodes_mode, .int o_present_nodes_degree])), (q_o_present_nodes_ws, .inl (g 0, 5, .inl o_present_nodes_ws)), (q_o_present_nodes_xs, .inl (g 0, 5, .inl o_present_nodes_xs)), (q_o_present_nodes_ys, .inl (g 0, 5, .inl o_present_nodes_ys))]
set_option maxHeartbeats 4000000 in
set_option maxRecDepth 100000 in
theorem nX6_point (D : va_G) (g : Nat → ClassId) (x : Xd) (l : Launch) (q_o q_o_present q_o_present_nodes q_o_present_nodes_ws q_o_present_nodes_xs q_o_present_nodes_ys q_o_text q_o_trial q_o_history q_o_output q_o_answer q_o_best q_o_present_order q_o_present_sorted q_o_present_weights q_o_present_numerator q_o_present_denominator q_o_present_product : Nat)  (o_present_nodes_count : Int32) (o_present_nodes_mode : Int32) (o_present_nodes_degree : Int32) (o_present_nodes_ws : Nat → Int32) (o_present_nodes_xs : Nat → Int32) (o_present_nodes_ys : Nat → Int32) (p1 : Int32) (p2 : Int32) (R : Nat × Int32) (h : mX6_point o_present_nodes_count o_present_nodes_ws o_present_nodes_xs o_present_nodes_ys p1 p2 = some R) (h0 : R.1 = 0) : Cn D g x l yX6_point cX6_point 3 (some .int) 2 44 [.ref q_o, .int p1, .int p2] (wX6_point g q_o q_o_present q_o_present_nodes q_o_present_nodes_ws q_o_present_nodes_xs q_o_present_nodes_ys q_o_text q_o_trial q_o_history q_o_output q_o_answer q_o_best q_o_present_order q_o_present_sorted q_o_present_weights q_o_present_numerator q_o_present_denominator q_o_present_product o_present_nodes_count o_present_nodes_mode o_present_nodes_degree o_present_nodes_ws o_present_nodes_xs o_present_nodes_ys) (wX6_point g q_o q_o_present q_o_present_nodes q_o_present_nodes_ws q_o_present_nodes_xs q_o_present_nodes_ys q_o_text q_o_trial q_o_history q_o_output q_o_answer q_o_best q_o_present_order q_o_present_sorted q_o_present_weights q_o_present_numerator q_o_present_denominator q_o_present_product o_present_nodes_count o_present_nodes_mode o_present_nodes_degree o_present_nodes_ws o_present_nodes_xs o_present_nodes_ys) (some (.int R.2)) := by
  refine CnI (by decide +kernel) (Nat.le_of_ble_eq_true rfl) (fun p e s m args below meth c A Q ls X hD hP hS fin hl => ?_)
  obtain ⟨hx, hb, hml, -, -, hown, hts, hK, hA, hE⟩ := id X
  unfold mX6_point at h
  have hl : lv_has ls 3 [(0, .ref q_o), (1, .int p1), (2, .int p2)] := hl
  refine lv_aload_n hx hb dX6_point_0 rfl (lv_at hl 0 rfl) ?_
  refine lv_iload_n hx hb dX6_point_1 rfl (lv_at hl 1 rfl) ?_
  obtain ⟨r1, c1, h⟩ := o_b h
  by_cases t2 : r1 = 0
  · have h := o_t t2 h
    refine mcallV X (As := [.int p1]) (rest := []) (ws1 := wX6_point g q_o q_o_present q_o_present_nodes q_o_present_nodes_ws q_o_present_nodes_xs q_o_present_nodes_ys q_o_text q_o_trial q_o_history q_o_output q_o_answer q_o_best q_o_present_order q_o_present_sorted q_o_present_weights q_o_present_numerator q_o_present_denominator q_o_present_product o_present_nodes_count o_present_nodes_mode o_present_nodes_degree o_present_nodes_ws o_present_nodes_xs o_present_nodes_ys) (st1 := []) (nX6_needPoint D g x l q_o q_o_present q_o_present_nodes q_o_text q_o_trial q_o_history q_o_output q_o_answer q_o_best q_o_present_order q_o_present_sorted q_o_present_weights q_o_present_numerator q_o_present_denominator q_o_present_product q_o_present_nodes_xs q_o_present_nodes_ys q_o_present_nodes_ws o_present_nodes_count o_present_nodes_mode o_present_nodes_degree p1 r1 c1 t2) mw_X6_needPoint ml_X6_103 ⟨Nat.le_of_ble_eq_true rfl, Nat.le_of_ble_eq_true rfl⟩ hP hD hS [0, 1, 2] (by decide +kernel) rfl rfl 0 rfl rfl rfl hl.1 rfl (Nat.le_of_ble_eq_true rfl) dX6_point_2 ⟨Nat.le_refl _, Nat.le_refl _⟩ rfl rfl (fun H locs hP hD hS => ?_)
    refine lv_iload_n hx hb dX6_point_5 rfl (lv_at hl 2 rfl) ?_
    refine lv_iconst (v := 0) hx hb dX6_point_6 (by decide) ?_
    refine lv_iconst (v := 3) hx hb dX6_point_7 (by decide) ?_
    obtain ⟨r3, c3, h⟩ := o_b h
    by_cases t4 : r3 = 0
    · have h := o_t t4 h
      refine mcallS X (As := [.int p2, .int 0, .int 3]) (rest := []) (ws1 := wX6_point g q_o q_o_present q_o_present_nodes q_o_present_nodes_ws q_o_present_nodes_xs q_o_present_nodes_ys q_o_text q_o_trial q_o_history q_o_output q_o_answer q_o_best q_o_present_order q_o_present_sorted q_o_present_weights q_o_present_numerator q_o_present_denominator q_o_present_product o_present_nodes_count o_present_nodes_mode o_present_nodes_degree o_present_nodes_ws o_present_nodes_xs o_present_nodes_ys) (st1 := []) (nX6_needBetween D g x l   p2 0 3 r3 c3 t4) mw_X6_needBetween ml_X6_62 ⟨Nat.le_of_ble_eq_true rfl, Nat.le_of_ble_eq_true rfl⟩ hP hD hS [] (by decide +kernel) rfl rfl rfl hl.1 rfl (Nat.le_of_ble_eq_true rfl) dX6_point_8 ⟨Nat.le_refl _, Nat.le_refl _⟩ rfl rfl (fun H locs hP hD hS => ?_)
      refine lv_iload_n hx hb dX6_point_11 rfl (lv_at hl 2 rfl) ?_
      by_cases b5 : p2 = 0
      · have h := o_t b5 h
        refine lv_tableIn (off := 28) (tgt := 40) hx hb dX6_point_12 (by rw [b5]; decide) (by rw [b5]; decide) (by rw [b5]; rfl) (by decide) ?_
        refine lv_aload_n hx hb dX6_point_40 rfl (lv_at hl 0 rfl) ?_
        refine mget X fl_X6_19 hP 0 rfl rfl dX6_point_41 ?_
        refine mget X fl_X6_66 hP 1 rfl rfl dX6_point_44 ?_
        refine lv_iload_n hx hb dX6_point_47 rfl (lv_at hl 1 rfl) ?_
        obtain ⟨r6, c6, h⟩ := o_b h
        refine mcallV X (As := [.int p1]) (rest := []) (ws1 := wX6_point g q_o q_o_present q_o_present_nodes q_o_present_nodes_ws q_o_present_nodes_xs q_o_present_nodes_ys q_o_text q_o_trial q_o_history q_o_output q_o_answer q_o_best q_o_present_order q_o_present_sorted q_o_present_weights q_o_present_numerator q_o_present_denominator q_o_present_product o_present_nodes_count o_present_nodes_mode o_present_nodes_degree o_present_nodes_ws o_present_nodes_xs o_present_nodes_ys) (st1 := [.int r6]) (kX3_xOf D g x l q_o_present_nodes q_o_present_nodes_xs q_o_present_nodes_ys q_o_present_nodes_ws o_present_nodes_count o_present_nodes_mode o_present_nodes_degree o_present_nodes_xs p1 r6 c6) mw_X3_xOf ml_X6_106 ⟨Nat.le_of_ble_eq_true rfl, Nat.le_of_ble_eq_true rfl⟩ hP hD hS [2, 4] (by decide +kernel) rfl rfl 2 rfl rfl rfl hl.1 rfl (Nat.le_of_ble_eq_true rfl) dX6_point_48 ⟨Nat.le_refl _, Nat.le_refl _⟩ rfl rfl (fun H locs hP hD hS => ?_)
        cases h
        exact fin _ _ _ _ rfl hP hS dX6_point_51
      · have h := o_f b5 h
        by_cases b7 : p2 = 1
        · have h := o_t b7 h
          refine lv_tableIn (off := 40) (tgt := 52) hx hb dX6_point_12 (by rw [b7]; decide) (by rw [b7]; decide) (by rw [b7]; rfl) (by decide) ?_
          refine lv_aload_n hx hb dX6_point_52 rfl (lv_at hl 0 rfl) ?_
          refine mget X fl_X6_19 hP 0 rfl rfl dX6_point_53 ?_
          refine mget X fl_X6_66 hP 1 rfl rfl dX6_point_56 ?_
          refine lv_iload_n hx hb dX6_point_59 rfl (lv_at hl 1 rfl) ?_
          obtain ⟨r8, c8, h⟩ := o_b h
          refine mcallV X (As := [.int p1]) (rest := []) (ws1 := wX6_point g q_o q_o_present q_o_present_nodes q_o_present_nodes_ws q_o_present_nodes_xs q_o_present_nodes_ys q_o_text q_o_trial q_o_history q_o_output q_o_answer q_o_best q_o_present_order q_o_present_sorted q_o_present_weights q_o_present_numerator q_o_present_denominator q_o_present_product o_present_nodes_count o_present_nodes_mode o_present_nodes_degree o_present_nodes_ws o_present_nodes_xs o_present_nodes_ys) (st1 := [.int r8]) (kX3_yOf D g x l q_o_present_nodes q_o_present_nodes_ys q_o_present_nodes_xs q_o_present_nodes_ws o_present_nodes_count o_present_nodes_mode o_present_nodes_degree o_present_nodes_ys p1 r8 c8) mw_X3_yOf ml_X6_110 ⟨Nat.le_of_ble_eq_true rfl, Nat.le_of_ble_eq_true rfl⟩ hP hD hS [2, 5] (by decide +kernel) rfl rfl 2 rfl rfl rfl hl.1 rfl (Nat.le_of_ble_eq_true rfl) dX6_point_60 ⟨Nat.le_refl _, Nat.le_refl _⟩ rfl rfl (fun H locs hP hD hS => ?_)
          cases h
          exact fin _ _ _ _ rfl hP hS dX6_point_63
        · have h := o_f b7 h
          by_cases b9 : p2 = 2
          · have h := o_t b9 h
            refine lv_tableIn (off := 52) (tgt := 64) hx hb dX6_point_12 (by rw [b9]; decide) (by rw [b9]; decide) (by rw [b9]; rfl) (by decide) ?_
            refine lv_aload_n hx hb dX6_point_64 rfl (lv_at hl 0 rfl) ?_
            refine mget X fl_X6_19 hP 0 rfl rfl dX6_point_65 ?_
            refine mget X fl_X6_66 hP 1 rfl rfl dX6_point_68 ?_
            refine lv_iload_n hx hb dX6_point_71 rfl (lv_at hl 1 rfl) ?_
            obtain ⟨r10, c10, h⟩ := o_b h
            refine mcallV X (As := [.int p1]) (rest := []) (ws1 := wX6_point g q_o q_o_present q_o_present_nodes q_o_present_nodes_ws q_o_present_nodes_xs q_o_present_nodes_ys q_o_text q_o_trial q_o_history q_o_output q_o_answer q_o_best q_o_present_order q_o_present_sorted q_o_present_weights q_o_present_numerator q_o_present_denominator q_o_present_product o_present_nodes_count o_present_nodes_mode o_present_nodes_degree o_present_nodes_ws o_present_nodes_xs o_present_nodes_ys) (st1 := [.int r10]) (kX3_wOf D g x l q_o_present_nodes q_o_present_nodes_ws q_o_present_nodes_xs q_o_present_nodes_ys o_present_nodes_count o_present_nodes_mode o_present_nodes_degree o_present_nodes_ws p1 r10 c10) mw_X3_wOf ml_X6_113 ⟨Nat.le_of_ble_eq_true rfl, Nat.le_of_ble_eq_true rfl⟩ hP hD hS [2, 3] (by decide +kernel) rfl rfl 2 rfl rfl rfl hl.1 rfl (Nat.le_of_ble_eq_true rfl) dX6_point_72 ⟨Nat.le_refl _, Nat.le_refl _⟩ rfl rfl (fun H locs hP hD hS => ?_)
            cases h
            exact fin _ _ _ _ rfl hP hS dX6_point_75
          · have h := o_f b9 h
            refine lv_tableOut (tgt := 76) hx hb dX6_point_12 (sw_out3 b5 b7 b9) (by decide) ?_
            refine lv_aload_n hx hb dX6_point_76 rfl (lv_at hl 0 rfl) ?_
            refine mget X fl_X6_19 hP 0 rfl rfl dX6_point_77 ?_
            refine mget X fl_X6_66 hP 1 rfl rfl dX6_point_80 ?_
            refine lv_iload_n hx hb dX6_point_83 rfl (lv_at hl 1 rfl) ?_
            obtain ⟨r11, c11, h⟩ := o_b h
            refine mcallV X (As := [.int p1]) (rest := []) (ws1 := wX6_point g q_o q_o_present q_o_present_nodes q_o_present_nodes_ws q_o_present_nodes_xs q_o_present_nodes_ys q_o_text q_o_trial q_o_history q_o_output q_o_answer q_o_best q_o_present_order q_o_present_sorted q_o_present_weights q_o_present_numerator q_o_present_denominator q_o_present_product o_present_nodes_count o_present_nodes_mode o_present_nodes_degree o_present_nodes_ws o_present_nodes_xs o_present_nodes_ys) (st1 := [.int r11]) (kX3_placeOf D g x l q_o_present_nodes q_o_present_nodes_xs q_o_present_nodes_ys q_o_present_nodes_ws o_present_nodes_count o_present_nodes_mode o_present_nodes_degree o_present_nodes_xs p1 r11 c11) mw_X3_placeOf ml_X6_116 ⟨Nat.le_of_ble_eq_true rfl, Nat.le_of_ble_eq_true rfl⟩ hP hD hS [2, 4] (by decide +kernel) rfl rfl 2 rfl rfl rfl hl.1 rfl (Nat.le_of_ble_eq_true rfl) dX6_point_84 ⟨Nat.le_refl _, Nat.le_refl _⟩ rfl rfl (fun H locs hP hD hS => ?_)
            cases h
            exact fin _ _ _ _ rfl hP hS dX6_point_87
    · have h := o_f t4 h
      cases h
      exact absurd h0 t4
  · have h := o_f t2 h
    cases h
    exact absurd h0 t2
abbrev wX6_weight (g : Nat → ClassId) (q_o q_o_present q_o_present_nodes q_o_present_weights q_o_text q_o_trial q_o_history q_o_output q_o_answer q_o_best q_o_present_order q_o_present_sorted q_o_present_numerator q_o_present_denominator q_o_present_product q_o_present_nodes_xs q_o_present_nodes_ys q_o_present_nodes_ws : Nat)  (o_present_nodes_count : Int32) (o_present_nodes_mode : Int32) (o_present_nodes_degree : Int32) (o_present_weights : Nat → Int64) : va_W := [(q_o, .inr (6, [.ref q_o_text, .ref q_o_present, .ref q_o_trial, .ref q_o_history, .ref q_o_output, .ref q_o_answer, .ref q_o_best])), (q_o_present, .inr (0, [.ref q_o_present_nodes, .ref q_o_present_order, .ref q_o_present_sorted, .ref q_o_present_weights, .ref q_o_present_numerator, .ref q_o_present_denominator, .ref q_o_present_product])), (q_o_present_nodes, .inr (3, [.ref q_o_present_nodes_xs, .ref q_o_present_nodes_ys, .ref q_o_present_nodes_ws, .int o_present_nodes_count, .int o_present_nodes_mode, .int o_present_nodes_degree])), (q_o_present_weights, .inl (g 1, 5, .inr (.inl o_present_weights)))]
set_option maxHeartbeats 4000000 in
set_option maxRecDepth 100000 in
theorem nX6_weight (D : va_G) (g : Nat → ClassId) (x : Xd) (l : Launch) (q_o q_o_present q_o_present_nodes q_o_present_weights q_o_text q_o_trial q_o_history q_o_output q_o_answer q_o_best q_o_present_order q_o_present_sorted q_o_present_numerator q_o_present_denominator q_o_present_product q_o_present_nodes_xs q_o_present_nodes_ys q_o_present_nodes_ws : Nat)  (o_present_nodes_count : Int32) (o_present_nodes_mode : Int32) (o_present_nodes_degree : Int32) (o_present_weights : Nat → Int64) (p1 : Int32) (R : Nat × Int64) (h : mX6_weight o_present_nodes_count o_present_weights p1 = some R) (h0 : R.1 = 0) : Cn D g x l yX6_weight cX6_weight 2 (some .long) 2 42 [.ref q_o, .int p1] (wX6_weight g q_o q_o_present q_o_present_nodes q_o_present_weights q_o_text q_o_trial q_o_history q_o_output q_o_answer q_o_best q_o_present_order q_o_present_sorted q_o_present_numerator q_o_present_denominator q_o_present_product q_o_present_nodes_xs q_o_present_nodes_ys q_o_present_nodes_ws o_present_nodes_count o_present_nodes_mode o_present_nodes_degree o_present_weights) (wX6_weight g q_o q_o_present q_o_present_nodes q_o_present_weights q_o_text q_o_trial q_o_history q_o_output q_o_answer q_o_best q_o_present_order q_o_present_sorted q_o_present_numerator q_o_present_denominator q_o_present_product q_o_present_nodes_xs q_o_present_nodes_ys q_o_present_nodes_ws o_present_nodes_count o_present_nodes_mode o_present_nodes_degree o_present_weights) (some (.long R.2)) := by
  refine CnL (by decide +kernel) (Nat.le_of_ble_eq_true rfl) (fun p e s m args below meth c A Q ls X hD hP hS fin hl => ?_)
  obtain ⟨hx, hb, hml, -, -, hown, hts, hK, hA, hE⟩ := id X
  unfold mX6_weight at h
  have hl : lv_has ls 2 [(0, .ref q_o), (1, .int p1)] := hl
  refine lv_aload_n hx hb dX6_weight_0 rfl (lv_at hl 0 rfl) ?_
  refine lv_iload_n hx hb dX6_weight_1 rfl (lv_at hl 1 rfl) ?_
  obtain ⟨r1, c1, h⟩ := o_b h
  by_cases t2 : r1 = 0
  · have h := o_t t2 h
    refine mcallV X (As := [.int p1]) (rest := []) (ws1 := wX6_weight g q_o q_o_present q_o_present_nodes q_o_present_weights q_o_text q_o_trial q_o_history q_o_output q_o_answer q_o_best q_o_present_order q_o_present_sorted q_o_present_numerator q_o_present_denominator q_o_present_product q_o_present_nodes_xs q_o_present_nodes_ys q_o_present_nodes_ws o_present_nodes_count o_present_nodes_mode o_present_nodes_degree o_present_weights) (st1 := []) (nX6_needPoint D g x l q_o q_o_present q_o_present_nodes q_o_text q_o_trial q_o_history q_o_output q_o_answer q_o_best q_o_present_order q_o_present_sorted q_o_present_weights q_o_present_numerator q_o_present_denominator q_o_present_product q_o_present_nodes_xs q_o_present_nodes_ys q_o_present_nodes_ws o_present_nodes_count o_present_nodes_mode o_present_nodes_degree p1 r1 c1 t2) mw_X6_needPoint ml_X6_103 ⟨Nat.le_of_ble_eq_true rfl, Nat.le_of_ble_eq_true rfl⟩ hP hD hS [0, 1, 2] (by decide +kernel) rfl rfl 0 rfl rfl rfl hl.1 rfl (Nat.le_of_ble_eq_true rfl) dX6_weight_2 ⟨Nat.le_refl _, Nat.le_refl _⟩ rfl rfl (fun H locs hP hD hS => ?_)
    refine lv_aload_n hx hb dX6_weight_5 rfl (lv_at hl 0 rfl) ?_
    refine mget X fl_X6_19 hP 0 rfl rfl dX6_weight_6 ?_
    refine lv_iload_n hx hb dX6_weight_9 rfl (lv_at hl 1 rfl) ?_
    obtain ⟨r3, c3, h⟩ := o_b h
    refine mcallV X (As := [.int p1]) (rest := []) (ws1 := wX6_weight g q_o q_o_present q_o_present_nodes q_o_present_weights q_o_text q_o_trial q_o_history q_o_output q_o_answer q_o_best q_o_present_order q_o_present_sorted q_o_present_numerator q_o_present_denominator q_o_present_product q_o_present_nodes_xs q_o_present_nodes_ys q_o_present_nodes_ws o_present_nodes_count o_present_nodes_mode o_present_nodes_degree o_present_weights) (st1 := [.long r3]) (kX0_weightOf D g x l q_o_present q_o_present_nodes q_o_present_weights q_o_present_order q_o_present_sorted q_o_present_numerator q_o_present_denominator q_o_present_product q_o_present_nodes_xs q_o_present_nodes_ys q_o_present_nodes_ws o_present_nodes_count o_present_nodes_mode o_present_nodes_degree o_present_weights p1 r3 c3) mw_X0_weightOf ml_X6_133 ⟨Nat.le_of_ble_eq_true rfl, Nat.le_of_ble_eq_true rfl⟩ hP hD hS [1, 2, 3] (by decide +kernel) rfl rfl 1 rfl rfl rfl hl.1 rfl (Nat.le_of_ble_eq_true rfl) dX6_weight_10 ⟨Nat.le_refl _, Nat.le_refl _⟩ rfl rfl (fun H locs hP hD hS => ?_)
    cases h
    exact fin _ _ _ _ hP hS dX6_weight_13
  · have h := o_f t2 h
    cases h
    exact absurd h0 t2
set_option maxHeartbeats 4000000 in
set_option maxRecDepth 100000 in
theorem kX6_weight (D : va_G) (g : Nat → ClassId) (x : Xd) (l : Launch) (hl0 : l.stackTraces = false) (q_o q_o_present q_o_present_nodes q_o_present_weights q_o_text q_o_trial q_o_history q_o_output q_o_answer q_o_best q_o_present_order q_o_present_sorted q_o_present_numerator q_o_present_denominator q_o_present_product q_o_present_nodes_xs q_o_present_nodes_ys q_o_present_nodes_ws : Nat)  (o_present_nodes_count : Int32) (o_present_nodes_mode : Int32) (o_present_nodes_degree : Int32) (o_present_weights : Nat → Int64) (p1 : Int32) (R : Nat × Int64) (h : mX6_weight o_present_nodes_count o_present_weights p1 = some R) : CnX D g x l yX6_weight cX6_weight 2 (some .long) 7 111 1 [.ref q_o, .int p1] (wX6_weight g q_o q_o_present q_o_present_nodes q_o_present_weights q_o_text q_o_trial q_o_history q_o_output q_o_answer q_o_best q_o_present_order q_o_present_sorted q_o_present_numerator q_o_present_denominator q_o_present_product q_o_present_nodes_xs q_o_present_nodes_ys q_o_present_nodes_ws o_present_nodes_count o_present_nodes_mode o_present_nodes_degree o_present_weights) (wX6_weight g q_o q_o_present q_o_present_nodes q_o_present_weights q_o_text q_o_trial q_o_history q_o_output q_o_answer q_o_best q_o_present_order q_o_present_sorted q_o_present_numerator q_o_present_denominator q_o_present_product q_o_present_nodes_xs q_o_present_nodes_ys q_o_present_nodes_ws o_present_nodes_count o_present_nodes_mode o_present_nodes_degree o_present_weights) R.1 (some (.long R.2)) := by
  refine XnL (by decide) (Nat.le_of_ble_eq_true rfl) hl0 (fun p e s m args below meth c A Q ls X hD hP hS fin finO finT hl => ?_)
  obtain ⟨hx, hb, hml, -, -, hown, hts, hK, hA, hE⟩ := id X
  unfold mX6_weight at h
  have hl : lv_has ls 2 [(0, .ref q_o), (1, .int p1)] := hl
  refine lv_aload_n hx hb dX6_weight_0 rfl (lv_at hl 0 rfl) ?_
  refine lv_iload_n hx hb dX6_weight_1 rfl (lv_at hl 1 rfl) ?_
  obtain ⟨r1, c1, h⟩ := o_b h
  refine xcallV X (As := [.int p1]) (rest := []) (ws1 := wX6_weight g q_o q_o_present q_o_present_nodes q_o_present_weights q_o_text q_o_trial q_o_history q_o_output q_o_answer q_o_best q_o_present_order q_o_present_sorted q_o_present_numerator q_o_present_denominator q_o_present_product q_o_present_nodes_xs q_o_present_nodes_ys q_o_present_nodes_ws o_present_nodes_count o_present_nodes_mode o_present_nodes_degree o_present_weights) (st1 := []) (kX6_needPoint D g x l hl0 q_o q_o_present q_o_present_nodes q_o_text q_o_trial q_o_history q_o_output q_o_answer q_o_best q_o_present_order q_o_present_sorted q_o_present_weights q_o_present_numerator q_o_present_denominator q_o_present_product q_o_present_nodes_xs q_o_present_nodes_ys q_o_present_nodes_ws o_present_nodes_count o_present_nodes_mode o_present_nodes_degree p1 r1 c1) mw_X6_needPoint ml_X6_103 ⟨Nat.le_of_ble_eq_true rfl, Nat.le_of_ble_eq_true rfl⟩ hP hD hS [0, 1, 2] (by decide +kernel) rfl rfl 0 rfl rfl rfl hl.1 rfl (Nat.le_of_ble_eq_true rfl) dX6_weight_2 ⟨Nat.le_of_ble_eq_true rfl, Nat.le_of_ble_eq_true rfl⟩ rfl rfl (fun t2 H locs hP hD hS => ?_) (fun t2 H locs q ce hP hD hS hq hqv hqc => ?_)
  · have h := o_t t2 h
    refine W.widen (k := 1) (n := 6) (Nat.le_of_ble_eq_true rfl) (Nat.le_of_ble_eq_true rfl) ?_
    refine lv_aload_n hx hb dX6_weight_5 rfl (lv_at hl 0 rfl) ?_
    refine mget X fl_X6_19 hP 0 rfl rfl dX6_weight_6 ?_
    refine lv_iload_n hx hb dX6_weight_9 rfl (lv_at hl 1 rfl) ?_
    obtain ⟨r3, c3, h⟩ := o_b h
    refine mcallV X (As := [.int p1]) (rest := []) (ws1 := wX6_weight g q_o q_o_present q_o_present_nodes q_o_present_weights q_o_text q_o_trial q_o_history q_o_output q_o_answer q_o_best q_o_present_order q_o_present_sorted q_o_present_numerator q_o_present_denominator q_o_present_product q_o_present_nodes_xs q_o_present_nodes_ys q_o_present_nodes_ws o_present_nodes_count o_present_nodes_mode o_present_nodes_degree o_present_weights) (st1 := [.long r3]) (kX0_weightOf D g x l q_o_present q_o_present_nodes q_o_present_weights q_o_present_order q_o_present_sorted q_o_present_numerator q_o_present_denominator q_o_present_product q_o_present_nodes_xs q_o_present_nodes_ys q_o_present_nodes_ws o_present_nodes_count o_present_nodes_mode o_present_nodes_degree o_present_weights p1 r3 c3) mw_X0_weightOf ml_X6_133 ⟨Nat.le_of_ble_eq_true rfl, Nat.le_of_ble_eq_true rfl⟩ hP hD hS [1, 2, 3] (by decide +kernel) rfl rfl 1 rfl rfl rfl hl.1 rfl (Nat.le_of_ble_eq_true rfl) dX6_weight_10 ⟨Nat.le_of_ble_eq_true rfl, Nat.le_of_ble_eq_true rfl⟩ rfl rfl (fun H locs hP hD hS => ?_)
    cases h
    exact fin _ _ _ _ _ _ rfl (Nat.le_of_ble_eq_true rfl) (Nat.le_of_ble_eq_true rfl) trivial hP hS dX6_weight_13
  · have h := o_f t2 h
    cases h
    exact finO _ _ _ _ _ _ _ _ _ t2 (Nat.le_of_ble_eq_true rfl) (Nat.le_of_ble_eq_true rfl) hP hS hq hqv hqc
abbrev wX6_isAlternating (g : Nat → ClassId) (q_o q_o_present q_o_present_nodes q_o_present_order q_o_present_weights q_o_text q_o_trial q_o_history q_o_output q_o_answer q_o_best q_o_present_sorted q_o_present_numerator q_o_present_denominator q_o_present_product q_o_present_nodes_xs q_o_present_nodes_ys q_o_present_nodes_ws : Nat)  (o_present_nodes_count : Int32) (o_present_nodes_mode : Int32) (o_present_nodes_degree : Int32) (o_present_order : Nat → Int32) (o_present_weights : Nat → Int64) : va_W := [(q_o, .inr (6, [.ref q_o_text, .ref q_o_present, .ref q_o_trial, .ref q_o_history, .ref q_o_output, .ref q_o_answer, .ref q_o_best])), (q_o_present, .inr (0, [.ref q_o_present_nodes, .ref q_o_present_order, .ref q_o_present_sorted, .ref q_o_present_weights, .ref q_o_present_numerator, .ref q_o_present_denominator, .ref q_o_present_product])), (q_o_present_nodes, .inr (3, [.ref q_o_present_nodes_xs, .ref q_o_present_nodes_ys, .ref q_o_present_nodes_ws, .int o_present_nodes_count, .int o_present_nodes_mode, .int o_present_nodes_degree])), (q_o_present_order, .inl (g 0, 5, .inl o_present_order)), (q_o_present_weights, .inl (g 1, 5, .inr (.inl o_present_weights)))]
set_option maxHeartbeats 4000000 in
set_option maxRecDepth 100000 in
theorem kX6_isAlternating (D : va_G) (g : Nat → ClassId) (x : Xd) (l : Launch) (q_o q_o_present q_o_present_nodes q_o_present_order q_o_present_weights q_o_text q_o_trial q_o_history q_o_output q_o_answer q_o_best q_o_present_sorted q_o_present_numerator q_o_present_denominator q_o_present_product q_o_present_nodes_xs q_o_present_nodes_ys q_o_present_nodes_ws : Nat)  (o_present_nodes_count : Int32) (o_present_nodes_mode : Int32) (o_present_nodes_degree : Int32) (o_present_order : Nat → Int32) (o_present_weights : Nat → Int64) (R : Int32) (h : mX6_isAlternating o_present_nodes_count o_present_order o_present_weights = some R) : Cn D g x l yX6_isAlternating cX6_isAlternating 1 (some .boolean) 3 66 [.ref q_o] (wX6_isAlternating g q_o q_o_present q_o_present_nodes q_o_present_order q_o_present_weights q_o_text q_o_trial q_o_history q_o_output q_o_answer q_o_best q_o_present_sorted q_o_present_numerator q_o_present_denominator q_o_present_product q_o_present_nodes_xs q_o_present_nodes_ys q_o_present_nodes_ws o_present_nodes_count o_present_nodes_mode o_present_nodes_degree o_present_order o_present_weights) (wX6_isAlternating g q_o q_o_present q_o_present_nodes q_o_present_order q_o_present_weights q_o_text q_o_trial q_o_history q_o_output q_o_answer q_o_best q_o_present_sorted q_o_present_numerator q_o_present_denominator q_o_present_product q_o_present_nodes_xs q_o_present_nodes_ys q_o_present_nodes_ws o_present_nodes_count o_present_nodes_mode o_present_nodes_degree o_present_order o_present_weights) (some (.int R)) := by
  refine CnI (by decide +kernel) (Nat.le_of_ble_eq_true rfl) (fun p e s m args below meth c A Q ls X hD hP hS fin hl => ?_)
  obtain ⟨hx, hb, hml, -, -, hown, hts, hK, hA, hE⟩ := id X
  unfold mX6_isAlternating at h
  have hl : lv_has ls 1 [(0, .ref q_o)] := hl
  refine lv_aload_n hx hb dX6_isAlternating_0 rfl (lv_at hl 0 rfl) ?_
  refine mget X fl_X6_19 hP 0 rfl rfl dX6_isAlternating_1 ?_
  obtain ⟨r1, c1, h⟩ := o_b h
  refine mcallV X (As := []) (rest := []) (ws1 := wX6_isAlternating g q_o q_o_present q_o_present_nodes q_o_present_order q_o_present_weights q_o_text q_o_trial q_o_history q_o_output q_o_answer q_o_best q_o_present_sorted q_o_present_numerator q_o_present_denominator q_o_present_product q_o_present_nodes_xs q_o_present_nodes_ys q_o_present_nodes_ws o_present_nodes_count o_present_nodes_mode o_present_nodes_degree o_present_order o_present_weights) (st1 := [.int r1]) (kX0_alternates D g x l q_o_present q_o_present_nodes q_o_present_order q_o_present_weights q_o_present_sorted q_o_present_numerator q_o_present_denominator q_o_present_product q_o_present_nodes_xs q_o_present_nodes_ys q_o_present_nodes_ws o_present_nodes_count o_present_nodes_mode o_present_nodes_degree o_present_order o_present_weights  r1 c1) mw_X0_alternates ml_X6_137 ⟨Nat.le_of_ble_eq_true rfl, Nat.le_of_ble_eq_true rfl⟩ hP hD hS [1, 2, 3, 4] (by decide +kernel) rfl rfl 1 rfl rfl rfl hl.1 rfl (Nat.le_of_ble_eq_true rfl) dX6_isAlternating_4 ⟨Nat.le_refl _, Nat.le_refl _⟩ rfl rfl (fun H locs hP hD hS => ?_)
  obtain ⟨b2, h⟩ := o_g h
  cases h
  exact fin _ _ _ _ (nar_z b2) hP hS dX6_isAlternating_7
abbrev wX6_weightSum (g : Nat → ClassId) (q_o q_o_present q_o_present_nodes q_o_present_weights q_o_text q_o_trial q_o_history q_o_output q_o_answer q_o_best q_o_present_order q_o_present_sorted q_o_present_numerator q_o_present_denominator q_o_present_product q_o_present_nodes_xs q_o_present_nodes_ys q_o_present_nodes_ws : Nat)  (o_present_nodes_count : Int32) (o_present_nodes_mode : Int32) (o_present_nodes_degree : Int32) (o_present_weights : Nat → Int64) : va_W := [(q_o, .inr (6, [.ref q_o_text, .ref q_o_present, .ref q_o_trial, .ref q_o_history, .ref q_o_output, .ref q_o_answer, .ref q_o_best])), (q_o_present, .inr (0, [.ref q_o_present_nodes, .ref q_o_present_order, .ref q_o_present_sorted, .ref q_o_present_weights, .ref q_o_present_numerator, .ref q_o_present_denominator, .ref q_o_present_product])), (q_o_present_nodes, .inr (3, [.ref q_o_present_nodes_xs, .ref q_o_present_nodes_ys, .ref q_o_present_nodes_ws, .int o_present_nodes_count, .int o_present_nodes_mode, .int o_present_nodes_degree])), (q_o_present_weights, .inl (g 1, 5, .inr (.inl o_present_weights)))]
set_option maxHeartbeats 4000000 in
set_option maxRecDepth 100000 in
theorem kX6_weightSum (D : va_G) (g : Nat → ClassId) (x : Xd) (l : Launch) (q_o q_o_present q_o_present_nodes q_o_present_weights q_o_text q_o_trial q_o_history q_o_output q_o_answer q_o_best q_o_present_order q_o_present_sorted q_o_present_numerator q_o_present_denominator q_o_present_product q_o_present_nodes_xs q_o_present_nodes_ys q_o_present_nodes_ws : Nat)  (o_present_nodes_count : Int32) (o_present_nodes_mode : Int32) (o_present_nodes_degree : Int32) (o_present_weights : Nat → Int64) (R : Int64) (h : mX6_weightSum o_present_nodes_count o_present_weights = some R) : Cn D g x l yX6_weightSum cX6_weightSum 4 (some .long) 2 41 [.ref q_o] (wX6_weightSum g q_o q_o_present q_o_present_nodes q_o_present_weights q_o_text q_o_trial q_o_history q_o_output q_o_answer q_o_best q_o_present_order q_o_present_sorted q_o_present_numerator q_o_present_denominator q_o_present_product q_o_present_nodes_xs q_o_present_nodes_ys q_o_present_nodes_ws o_present_nodes_count o_present_nodes_mode o_present_nodes_degree o_present_weights) (wX6_weightSum g q_o q_o_present q_o_present_nodes q_o_present_weights q_o_text q_o_trial q_o_history q_o_output q_o_answer q_o_best q_o_present_order q_o_present_sorted q_o_present_numerator q_o_present_denominator q_o_present_product q_o_present_nodes_xs q_o_present_nodes_ys q_o_present_nodes_ws o_present_nodes_count o_present_nodes_mode o_present_nodes_degree o_present_weights) (some (.long R)) := by
  refine CnL (by decide +kernel) (Nat.le_of_ble_eq_true rfl) (fun p e s m args below meth c A Q ls X hD hP hS fin hl => ?_)
  obtain ⟨hx, hb, hml, -, -, hown, hts, hK, hA, hE⟩ := id X
  unfold mX6_weightSum at h
  have hl : lv_has ls 4 [(0, .ref q_o)] := hl
  refine lv_lconst (v := 0) hx hb dX6_weightSum_0 (by decide) ?_
  refine lv_lstore_n (lv' := [(1, .long 0), (0, .ref q_o)]) hx hb dX6_weightSum_1 rfl hl (by decide) rfl (fun ls hl => ?_)
  refine lv_iconst (v := 0) hx hb dX6_weightSum_2 (by decide) ?_
  refine lv_istore_n (lv' := [(3, .int 0), (1, .long 0), (0, .ref q_o)]) hx hb dX6_weightSum_3 rfl hl (by decide) rfl (fun ls hl => ?_)
  have lp1 : ∀ (n : Nat) (v1_1 : Int64) (v1_3 : Int32) (R1 : Int64) (h : lX6_weightSum_4 o_present_nodes_count o_present_weights n v1_1 v1_3 = some R1) (H : Heap) (locs : List Loc), va_P D vwCl (wX6_weightSum g q_o q_o_present q_o_present_nodes q_o_present_weights q_o_text q_o_trial q_o_history q_o_output q_o_answer q_o_best q_o_present_order q_o_present_sorted q_o_present_numerator q_o_present_denominator q_o_present_product q_o_present_nodes_xs q_o_present_nodes_ys q_o_present_nodes_ws o_present_nodes_count o_present_nodes_mode o_present_nodes_degree o_present_weights) H → va_D A (wX6_weightSum g q_o q_o_present q_o_present_nodes q_o_present_weights q_o_text q_o_trial q_o_history q_o_output q_o_answer q_o_best q_o_present_order q_o_present_sorted q_o_present_numerator q_o_present_denominator q_o_present_product q_o_present_nodes_xs q_o_present_nodes_ys q_o_present_nodes_ws o_present_nodes_count o_present_nodes_mode o_present_nodes_degree o_present_weights) → va_S A s.heap H locs → ∀ (ls : Array Slot), lv_has ls 4 [(0, .ref q_o), (1, .long v1_1), (3, .int v1_3)] → (∀ (H : Heap) (locs : List Loc) (ls : Array Slot), va_P D vwCl (wX6_weightSum g q_o q_o_present q_o_present_nodes q_o_present_weights q_o_text q_o_trial q_o_history q_o_output q_o_answer q_o_best q_o_present_order q_o_present_sorted q_o_present_numerator q_o_present_denominator q_o_present_product q_o_present_nodes_xs q_o_present_nodes_ys q_o_present_nodes_ws o_present_nodes_count o_present_nodes_mode o_present_nodes_degree o_present_weights) H → va_D A (wX6_weightSum g q_o q_o_present q_o_present_nodes q_o_present_weights q_o_text q_o_trial q_o_history q_o_output q_o_answer q_o_best q_o_present_order q_o_present_sorted q_o_present_numerator q_o_present_denominator q_o_present_product q_o_present_nodes_xs q_o_present_nodes_ys q_o_present_nodes_ws o_present_nodes_count o_present_nodes_mode o_present_nodes_degree o_present_weights) → va_S A s.heap H locs → lv_has ls 4 [(1, .long R1)] → W p l e (rmF 2 41) s m args below meth c H locs 0 0 Q (F0 m 35 ls [])) → W p l e (rmF 2 41) s m args below meth c H locs 0 0 Q (F0 m 4 ls []) := by
    intro n
    induction n with
    | zero =>
      intro v1_1 v1_3 R1 h
      have h : none = some R1 := h
      cases h
    | succ n ih1 =>
      intro v1_1 v1_3 R1 h H locs hP hD hS ls hl K1_0
      have h : ((mX3_size o_present_nodes_count).bind fun r2 => if r2 ≤ v1_3 then some v1_1 else (mX0_weightOf o_present_nodes_count o_present_weights v1_3).bind fun r4 => lX6_weightSum_4 o_present_nodes_count o_present_weights n (v1_1 + r4) (v1_3 + 1) : Option (Int64)) = some R1 := h
      refine lv_iload_n hx hb dX6_weightSum_4 rfl (lv_at hl 2 rfl) ?_
      refine lv_aload_n hx hb dX6_weightSum_5 rfl (lv_at hl 0 rfl) ?_
      refine mget X fl_X6_19 hP 0 rfl rfl dX6_weightSum_6 ?_
      refine mget X fl_X6_66 hP 1 rfl rfl dX6_weightSum_9 ?_
      obtain ⟨r2, c2, h⟩ := o_b h
      refine mcallV X (As := []) (rest := [.int v1_3]) (ws1 := wX6_weightSum g q_o q_o_present q_o_present_nodes q_o_present_weights q_o_text q_o_trial q_o_history q_o_output q_o_answer q_o_best q_o_present_order q_o_present_sorted q_o_present_numerator q_o_present_denominator q_o_present_product q_o_present_nodes_xs q_o_present_nodes_ys q_o_present_nodes_ws o_present_nodes_count o_present_nodes_mode o_present_nodes_degree o_present_weights) (st1 := [.int r2, .int v1_3]) (kX3_size D g x l q_o_present_nodes q_o_present_nodes_xs q_o_present_nodes_ys q_o_present_nodes_ws o_present_nodes_count o_present_nodes_mode o_present_nodes_degree  r2 c2) mw_X3_size ml_X6_87 ⟨Nat.le_of_ble_eq_true rfl, Nat.le_of_ble_eq_true rfl⟩ hP hD hS [2] (by decide +kernel) rfl rfl 2 rfl rfl rfl hl.1 rfl (Nat.le_of_ble_eq_true rfl) dX6_weightSum_12 ⟨Nat.le_refl _, Nat.le_refl _⟩ rfl rfl (fun H locs hP hD hS => ?_)
      refine lv_icmp_ge (tgt := 35) hx hb dX6_weightSum_15 (by decide) (fun b3 => ?_) (fun b3 => ?_)
      · have h := o_t b3 h
        cases h
        exact K1_0  _ _ _ hP hD hS (lv_sub hl [1] rfl)
      · have h := o_f b3 h
        refine lv_lload_n hx hb dX6_weightSum_18 rfl (lv_at hl 1 rfl) ?_
        refine lv_aload_n hx hb dX6_weightSum_19 rfl (lv_at hl 0 rfl) ?_
        refine mget X fl_X6_19 hP 0 rfl rfl dX6_weightSum_20 ?_
        refine lv_iload_n hx hb dX6_weightSum_23 rfl (lv_at hl 2 rfl) ?_
        obtain ⟨r4, c4, h⟩ := o_b h
        refine mcallV X (As := [.int v1_3]) (rest := [.long v1_1]) (ws1 := wX6_weightSum g q_o q_o_present q_o_present_nodes q_o_present_weights q_o_text q_o_trial q_o_history q_o_output q_o_answer q_o_best q_o_present_order q_o_present_sorted q_o_present_numerator q_o_present_denominator q_o_present_product q_o_present_nodes_xs q_o_present_nodes_ys q_o_present_nodes_ws o_present_nodes_count o_present_nodes_mode o_present_nodes_degree o_present_weights) (st1 := [.long r4, .long v1_1]) (kX0_weightOf D g x l q_o_present q_o_present_nodes q_o_present_weights q_o_present_order q_o_present_sorted q_o_present_numerator q_o_present_denominator q_o_present_product q_o_present_nodes_xs q_o_present_nodes_ys q_o_present_nodes_ws o_present_nodes_count o_present_nodes_mode o_present_nodes_degree o_present_weights v1_3 r4 c4) mw_X0_weightOf ml_X6_133 ⟨Nat.le_of_ble_eq_true rfl, Nat.le_of_ble_eq_true rfl⟩ hP hD hS [1, 2, 3] (by decide +kernel) rfl rfl 1 rfl rfl rfl hl.1 rfl (Nat.le_of_ble_eq_true rfl) dX6_weightSum_24 ⟨Nat.le_refl _, Nat.le_refl _⟩ rfl rfl (fun H locs hP hD hS => ?_)
        refine lv_ladd hx hb dX6_weightSum_27 ?_
        refine lv_lstore_n (lv' := [(1, .long (v1_1 + r4)), (0, .ref q_o), (3, .int v1_3)]) hx hb dX6_weightSum_28 rfl hl (by decide) rfl (fun ls hl => ?_)
        refine lv_iinc (v := v1_3 + 1) (lv' := [(3, .int (v1_3 + 1)), (1, .long (v1_1 + r4)), (0, .ref q_o)]) hx hb dX6_weightSum_29 hl (k := 2) rfl rfl (by decide) rfl (fun ls hl => ?_)
        refine lv_goto (tgt := 4) hx hb dX6_weightSum_32 (by decide) ?_
        exact ih1 (v1_1 + r4) (v1_3 + 1) _ h _ _ hP hD hS _ (lv_sub hl [2, 1, 0] rfl) K1_0
  obtain ⟨r5, c5, h⟩ := o_b h
  refine lp1 FU 0 0 r5 c5 _ _ hP hD hS _ (lv_sub hl [2, 1, 0] rfl) (fun H locs ls hP hD hS hl => ?_)
  refine lv_lload_n hx hb dX6_weightSum_35 rfl (lv_at hl 0 rfl) ?_
  cases h
  exact fin _ _ _ _ hP hS dX6_weightSum_36
abbrev wX6_degreeOf (g : Nat → ClassId) (q_o q_o_present q_o_present_denominator q_o_present_numerator q_o_text q_o_trial q_o_history q_o_output q_o_answer q_o_best q_o_present_nodes q_o_present_order q_o_present_sorted q_o_present_weights q_o_present_product : Nat)  (o_present_denominator : Nat → Int64) (o_present_numerator : Nat → Int64) : va_W := [(q_o, .inr (6, [.ref q_o_text, .ref q_o_present, .ref q_o_trial, .ref q_o_history, .ref q_o_output, .ref q_o_answer, .ref q_o_best])), (q_o_present, .inr (0, [.ref q_o_present_nodes, .ref q_o_present_order, .ref q_o_present_sorted, .ref q_o_present_weights, .ref q_o_present_numerator, .ref q_o_present_denominator, .ref q_o_present_product])), (q_o_present_denominator, .inl (g 1, 5, .inr (.inl o_present_denominator))), (q_o_present_numerator, .inl (g 1, 5, .inr (.inl o_present_numerator)))]
set_option maxHeartbeats 4000000 in
set_option maxRecDepth 100000 in
theorem kX6_degreeOf (D : va_G) (g : Nat → ClassId) (x : Xd) (l : Launch) (q_o q_o_present q_o_present_denominator q_o_present_numerator q_o_text q_o_trial q_o_history q_o_output q_o_answer q_o_best q_o_present_nodes q_o_present_order q_o_present_sorted q_o_present_weights q_o_present_product : Nat)  (o_present_denominator : Nat → Int64) (o_present_numerator : Nat → Int64) (p1 : Int32) (R : Int32) (h : mX6_degreeOf o_present_denominator o_present_numerator p1 = some R) : Cn D g x l yX6_degreeOf cX6_degreeOf 3 (some .int) 1 22 [.ref q_o, .int p1] (wX6_degreeOf g q_o q_o_present q_o_present_denominator q_o_present_numerator q_o_text q_o_trial q_o_history q_o_output q_o_answer q_o_best q_o_present_nodes q_o_present_order q_o_present_sorted q_o_present_weights q_o_present_product o_present_denominator o_present_numerator) (wX6_degreeOf g q_o q_o_present q_o_present_denominator q_o_present_numerator q_o_text q_o_trial q_o_history q_o_output q_o_answer q_o_best q_o_present_nodes q_o_present_order q_o_present_sorted q_o_present_weights q_o_present_product o_present_denominator o_present_numerator) (some (.int R)) := by
  refine CnI (by decide +kernel) (Nat.le_of_ble_eq_true rfl) (fun p e s m args below meth c A Q ls X hD hP hS fin hl => ?_)
  obtain ⟨hx, hb, hml, -, -, hown, hts, hK, hA, hE⟩ := id X
  unfold mX6_degreeOf at h
  have hl : lv_has ls 3 [(0, .ref q_o), (1, .int p1)] := hl
  refine lv_iconst (v := 4) hx hb dX6_degreeOf_0 (by decide) ?_
  refine lv_istore_n (lv' := [(2, .int 4), (0, .ref q_o), (1, .int p1)]) hx hb dX6_degreeOf_1 rfl hl (by decide) rfl (fun ls hl => ?_)
  have lp1 : ∀ (n : Nat) (v1_2 : Int32) (R1 : Nat × Int32) (h : lX6_degreeOf_2 p1 o_present_denominator o_present_numerator n v1_2 = some R1) (H : Heap) (locs : List Loc), va_P D vwCl (wX6_degreeOf g q_o q_o_present q_o_present_denominator q_o_present_numerator q_o_text q_o_trial q_o_history q_o_output q_o_answer q_o_best q_o_present_nodes q_o_present_order q_o_present_sorted q_o_present_weights q_o_present_product o_present_denominator o_present_numerator) H → va_D A (wX6_degreeOf g q_o q_o_present q_o_present_denominator q_o_present_numerator q_o_text q_o_trial q_o_history q_o_output q_o_answer q_o_best q_o_present_nodes q_o_present_order q_o_present_sorted q_o_present_weights q_o_present_product o_present_denominator o_present_numerator) → va_S A s.heap H locs → ∀ (ls : Array Slot), lv_has ls 3 [(0, .ref q_o), (1, .int p1), (2, .int v1_2)] → (R1.1 = 0 → ∀ (H : Heap) (locs : List Loc) (ls : Array Slot), va_P D vwCl (wX6_degreeOf g q_o q_o_present q_o_present_denominator q_o_present_numerator q_o_text q_o_trial q_o_history q_o_output q_o_answer q_o_best q_o_present_nodes q_o_present_order q_o_present_sorted q_o_present_weights q_o_present_product o_present_denominator o_present_numerator) H → va_D A (wX6_degreeOf g q_o q_o_present q_o_present_denominator q_o_present_numerator q_o_text q_o_trial q_o_history q_o_output q_o_answer q_o_best q_o_present_nodes q_o_present_order q_o_present_sorted q_o_present_weights q_o_present_product o_present_denominator o_present_numerator) → va_S A s.heap H locs → lv_has ls 3 [(2, .int R1.2)] → W p l e (rmF 1 22) s m args below meth c H locs 0 0 Q (F0 m 20 ls [])) → (¬ R1.1 = 0 → ∀ (H : Heap) (locs : List Loc) (ls : Array Slot), va_P D vwCl (wX6_degreeOf g q_o q_o_present q_o_present_denominator q_o_present_numerator q_o_text q_o_trial q_o_history q_o_output q_o_answer q_o_best q_o_present_nodes q_o_present_order q_o_present_sorted q_o_present_weights q_o_present_product o_present_denominator o_present_numerator) H → va_D A (wX6_degreeOf g q_o q_o_present q_o_present_denominator q_o_present_numerator q_o_text q_o_trial q_o_history q_o_output q_o_answer q_o_best q_o_present_nodes q_o_present_order q_o_present_sorted q_o_present_weights q_o_present_product o_present_denominator o_present_numerator) → va_S A s.heap H locs → lv_has ls 3 [] → W p l e (rmF 1 22) s m args below meth c H locs 0 0 Q (F0 m 28 ls [])) → W p l e (rmF 1 22) s m args below meth c H locs 0 0 Q (F0 m 2 ls []) := by
    intro n
    induction n with
    | zero =>
      intro v1_2 R1 h
      have h : none = some R1 := h
      cases h
    | succ n ih1 =>
      intro v1_2 R1 h H locs hP hD hS ls hl K1_0 K1_1
      have h : (if v1_2 < 0 then some ((1 : Nat), v1_2) else (mX0_factor o_present_denominator o_present_numerator p1 v1_2).bind fun r3 => if r3 = 0 then lX6_degreeOf_2 p1 o_present_denominator o_present_numerator n (v1_2 + (-1)) else some ((0 : Nat), v1_2) : Option (Nat × Int32)) = some R1 := h
      refine lv_iload_n hx hb dX6_degreeOf_2 rfl (lv_at hl 2 rfl) ?_
      refine lv_if_lt (tgt := 28) hx hb dX6_degreeOf_3 (by decide) (fun b2 => ?_) (fun b2 => ?_)
      · have h := o_t b2 h
        cases h
        exact K1_1 (show ¬ (1 : Nat) = 0 from by decide) _ _ _ hP hD hS (lv_sub hl [] rfl)
      · have h := o_f b2 h
        refine lv_aload_n hx hb dX6_degreeOf_6 rfl (lv_at hl 0 rfl) ?_
        refine mget X fl_X6_19 hP 0 rfl rfl dX6_degreeOf_7 ?_
        refine lv_iload_n hx hb dX6_degreeOf_10 rfl (lv_at hl 1 rfl) ?_
        refine lv_iload_n hx hb dX6_degreeOf_11 rfl (lv_at hl 2 rfl) ?_
        obtain ⟨r3, c3, h⟩ := o_b h
        refine mcallV X (As := [.int p1, .int v1_2]) (rest := []) (ws1 := wX6_degreeOf g q_o q_o_present q_o_present_denominator q_o_present_numerator q_o_text q_o_trial q_o_history q_o_output q_o_answer q_o_best q_o_present_nodes q_o_present_order q_o_present_sorted q_o_present_weights q_o_present_product o_present_denominator o_present_numerator) (st1 := [.long r3]) (kX0_factor D g x l q_o_present q_o_present_denominator q_o_present_numerator q_o_present_nodes q_o_present_order q_o_present_sorted q_o_present_weights q_o_present_product o_present_denominator o_present_numerator p1 v1_2 r3 c3) mw_X0_factor ml_X6_141 ⟨Nat.le_of_ble_eq_true rfl, Nat.le_of_ble_eq_true rfl⟩ hP hD hS [1, 2, 3] (by decide +kernel) rfl rfl 1 rfl rfl rfl hl.1 rfl (Nat.le_of_ble_eq_true rfl) dX6_degreeOf_12 ⟨Nat.le_refl _, Nat.le_refl _⟩ rfl rfl (fun H locs hP hD hS => ?_)
        refine lv_lconst (v := 0) hx hb dX6_degreeOf_15 (by decide) ?_
        refine W.lcmp hx hb dX6_degreeOf_16 ?_
        refine lv_if_eq (tgt := 22) hx hb dX6_degreeOf_17 (by decide) (fun b4 => ?_) (fun b4 => ?_)
        · have b4 := (lg_cmp_eq _ _).mp b4
          have h := o_t b4 h
          refine lv_iinc (v := v1_2 + (-1)) (lv' := [(2, .int (v1_2 + (-1))), (0, .ref q_o), (1, .int p1)]) hx hb dX6_degreeOf_22 hl (k := 2) rfl rfl (by decide) rfl (fun ls hl => ?_)
          refine lv_goto (tgt := 2) hx hb dX6_degreeOf_25 (by decide) ?_
          exact ih1 (v1_2 + (-1)) _ h _ _ hP hD hS _ (lv_sub hl [1, 2, 0] rfl) K1_0 K1_1
        · have b4 := mt (lg_cmp_eq _ _).mpr b4
          have h := o_f b4 h
          cases h
          exact K1_0 rfl _ _ _ hP hD hS (lv_sub hl [2] rfl)
  obtain ⟨r5, c5, h⟩ := o_b h
  refine lp1 FU 4 r5 c5 _ _ hP hD hS _ (lv_sub hl [1, 2, 0] rfl) (fun t1_0 H locs ls hP hD hS hl => ?_) (fun t1_0 H locs ls hP hD hS hl => ?_)
  · have h := o_t t1_0 h
    refine lv_iload_n hx hb dX6_degreeOf_20 rfl (lv_at hl 0 rfl) ?_
    cases h
    exact fin _ _ _ _ rfl hP hS dX6_degreeOf_21
  · have h := o_f t1_0 h
    refine lv_iconst (v := (-1)) hx hb dX6_degreeOf_28 (by decide) ?_
    cases h
    exact fin _ _ _ _ rfl hP hS dX6_degreeOf_29
abbrev wX6_coefficient (g : Nat → ClassId) (q_o q_o_present q_o_present_denominator q_o_present_numerator q_o_text q_o_trial q_o_history q_o_output q_o_answer q_o_best q_o_present_nodes q_o_present_order q_o_present_sorted q_o_present_weights q_o_present_product : Nat)  (o_present_denominator : Nat → Int64) (o_present_numerator : Nat → Int64) : va_W := [(q_o, .inr (6, [.ref q_o_text, .ref q_o_present, .ref q_o_trial, .ref q_o_history, .ref q_o_output, .ref q_o_answer, .ref q_o_best])), (q_o_present, .inr (0, [.ref q_o_present_nodes, .ref q_o_present_order, .ref q_o_present_sorted, .ref q_o_present_weights, .ref q_o_present_numerator, .ref q_o_present_denominator, .ref q_o_present_product])), (q_o_present_denominator, .inl (g 1, 5, .inr (.inl o_present_denominator))), (q_o_present_numerator, .inl (g 1, 5, .inr (.inl o_present_numerator)))]
set_option maxHeartbeats 4000000 in
set_option maxRecDepth 100000 in
theorem nX6_coefficient (D : va_G) (g : Nat → ClassId) (x : Xd) (l : Launch) (q_o q_o_present q_o_present_denominator q_o_present_numerator q_o_text q_o_trial q_o_history q_o_output q_o_answer q_o_best q_o_present_nodes q_o_present_order q_o_present_sorted q_o_present_weights q_o_present_product : Nat)  (o_present_denominator : Nat → Int64) (o_present_numerator : Nat → Int64) (p1 : Int32) (p2 : Int32) (R : Nat × Int64) (h : mX6_coefficient o_present_denominator o_present_numerator p1 p2 = some R) (h0 : R.1 = 0) : Cn D g x l yX6_coefficient cX6_coefficient 3 (some .long) 1 22 [.ref q_o, .int p1, .int p2] (wX6_coefficient g q_o q_o_present q_o_present_denominator q_o_present_numerator q_o_text q_o_trial q_o_history q_o_output q_o_answer q_o_best q_o_present_nodes q_o_present_order q_o_present_sorted q_o_present_weights q_o_present_product o_present_denominator o_present_numerator) (wX6_coefficient g q_o q_o_present q_o_present_denominator q_o_present_numerator q_o_text q_o_trial q_o_history q_o_output q_o_answer q_o_best q_o_present_nodes q_o_present_order q_o_present_sorted q_o_present_weights q_o_present_product o_present_denominator o_present_numerator) (some (.long R.2)) := by
  refine CnL (by decide +kernel) (Nat.le_of_ble_eq_true rfl) (fun p e s m args below meth c A Q ls X hD hP hS fin hl => ?_)
  obtain ⟨hx, hb, hml, -, -, hown, hts, hK, hA, hE⟩ := id X
  unfold mX6_coefficient at h
  have hl : lv_has ls 3 [(0, .ref q_o), (1, .int p1), (2, .int p2)] := hl
  refine lv_iload_n hx hb dX6_coefficient_0 rfl (lv_at hl 2 rfl) ?_
  refine lv_iconst (v := 0) hx hb dX6_coefficient_1 (by decide) ?_
  refine lv_iconst (v := 4) hx hb dX6_coefficient_2 (by decide) ?_
  obtain ⟨r1, c1, h⟩ := o_b h
  by_cases t2 : r1 = 0
  · have h := o_t t2 h
    refine mcallS X (As := [.int p2, .int 0, .int 4]) (rest := []) (ws1 := wX6_coefficient g q_o q_o_present q_o_present_denominator q_o_present_numerator q_o_text q_o_trial q_o_history q_o_output q_o_answer q_o_best q_o_present_nodes q_o_present_order q_o_present_sorted q_o_present_weights q_o_present_product o_present_denominator o_present_numerator) (st1 := []) (nX6_needBetween D g x l   p2 0 4 r1 c1 t2) mw_X6_needBetween ml_X6_62 ⟨Nat.le_of_ble_eq_true rfl, Nat.le_of_ble_eq_true rfl⟩ hP hD hS [] (by decide +kernel) rfl rfl rfl hl.1 rfl (Nat.le_of_ble_eq_true rfl) dX6_coefficient_3 ⟨Nat.le_refl _, Nat.le_refl _⟩ rfl rfl (fun H locs hP hD hS => ?_)
    refine lv_aload_n hx hb dX6_coefficient_6 rfl (lv_at hl 0 rfl) ?_
    refine mget X fl_X6_19 hP 0 rfl rfl dX6_coefficient_7 ?_
    refine lv_iload_n hx hb dX6_coefficient_10 rfl (lv_at hl 1 rfl) ?_
    refine lv_iload_n hx hb dX6_coefficient_11 rfl (lv_at hl 2 rfl) ?_
    obtain ⟨r3, c3, h⟩ := o_b h
    refine mcallV X (As := [.int p1, .int p2]) (rest := []) (ws1 := wX6_coefficient g q_o q_o_present q_o_present_denominator q_o_present_numerator q_o_text q_o_trial q_o_history q_o_output q_o_answer q_o_best q_o_present_nodes q_o_present_order q_o_present_sorted q_o_present_weights q_o_present_product o_present_denominator o_present_numerator) (st1 := [.long r3]) (kX0_factor D g x l q_o_present q_o_present_denominator q_o_present_numerator q_o_present_nodes q_o_present_order q_o_present_sorted q_o_present_weights q_o_present_product o_present_denominator o_present_numerator p1 p2 r3 c3) mw_X0_factor ml_X6_141 ⟨Nat.le_of_ble_eq_true rfl, Nat.le_of_ble_eq_true rfl⟩ hP hD hS [1, 2, 3] (by decide +kernel) rfl rfl 1 rfl rfl rfl hl.1 rfl (Nat.le_of_ble_eq_true rfl) dX6_coefficient_12 ⟨Nat.le_refl _, Nat.le_refl _⟩ rfl rfl (fun H locs hP hD hS => ?_)
    cases h
    exact fin _ _ _ _ hP hS dX6_coefficient_15
  · have h := o_f t2 h
    cases h
    exact absurd h0 t2
abbrev wX6_needWithin (g : Nat → ClassId)   : va_W := []
set_option maxHeartbeats 4000000 in
set_option maxRecDepth 100000 in
theorem nX6_needWithin (D : va_G) (g : Nat → ClassId) (x : Xd) (l : Launch) (p1 : Int32) (p2 : Int32) (R : Nat) (h : mX6_needWithin p1 p2 = some R) (h0 : R = 0) : Cn D g x l yX6_needWithin cX6_needWithin 2 none 1 22 [.int p1, .int p2] (wX6_needWithin g  ) (wX6_needWithin g  ) none := by
  refine CnV (by decide +kernel) (Nat.le_of_ble_eq_true rfl) (fun p e s m args below meth c A Q ls X hD hP hS fin hl => ?_)
  obtain ⟨hx, hb, hml, -, -, hown, hts, hK, hA, hE⟩ := id X
  unfold mX6_needWithin at h
  have hl : lv_has ls 2 [(0, .int p1), (1, .int p2)] := hl
  refine lv_iload_n hx hb dX6_needWithin_0 rfl (lv_at hl 0 rfl) ?_
  refine lv_iload_n hx hb dX6_needWithin_1 rfl (lv_at hl 1 rfl) ?_
  refine lv_ineg hx hb dX6_needWithin_2 ?_
  refine lv_iload_n hx hb dX6_needWithin_3 rfl (lv_at hl 1 rfl) ?_
  obtain ⟨r1, c1, h⟩ := o_b h
  by_cases t2 : r1 = 0
  · have h := o_t t2 h
    refine mcallS X (As := [.int p1, .int (-p2), .int p2]) (rest := []) (ws1 := wX6_needWithin g  ) (st1 := []) (nX6_needBetween D g x l   p1 (-p2) p2 r1 c1 t2) mw_X6_needBetween ml_X6_62 ⟨Nat.le_of_ble_eq_true rfl, Nat.le_of_ble_eq_true rfl⟩ hP hD hS [] (by decide +kernel) rfl rfl rfl hl.1 rfl (Nat.le_of_ble_eq_true rfl) dX6_needWithin_4 ⟨Nat.le_refl _, Nat.le_refl _⟩ rfl rfl (fun H locs hP hD hS => ?_)
    cases h
    exact fin _ _ _ _ hP hS dX6_needWithin_7
  · have h := o_f t2 h
    cases h
    exact absurd h0 t2
set_option maxHeartbeats 4000000 in
set_option maxRecDepth 100000 in
theorem kX6_needWithin (D : va_G) (g : Nat → ClassId) (x : Xd) (l : Launch) (hl0 : l.stackTraces = false) (p1 : Int32) (p2 : Int32) (R : Nat) (h : mX6_needWithin p1 p2 = some R) : CnX D g x l yX6_needWithin cX6_needWithin 2 none 7 112 1 [.int p1, .int p2] (wX6_needWithin g  ) (wX6_needWithin g  ) R none := by
  refine XnV (by decide) (Nat.le_of_ble_eq_true rfl) hl0 (fun p e s m args below meth c A Q ls X hD hP hS fin finO finT hl => ?_)
  obtain ⟨hx, hb, hml, -, -, hown, hts, hK, hA, hE⟩ := id X
  unfold mX6_needWithin at h
  have hl : lv_has ls 2 [(0, .int p1), (1, .int p2)] := hl
  refine lv_iload_n hx hb dX6_needWithin_0 rfl (lv_at hl 0 rfl) ?_
  refine lv_iload_n hx hb dX6_needWithin_1 rfl (lv_at hl 1 rfl) ?_
  refine lv_ineg hx hb dX6_needWithin_2 ?_
  refine lv_iload_n hx hb dX6_needWithin_3 rfl (lv_at hl 1 rfl) ?_
  obtain ⟨r1, c1, h⟩ := o_b h
  refine xcallS X (As := [.int p1, .int (-p2), .int p2]) (rest := []) (ws1 := wX6_needWithin g  ) (st1 := []) (kX6_needBetween D g x l hl0   p1 (-p2) p2 r1 c1) mw_X6_needBetween ml_X6_62 ⟨Nat.le_of_ble_eq_true rfl, Nat.le_of_ble_eq_true rfl⟩ hP hD hS [] (by decide +kernel) rfl rfl rfl hl.1 rfl (Nat.le_of_ble_eq_true rfl) dX6_needWithin_4 ⟨Nat.le_of_ble_eq_true rfl, Nat.le_of_ble_eq_true rfl⟩ rfl rfl (fun t2 H locs hP hD hS => ?_) (fun t2 H locs q ce hP hD hS hq hqv hqc => ?_)
  · have h := o_t t2 h
    refine W.widen (k := 1) (n := 6) (Nat.le_of_ble_eq_true rfl) (Nat.le_of_ble_eq_true rfl) ?_
    cases h
    exact fin _ _ _ _ _ _ rfl (Nat.le_of_ble_eq_true rfl) (Nat.le_of_ble_eq_true rfl) trivial hP hS dX6_needWithin_7
  · have h := o_f t2 h
    cases h
    exact finO _ _ _ _ _ _ _ _ _ t2 (Nat.le_of_ble_eq_true rfl) (Nat.le_of_ble_eq_true rfl) hP hS hq hqv hqc
abbrev wX6_kindAt (g : Nat → ClassId) (q_o q_o_present q_o_present_denominator q_o_present_numerator q_o_text q_o_trial q_o_history q_o_output q_o_answer q_o_best q_o_present_nodes q_o_present_order q_o_present_sorted q_o_present_weights q_o_present_product : Nat)  (o_present_denominator : Nat → Int64) (o_present_numerator : Nat → Int64) : va_W := [(q_o, .inr (6, [.ref q_o_text, .ref q_o_present, .ref q_o_trial, .ref q_o_history, .ref q_o_output, .ref q_o_answer, .ref q_o_best])), (q_o_present, .inr (0, [.ref q_o_present_nodes, .ref q_o_present_order, .ref q_o_present_sorted, .ref q_o_present_weights, .ref q_o_present_numerator, .ref q_o_present_denominator, .ref q_o_present_product])), (q_o_present_denominator, .inl (g 1, 5, .inr (.inl o_present_denominator))), (q_o_present_numerator, .inl (g 1, 5, .inr (.inl o_present_numerator)))]
set_option maxHeartbeats 4000000 in
set_option maxRecDepth 100000 in
theorem nX6_kindAt (D : va_G) (g : Nat → ClassId) (x : Xd) (l : Launch) (q_o q_o_present q_o_present_denominator q_o_present_numerator q_o_text q_o_trial q_o_history q_o_output q_o_answer q_o_best q_o_present_nodes q_o_present_order q_o_present_sorted q_o_present_weights q_o_present_product : Nat)  (o_present_denominator : Nat → Int64) (o_present_numerator : Nat → Int64) (p1 : Int32) (R : Nat × Int32) (h : mX6_kindAt o_present_denominator o_present_numerator p1 = some R) (h0 : R.1 = 0) : Cn D g x l yX6_kindAt cX6_kindAt 2 (some .int) 3 68 [.ref q_o, .int p1] (wX6_kindAt g q_o q_o_present q_o_present_denominator q_o_present_numerator q_o_text q_o_trial q_o_history q_o_output q_o_answer q_o_best q_o_present_nodes q_o_present_order q_o_present_sorted q_o_present_weights q_o_present_product o_present_denominator o_present_numerator) (wX6_kindAt g q_o q_o_present q_o_present_denominator q_o_present_numerator q_o_text q_o_trial q_o_history q_o_output q_o_answer q_o_best q_o_present_nodes q_o_present_order q_o_present_sorted q_o_present_weights q_o_present_product o_present_denominator o_present_numerator) (some (.int R.2)) := by
  refine CnI (by decide +kernel) (Nat.le_of_ble_eq_true rfl) (fun p e s m args below meth c A Q ls X hD hP hS fin hl => ?_)
  obtain ⟨hx, hb, hml, -, -, hown, hts, hK, hA, hE⟩ := id X
  unfold mX6_kindAt at h
  have hl : lv_has ls 2 [(0, .ref q_o), (1, .int p1)] := hl
  refine lv_iload_n hx hb dX6_kindAt_0 rfl (lv_at hl 1 rfl) ?_
  refine lv_bipush (v := 12) hx hb dX6_kindAt_1 (by decide) ?_
  obtain ⟨r1, c1, h⟩ := o_b h
  by_cases t2 : r1 = 0
  · have h := o_t t2 h
    refine mcallS X (As := [.int p1, .int 12]) (rest := []) (ws1 := wX6_kindAt g q_o q_o_present q_o_present_denominator q_o_present_numerator q_o_text q_o_trial q_o_history q_o_output q_o_answer q_o_best q_o_present_nodes q_o_present_order q_o_present_sorted q_o_present_weights q_o_present_product o_present_denominator o_present_numerator) (st1 := []) (nX6_needWithin D g x l   p1 12 r1 c1 t2) mw_X6_needWithin ml_X6_119 ⟨Nat.le_of_ble_eq_true rfl, Nat.le_of_ble_eq_true rfl⟩ hP hD hS [] (by decide +kernel) rfl rfl rfl hl.1 rfl (Nat.le_of_ble_eq_true rfl) dX6_kindAt_3 ⟨Nat.le_refl _, Nat.le_refl _⟩ rfl rfl (fun H locs hP hD hS => ?_)
    refine lv_aload_n hx hb dX6_kindAt_6 rfl (lv_at hl 0 rfl) ?_
    refine mget X fl_X6_19 hP 0 rfl rfl dX6_kindAt_7 ?_
    refine lv_iload_n hx hb dX6_kindAt_10 rfl (lv_at hl 1 rfl) ?_
    obtain ⟨r3, c3, h⟩ := o_b h
    refine mcallV X (As := [.int p1]) (rest := []) (ws1 := wX6_kindAt g q_o q_o_present q_o_present_denominator q_o_present_numerator q_o_text q_o_trial q_o_history q_o_output q_o_answer q_o_best q_o_present_nodes q_o_present_order q_o_present_sorted q_o_present_weights q_o_present_product o_present_denominator o_present_numerator) (st1 := [.int r3]) (kX0_kindOf D g x l q_o_present q_o_present_denominator q_o_present_numerator q_o_present_nodes q_o_present_order q_o_present_sorted q_o_present_weights q_o_present_product o_present_denominator o_present_numerator p1 r3 c3) mw_X0_kindOf ml_X6_145 ⟨Nat.le_of_ble_eq_true rfl, Nat.le_of_ble_eq_true rfl⟩ hP hD hS [1, 2, 3] (by decide +kernel) rfl rfl 1 rfl rfl rfl hl.1 rfl (Nat.le_of_ble_eq_true rfl) dX6_kindAt_11 ⟨Nat.le_refl _, Nat.le_refl _⟩ rfl rfl (fun H locs hP hD hS => ?_)
    cases h
    exact fin _ _ _ _ rfl hP hS dX6_kindAt_14
  · have h := o_f t2 h
    cases h
    exact absurd h0 t2
set_option maxHeartbeats 4000000 in
set_option maxRecDepth 100000 in
theorem kX6_kindAt (D : va_G) (g : Nat → ClassId) (x : Xd) (l : Launch) (hl0 : l.stackTraces = false) (q_o q_o_present q_o_present_denominator q_o_present_numerator q_o_text q_o_trial q_o_history q_o_output q_o_answer q_o_best q_o_present_nodes q_o_present_order q_o_present_sorted q_o_present_weights q_o_present_product : Nat)  (o_present_denominator : Nat → Int64) (o_present_numerator : Nat → Int64) (p1 : Int32) (R : Nat × Int32) (h : mX6_kindAt o_present_denominator o_present_numerator p1 = some R) : CnX D g x l yX6_kindAt cX6_kindAt 2 (some .int) 8 133 1 [.ref q_o, .int p1] (wX6_kindAt g q_o q_o_present q_o_present_denominator q_o_present_numerator q_o_text q_o_trial q_o_history q_o_output q_o_answer q_o_best q_o_present_nodes q_o_present_order q_o_present_sorted q_o_present_weights q_o_present_product o_present_denominator o_present_numerator) (wX6_kindAt g q_o q_o_present q_o_present_denominator q_o_present_numerator q_o_text q_o_trial q_o_history q_o_output q_o_answer q_o_best q_o_present_nodes q_o_present_order q_o_present_sorted q_o_present_weights q_o_present_product o_present_denominator o_present_numerator) R.1 (some (.int R.2)) := by
  refine XnI (by decide) (Nat.le_of_ble_eq_true rfl) hl0 (fun p e s m args below meth c A Q ls X hD hP hS fin finO finT hl => ?_)
  obtain ⟨hx, hb, hml, -, -, hown, hts, hK, hA, hE⟩ := id X
  unfold mX6_kindAt at h
  have hl : lv_has ls 2 [(0, .ref q_o), (1, .int p1)] := hl
  refine lv_iload_n hx hb dX6_kindAt_0 rfl (lv_at hl 1 rfl) ?_
  refine lv_bipush (v := 12) hx hb dX6_kindAt_1 (by decide) ?_
  obtain ⟨r1, c1, h⟩ := o_b h
  refine xcallS X (As := [.int p1, .int 12]) (rest := []) (ws1 := wX6_kindAt g q_o q_o_present q_o_present_denominator q_o_present_numerator q_o_text q_o_trial q_o_history q_o_output q_o_answer q_o_best q_o_present_nodes q_o_present_order q_o_present_sorted q_o_present_weights q_o_present_product o_present_denominator o_present_numerator) (st1 := []) (kX6_needWithin D g x l hl0   p1 12 r1 c1) mw_X6_needWithin ml_X6_119 ⟨Nat.le_of_ble_eq_true rfl, Nat.le_of_ble_eq_true rfl⟩ hP hD hS [] (by decide +kernel) rfl rfl rfl hl.1 rfl (Nat.le_of_ble_eq_true rfl) dX6_kindAt_3 ⟨Nat.le_of_ble_eq_true rfl, Nat.le_of_ble_eq_true rfl⟩ rfl rfl (fun t2 H locs hP hD hS => ?_) (fun t2 H locs q ce hP hD hS hq hqv hqc => ?_)
  · have h := o_t t2 h
    refine W.widen (k := 1) (n := 6) (Nat.le_of_ble_eq_true rfl) (Nat.le_of_ble_eq_true rfl) ?_
    refine lv_aload_n hx hb dX6_kindAt_6 rfl (lv_at hl 0 rfl) ?_
    refine mget X fl_X6_19 hP 0 rfl rfl dX6_kindAt_7 ?_
    refine lv_iload_n hx hb dX6_kindAt_10 rfl (lv_at hl 1 rfl) ?_
    obtain ⟨r3, c3, h⟩ := o_b h
    refine mcallV X (As := [.int p1]) (rest := []) (ws1 := wX6_kindAt g q_o q_o_present q_o_present_denominator q_o_present_numerator q_o_text q_o_trial q_o_history q_o_output q_o_answer q_o_best q_o_present_nodes q_o_present_order q_o_present_sorted q_o_present_weights q_o_present_product o_present_denominator o_present_numerator) (st1 := [.int r3]) (kX0_kindOf D g x l q_o_present q_o_present_denominator q_o_present_numerator q_o_present_nodes q_o_present_order q_o_present_sorted q_o_present_weights q_o_present_product o_present_denominator o_present_numerator p1 r3 c3) mw_X0_kindOf ml_X6_145 ⟨Nat.le_of_ble_eq_true rfl, Nat.le_of_ble_eq_true rfl⟩ hP hD hS [1, 2, 3] (by decide +kernel) rfl rfl 1 rfl rfl rfl hl.1 rfl (Nat.le_of_ble_eq_true rfl) dX6_kindAt_11 ⟨Nat.le_of_ble_eq_true rfl, Nat.le_of_ble_eq_true rfl⟩ rfl rfl (fun H locs hP hD hS => ?_)
    cases h
    exact fin _ _ _ _ _ _ rfl (Nat.le_of_ble_eq_true rfl) (Nat.le_of_ble_eq_true rfl) rfl hP hS dX6_kindAt_14
  · have h := o_f t2 h
    cases h
    exact finO _ _ _ _ _ _ _ _ _ t2 (Nat.le_of_ble_eq_true rfl) (Nat.le_of_ble_eq_true rfl) hP hS hq hqv hqc
abbrev wX6_needPart (g : Nat → ClassId)   : va_W := []
set_option maxHeartbeats 4000000 in
set_option maxRecDepth 100000 in
theorem nX6_needPart (D : va_G) (g : Nat → ClassId) (x : Xd) (l : Launch) (p1 : Int32) (R : Nat) (h : mX6_needPart p1 = some R) (h0 : R = 0) : Cn D g x l yX6_needPart cX6_needPart 1 none 1 22 [.int p1] (wX6_needPart g  ) (wX6_needPart g  ) none := by
  refine CnV (by decide +kernel) (Nat.le_of_ble_eq_true rfl) (fun p e s m args below meth c A Q ls X hD hP hS fin hl => ?_)
  obtain ⟨hx, hb, hml, -, -, hown, hts, hK, hA, hE⟩ := id X
  unfold mX6_needPart at h
  have hl : lv_has ls 1 [(0, .int p1)] := hl
  refine lv_iload_n hx hb dX6_needPart_0 rfl (lv_at hl 0 rfl) ?_
  refine lv_iconst (v := 0) hx hb dX6_needPart_1 (by decide) ?_
  refine lv_iconst (v := 1) hx hb dX6_needPart_2 (by decide) ?_
  obtain ⟨r1, c1, h⟩ := o_b h
  by_cases t2 : r1 = 0
  · have h := o_t t2 h
    refine mcallS X (As := [.int p1, .int 0, .int 1]) (rest := []) (ws1 := wX6_needPart g  ) (st1 := []) (nX6_needBetween D g x l   p1 0 1 r1 c1 t2) mw_X6_needBetween ml_X6_62 ⟨Nat.le_of_ble_eq_true rfl, Nat.le_of_ble_eq_true rfl⟩ hP hD hS [] (by decide +kernel) rfl rfl rfl hl.1 rfl (Nat.le_of_ble_eq_true rfl) dX6_needPart_3 ⟨Nat.le_refl _, Nat.le_refl _⟩ rfl rfl (fun H locs hP hD hS => ?_)
    cases h
    exact fin _ _ _ _ hP hS dX6_needPart_6
  · have h := o_f t2 h
    cases h
    exact absurd h0 t2
set_option maxHeartbeats 4000000 in
set_option maxRecDepth 100000 in
theorem kX6_needPart (D : va_G) (g : Nat → ClassId) (x : Xd) (l : Launch) (hl0 : l.stackTraces = false) (p1 : Int32) (R : Nat) (h : mX6_needPart p1 = some R) : CnX D g x l yX6_needPart cX6_needPart 1 none 7 112 1 [.int p1] (wX6_needPart g  ) (wX6_needPart g  ) R none := by
  refine XnV (by decide) (Nat.le_of_ble_eq_true rfl) hl0 (fun p e s m args below meth c A Q ls X hD hP hS fin finO finT hl => ?_)
  obtain ⟨hx, hb, hml, -, -, hown, hts, hK, hA, hE⟩ := id X
  unfold mX6_needPart at h
  have hl : lv_has ls 1 [(0, .int p1)] := hl
  refine lv_iload_n hx hb dX6_needPart_0 rfl (lv_at hl 0 rfl) ?_
  refine lv_iconst (v := 0) hx hb dX6_needPart_1 (by decide) ?_
  refine lv_iconst (v := 1) hx hb dX6_needPart_2 (by decide) ?_
  obtain ⟨r1, c1, h⟩ := o_b h
  refine xcallS X (As := [.int p1, .int 0, .int 1]) (rest := []) (ws1 := wX6_needPart g  ) (st1 := []) (kX6_needBetween D g x l hl0   p1 0 1 r1 c1) mw_X6_needBetween ml_X6_62 ⟨Nat.le_of_ble_eq_true rfl, Nat.le_of_ble_eq_true rfl⟩ hP hD hS [] (by decide +kernel) rfl rfl rfl hl.1 rfl (Nat.le_of_ble_eq_true rfl) dX6_needPart_3 ⟨Nat.le_of_ble_eq_true rfl, Nat.le_of_ble_eq_true rfl⟩ rfl rfl (fun t2 H locs hP hD hS => ?_) (fun t2 H locs q ce hP hD hS hq hqv hqc => ?_)
  · have h := o_t t2 h
    refine W.widen (k := 1) (n := 6) (Nat.le_of_ble_eq_true rfl) (Nat.le_of_ble_eq_true rfl) ?_
    cases h
    exact fin _ _ _ _ _ _ rfl (Nat.le_of_ble_eq_true rfl) (Nat.le_of_ble_eq_true rfl) trivial hP hS dX6_needPart_6
  · have h := o_f t2 h
    cases h
    exact finO _ _ _ _ _ _ _ _ _ t2 (Nat.le_of_ble_eq_true rfl) (Nat.le_of_ble_eq_true rfl) hP hS hq hqv hqc
abbrev wX6_needValue (g : Nat → ClassId) (q_o q_o_answer q_p1 q_p1_denominator q_p1_numerator q_o_text q_o_present q_o_trial q_o_history q_o_output q_o_best q_p1_nodes q_p1_order q_p1_sorted q_p1_weights q_p1_product : Nat)  (o_answer_top : Int64) (o_answer_bottom : Int64) (p1_denominator : Nat → Int64) (p1_numerator : Nat → Int64) : va_W := [(q_o, .inr (6, [.ref q_o_text, .ref q_o_present, .ref q_o_trial, .ref q_o_history, .ref q_o_output, .ref q_o_answer, .ref q_o_best])), (q_o_answer, .inr (1, [.long o_answer_top, .long o_answer_bottom])), (q_p1, .inr (0, [.ref q_p1_nodes, .ref q_p1_order, .ref q_p1_sorted, .ref q_p1_weights, .ref q_p1_numerator, .ref q_p1_denominator, .ref q_p1_product])), (q_p1_denominator, .inl (g 1, 5, .inr (.inl p1_denominator))), (q_p1_numerator, .inl (g 1, 5, .inr (.inl p1_numerator)))]
set_option maxHeartbeats 4000000 in
set_option maxRecDepth 100000 in
theorem nX6_needValue (D : va_G) (g : Nat → ClassId) (x : Xd) (l : Launch) (q_o q_o_answer q_p1 q_p1_denominator q_p1_numerator q_o_text q_o_present q_o_trial q_o_history q_o_output q_o_best q_p1_nodes q_p1_order q_p1_sorted q_p1_weights q_p1_product : Nat)  (o_answer_top : Int64) (o_answer_bottom : Int64) (p1_denominator : Nat → Int64) (p1_numerator : Nat → Int64) (p2 : Int32) (R : Nat × Int64 × Int64) (h : mX6_needValue o_answer_bottom o_answer_top p1_denominator p1_numerator p2 = some R) (h0 : R.1 = 0) : Cn D g x l yX6_needValue cX6_needValue 3 none 4 111 [.ref q_o, .ref q_p1, .int p2] (wX6_needValue g q_o q_o_answer q_p1 q_p1_denominator q_p1_numerator q_o_text q_o_present q_o_trial q_o_history q_o_output q_o_best q_p1_nodes q_p1_order q_p1_sorted q_p1_weights q_p1_product o_answer_top o_answer_bottom p1_denominator p1_numerator) (wX6_needValue g q_o q_o_answer q_p1 q_p1_denominator q_p1_numerator q_o_text q_o_present q_o_trial q_o_history q_o_output q_o_best q_p1_nodes q_p1_order q_p1_sorted q_p1_weights q_p1_product R.2.2 R.2.1 p1_denominator p1_numerator) none := by
  refine CnV (by decide +kernel) (Nat.le_of_ble_eq_true rfl) (fun p e s m args below meth c A Q ls X hD hP hS fin hl => ?_)
  obtain ⟨hx, hb, hml, -, -, hown, hts, hK, hA, hE⟩ := id X
  unfold mX6_needValue at h
  have hl : lv_has ls 3 [(0, .ref q_o), (1, .ref q_p1), (2, .int p2)] := hl
  refine lv_aload_n hx hb dX6_needValue_0 rfl (lv_at hl 1 rfl) ?_
  refine lv_iload_n hx hb dX6_needValue_1 rfl (lv_at hl 2 rfl) ?_
  refine lv_aload_n hx hb dX6_needValue_2 rfl (lv_at hl 0 rfl) ?_
  refine mget X fl_X6_43 hP 0 rfl rfl dX6_needValue_3 ?_
  obtain ⟨r1, c1, h⟩ := o_b h
  refine mcallV X (As := [.int p2, .ref q_o_answer]) (rest := []) (ws1 := wX6_needValue g q_o q_o_answer q_p1 q_p1_denominator q_p1_numerator q_o_text q_o_present q_o_trial q_o_history q_o_output q_o_best q_p1_nodes q_p1_order q_p1_sorted q_p1_weights q_p1_product r1.2.2 r1.2.1 p1_denominator p1_numerator) (st1 := [.int r1.1]) (kX0_putValue D g x l q_p1 q_p1_denominator q_p1_numerator q_o_answer q_p1_nodes q_p1_order q_p1_sorted q_p1_weights q_p1_product p1_denominator p1_numerator o_answer_top o_answer_bottom p2 r1 c1) mw_X0_putValue ml_X6_166 ⟨Nat.le_of_ble_eq_true rfl, Nat.le_of_ble_eq_true rfl⟩ hP hD hS [2, 3, 4, 1] (by decide +kernel) rfl rfl 2 rfl rfl rfl hl.1 rfl (Nat.le_of_ble_eq_true rfl) dX6_needValue_6 ⟨Nat.le_refl _, Nat.le_refl _⟩ rfl rfl (fun H locs hP hD hS => ?_)
  refine lv_if_ne (tgt := 22) hx hb dX6_needValue_9 (by decide) (fun b2 => ?_) (fun b2 => ?_)
  · have h := o_f b2 h
    cases h
    exact fin _ _ _ _ hP hS dX6_needValue_22
  · have h := o_t b2 h
    cases h
    exact absurd (show (4 : Nat) = 0 from h0) (by decide)
set_option maxHeartbeats 4000000 in
set_option maxRecDepth 100000 in
theorem kX6_needValue (D : va_G) (g : Nat → ClassId) (x : Xd) (l : Launch) (hl0 : l.stackTraces = false) (q_o q_o_answer q_p1 q_p1_denominator q_p1_numerator q_o_text q_o_present q_o_trial q_o_history q_o_output q_o_best q_p1_nodes q_p1_order q_p1_sorted q_p1_weights q_p1_product : Nat)  (o_answer_top : Int64) (o_answer_bottom : Int64) (p1_denominator : Nat → Int64) (p1_numerator : Nat → Int64) (p2 : Int32) (R : Nat × Int64 × Int64) (h : mX6_needValue o_answer_bottom o_answer_top p1_denominator p1_numerator p2 = some R) : CnX D g x l yX6_needValue cX6_needValue 3 none 6 111 1 [.ref q_o, .ref q_p1, .int p2] (wX6_needValue g q_o q_o_answer q_p1 q_p1_denominator q_p1_numerator q_o_text q_o_present q_o_trial q_o_history q_o_output q_o_best q_p1_nodes q_p1_order q_p1_sorted q_p1_weights q_p1_product o_answer_top o_answer_bottom p1_denominator p1_numerator) (wX6_needValue g q_o q_o_answer q_p1 q_p1_denominator q_p1_numerator q_o_text q_o_present q_o_trial q_o_history q_o_output q_o_best q_p1_nodes q_p1_order q_p1_sorted q_p1_weights q_p1_product R.2.2 R.2.1 p1_denominator p1_numerator) R.1 none := by
  refine XnV (by decide) (Nat.le_of_ble_eq_true rfl) hl0 (fun p e s m args below meth c A Q ls X hD hP hS fin finO finT hl => ?_)
  obtain ⟨hx, hb, hml, -, -, hown, hts, hK, hA, hE⟩ := id X
  unfold mX6_needValue at h
  have hl : lv_has ls 3 [(0, .ref q_o), (1, .ref q_p1), (2, .int p2)] := hl
  refine lv_aload_n hx hb dX6_needValue_0 rfl (lv_at hl 1 rfl) ?_
  refine lv_iload_n hx hb dX6_needValue_1 rfl (lv_at hl 2 rfl) ?_
  refine lv_aload_n hx hb dX6_needValue_2 rfl (lv_at hl 0 rfl) ?_
  refine mget X fl_X6_43 hP 0 rfl rfl dX6_needValue_3 ?_
  obtain ⟨r1, c1, h⟩ := o_b h
  refine mcallV X (As := [.int p2, .ref q_o_answer]) (rest := []) (ws1 := wX6_needValue g q_o q_o_answer q_p1 q_p1_denominator q_p1_numerator q_o_text q_o_present q_o_trial q_o_history q_o_output q_o_best q_p1_nodes q_p1_order q_p1_sorted q_p1_weights q_p1_product r1.2.2 r1.2.1 p1_denominator p1_numerator) (st1 := [.int r1.1]) (kX0_putValue D g x l q_p1 q_p1_denominator q_p1_numerator q_o_answer q_p1_nodes q_p1_order q_p1_sorted q_p1_weights q_p1_product p1_denominator p1_numerator o_answer_top o_answer_bottom p2 r1 c1) mw_X0_putValue ml_X6_166 ⟨Nat.le_of_ble_eq_true rfl, Nat.le_of_ble_eq_true rfl⟩ hP hD hS [2, 3, 4, 1] (by decide +kernel) rfl rfl 2 rfl rfl rfl hl.1 rfl (Nat.le_of_ble_eq_true rfl) dX6_needValue_6 ⟨Nat.le_of_ble_eq_true rfl, Nat.le_of_ble_eq_true rfl⟩ rfl rfl (fun H locs hP hD hS => ?_)
  refine lv_if_ne (tgt := 22) hx hb dX6_needValue_9 (by decide) (fun b2 => ?_) (fun b2 => ?_)
  · have h := o_f b2 h
    cases h
    exact fin _ _ _ _ _ _ rfl (Nat.le_of_ble_eq_true rfl) (Nat.le_of_ble_eq_true rfl) trivial hP hS dX6_needValue_22
  · have h := o_t b2 h
    cases h
    exact finT rfl _ _ _ _ _ _ _ 126 130 177 13 (show ¬ (4 : Nat) = 0 from by decide) (Or.inl tw_4) (by decide) rfl rfl (Nat.le_of_ble_eq_true rfl) (Nat.le_of_ble_eq_true rfl) (Nat.le_of_ble_eq_true rfl) (Nat.le_of_ble_eq_true rfl) rfl rfl (Nat.le_of_ble_eq_true rfl) hP hS hl.1 dX6_needValue_12 dX6_needValue_15 (Or.inl ⟨dX6_needValue_16, dX6_needValue_18, dX6_needValue_21⟩)
abbrev wX6_value (g : Nat → ClassId) (q_o q_o_answer q_o_present q_o_present_denominator q_o_present_numerator q_o_text q_o_trial q_o_history q_o_output q_o_best q_o_present_nodes q_o_present_order q_o_present_sorted q_o_present_weights q_o_present_product : Nat)  (o_answer_top : Int64) (o_answer_bottom : Int64) (o_present_denominator : Nat → Int64) (o_present_numerator : Nat → Int64) : va_W := [(q_o, .inr (6, [.ref q_o_text, .ref q_o_present, .ref q_o_trial, .ref q_o_history, .ref q_o_output, .ref q_o_answer, .ref q_o_best])), (q_o_answer, .inr (1, [.long o_answer_top, .long o_answer_bottom])), (q_o_present, .inr (0, [.ref q_o_present_nodes, .ref q_o_present_order, .ref q_o_present_sorted, .ref q_o_present_weights, .ref q_o_present_numerator, .ref q_o_present_denominator, .ref q_o_present_product])), (q_o_present_denominator, .inl (g 1, 5, .inr (.inl o_present_denominator))), (q_o_present_numerator, .inl (g 1, 5, .inr (.inl o_present_numerator)))]
set_option maxHeartbeats 4000000 in
set_option maxRecDepth 100000 in
theorem nX6_value (D : va_G) (g : Nat → ClassId) (x : Xd) (l : Launch) (q_o q_o_answer q_o_present q_o_present_denominator q_o_present_numerator q_o_text q_o_trial q_o_history q_o_output q_o_best q_o_present_nodes q_o_present_order q_o_present_sorted q_o_present_weights q_o_present_product : Nat)  (o_answer_top : Int64) (o_answer_bottom : Int64) (o_present_denominator : Nat → Int64) (o_present_numerator : Nat → Int64) (p1 : Int32) (p2 : Int32) (R : Nat × Int64 × Int64 × Int64) (h : mX6_value o_answer_bottom o_answer_top o_present_denominator o_present_numerator p1 p2 = some R) (h0 : R.1 = 0) : Cn D g x l yX6_value cX6_value 3 (some .long) 5 133 [.ref q_o, .int p1, .int p2] (wX6_value g q_o q_o_answer q_o_present q_o_present_denominator q_o_present_numerator q_o_text q_o_trial q_o_history q_o_output q_o_best q_o_present_nodes q_o_present_order q_o_present_sorted q_o_present_weights q_o_present_product o_answer_top o_answer_bottom o_present_denominator o_present_numerator) (wX6_value g q_o q_o_answer q_o_present q_o_present_denominator q_o_present_numerator q_o_text q_o_trial q_o_history q_o_output q_o_best q_o_present_nodes q_o_present_order q_o_present_sorted q_o_present_weights q_o_present_product R.2.2.2 R.2.2.1 o_present_denominator o_present_numerator) (some (.long R.2.1)) := by
  refine CnL (by decide +kernel) (Nat.le_of_ble_eq_true rfl) (fun p e s m args below meth c A Q ls X hD hP hS fin hl => ?_)
  obtain ⟨hx, hb, hml, -, -, hown, hts, hK, hA, hE⟩ := id X
  unfold mX6_value at h
  have hl : lv_has ls 3 [(0, .ref q_o), (1, .int p1), (2, .int p2)] := hl
  refine lv_iload_n hx hb dX6_value_0 rfl (lv_at hl 1 rfl) ?_
  refine lv_bipush (v := 12) hx hb dX6_value_1 (by decide) ?_
  obtain ⟨r1, c1, h⟩ := o_b h
  by_cases t2 : r1 = 0
  · have h := o_t t2 h
    refine mcallS X (As := [.int p1, .int 12]) (rest := []) (ws1 := wX6_value g q_o q_o_answer q_o_present q_o_present_denominator q_o_present_numerator q_o_text q_o_trial q_o_history q_o_output q_o_best q_o_present_nodes q_o_present_order q_o_present_sorted q_o_present_weights q_o_present_product o_answer_top o_answer_bottom o_present_denominator o_present_numerator) (st1 := []) (nX6_needWithin D g x l   p1 12 r1 c1 t2) mw_X6_needWithin ml_X6_119 ⟨Nat.le_of_ble_eq_true rfl, Nat.le_of_ble_eq_true rfl⟩ hP hD hS [] (by decide +kernel) rfl rfl rfl hl.1 rfl (Nat.le_of_ble_eq_true rfl) dX6_value_3 ⟨Nat.le_refl _, Nat.le_refl _⟩ rfl rfl (fun H locs hP hD hS => ?_)
    refine lv_iload_n hx hb dX6_value_6 rfl (lv_at hl 2 rfl) ?_
    obtain ⟨r3, c3, h⟩ := o_b h
    by_cases t4 : r3 = 0
    · have h := o_t t4 h
      refine mcallS X (As := [.int p2]) (rest := []) (ws1 := wX6_value g q_o q_o_answer q_o_present q_o_present_denominator q_o_present_numerator q_o_text q_o_trial q_o_history q_o_output q_o_best q_o_present_nodes q_o_present_order q_o_present_sorted q_o_present_weights q_o_present_product o_answer_top o_answer_bottom o_present_denominator o_present_numerator) (st1 := []) (nX6_needPart D g x l   p2 r3 c3 t4) mw_X6_needPart ml_X6_148 ⟨Nat.le_of_ble_eq_true rfl, Nat.le_of_ble_eq_true rfl⟩ hP hD hS [] (by decide +kernel) rfl rfl rfl hl.1 rfl (Nat.le_of_ble_eq_true rfl) dX6_value_7 ⟨Nat.le_refl _, Nat.le_refl _⟩ rfl rfl (fun H locs hP hD hS => ?_)
      refine lv_aload_n hx hb dX6_value_10 rfl (lv_at hl 0 rfl) ?_
      refine lv_aload_n hx hb dX6_value_11 rfl (lv_at hl 0 rfl) ?_
      refine mget X fl_X6_19 hP 0 rfl rfl dX6_value_12 ?_
      refine lv_iload_n hx hb dX6_value_15 rfl (lv_at hl 1 rfl) ?_
      obtain ⟨r5, c5, h⟩ := o_b h
      by_cases t6 : r5.1 = 0
      · have h := o_t t6 h
        refine mcallV X (As := [.ref q_o_present, .int p1]) (rest := []) (ws1 := wX6_value g q_o q_o_answer q_o_present q_o_present_denominator q_o_present_numerator q_o_text q_o_trial q_o_history q_o_output q_o_best q_o_present_nodes q_o_present_order q_o_present_sorted q_o_present_weights q_o_present_product r5.2.2 r5.2.1 o_present_denominator o_present_numerator) (st1 := []) (nX6_needValue D g x l q_o q_o_answer q_o_present q_o_present_denominator q_o_present_numerator q_o_text q_o_present q_o_trial q_o_history q_o_output q_o_best q_o_present_nodes q_o_present_order q_o_present_sorted q_o_present_weights q_o_present_product o_answer_top o_answer_bottom o_present_denominator o_present_numerator p1 r5 c5 t6) mw_X6_needValue ml_X6_151 ⟨Nat.le_of_ble_eq_true rfl, Nat.le_of_ble_eq_true rfl⟩ hP hD hS [0, 1, 2, 3, 4] (by decide +kernel) rfl rfl 0 rfl rfl rfl hl.1 rfl (Nat.le_of_ble_eq_true rfl) dX6_value_16 ⟨Nat.le_refl _, Nat.le_refl _⟩ rfl rfl (fun H locs hP hD hS => ?_)
        refine lv_aload_n hx hb dX6_value_19 rfl (lv_at hl 0 rfl) ?_
        refine mget X fl_X6_43 hP 0 rfl rfl dX6_value_20 ?_
        refine lv_iload_n hx hb dX6_value_23 rfl (lv_at hl 2 rfl) ?_
        obtain ⟨r7, c7, h⟩ := o_b h
        refine mcallV X (As := [.int p2]) (rest := []) (ws1 := wX6_value g q_o q_o_answer q_o_present q_o_present_denominator q_o_present_numerator q_o_text q_o_trial q_o_history q_o_output q_o_best q_o_present_nodes q_o_present_order q_o_present_sorted q_o_present_weights q_o_present_product r5.2.2 r5.2.1 o_present_denominator o_present_numerator) (st1 := [.long r7]) (kX1_part D g x l q_o_answer r5.2.2 r5.2.1 p2 r7 c7) mw_X1_part ml_X6_155 ⟨Nat.le_of_ble_eq_true rfl, Nat.le_of_ble_eq_true rfl⟩ hP hD hS [1] (by decide +kernel) rfl rfl 1 rfl rfl rfl hl.1 rfl (Nat.le_of_ble_eq_true rfl) dX6_value_24 ⟨Nat.le_refl _, Nat.le_refl _⟩ rfl rfl (fun H locs hP hD hS => ?_)
        cases h
        exact fin _ _ _ _ hP hS dX6_value_27
      · have h := o_f t6 h
        cases h
        exact absurd h0 t6
    · have h := o_f t4 h
      cases h
      exact absurd h0 t4
  · have h := o_f t2 h
    cases h
    exact absurd h0 t2
set_option maxHeartbeats 4000000 in
set_option maxRecDepth 100000 in
theorem kX6_value (D : va_G) (g : Nat → ClassId) (x : Xd) (l : Launch) (hl0 : l.stackTraces = false) (q_o q_o_answer q_o_present q_o_present_denominator q_o_present_numerator q_o_text q_o_trial q_o_history q_o_output q_o_best q_o_present_nodes q_o_present_order q_o_present_sorted q_o_present_weights q_o_present_product : Nat)  (o_answer_top : Int64) (o_answer_bottom : Int64) (o_present_denominator : Nat → Int64) (o_present_numerator : Nat → Int64) (p1 : Int32) (p2 : Int32) (R : Nat × Int64 × Int64 × Int64) (h : mX6_value o_answer_bottom o_answer_top o_present_denominator o_present_numerator p1 p2 = some R) : CnX D g x l yX6_value cX6_value 3 (some .long) 8 133 3 [.ref q_o, .int p1, .int p2] (wX6_value g q_o q_o_answer q_o_present q_o_present_denominator q_o_present_numerator q_o_text q_o_trial q_o_history q_o_output q_o_best q_o_present_nodes q_o_present_order q_o_present_sorted q_o_present_weights q_o_present_product o_answer_top o_answer_bottom o_present_denominator o_present_numerator) (wX6_value g q_o q_o_answer q_o_present q_o_present_denominator q_o_present_numerator q_o_text q_o_trial q_o_history q_o_output q_o_best q_o_present_nodes q_o_present_order q_o_present_sorted q_o_present_weights q_o_present_product R.2.2.2 R.2.2.1 o_present_denominator o_present_numerator) R.1 (some (.long R.2.1)) := by
  refine XnL (by decide) (Nat.le_of_ble_eq_true rfl) hl0 (fun p e s m args below meth c A Q ls X hD hP hS fin finO finT hl => ?_)
  obtain ⟨hx, hb, hml, -, -, hown, hts, hK, hA, hE⟩ := id X
  unfold mX6_value at h
  have hl : lv_has ls 3 [(0, .ref q_o), (1, .int p1), (2, .int p2)] := hl
  refine lv_iload_n hx hb dX6_value_0 rfl (lv_at hl 1 rfl) ?_
  refine lv_bipush (v := 12) hx hb dX6_value_1 (by decide) ?_
  obtain ⟨r1, c1, h⟩ := o_b h
  refine xcallS X (As := [.int p1, .int 12]) (rest := []) (ws1 := wX6_value g q_o q_o_answer q_o_present q_o_present_denominator q_o_present_numerator q_o_text q_o_trial q_o_history q_o_output q_o_best q_o_present_nodes q_o_present_order q_o_present_sorted q_o_present_weights q_o_present_product o_answer_top o_answer_bottom o_present_denominator o_present_numerator) (st1 := []) (kX6_needWithin D g x l hl0   p1 12 r1 c1) mw_X6_needWithin ml_X6_119 ⟨Nat.le_of_ble_eq_true rfl, Nat.le_of_ble_eq_true rfl⟩ hP hD hS [] (by decide +kernel) rfl rfl rfl hl.1 rfl (Nat.le_of_ble_eq_true rfl) dX6_value_3 ⟨Nat.le_of_ble_eq_true rfl, Nat.le_of_ble_eq_true rfl⟩ rfl rfl (fun t2 H locs hP hD hS => ?_) (fun t2 H locs q ce hP hD hS hq hqv hqc => ?_)
  · have h := o_t t2 h
    refine W.widen (k := 1) (n := 6) (Nat.le_of_ble_eq_true rfl) (Nat.le_of_ble_eq_true rfl) ?_
    refine lv_iload_n hx hb dX6_value_6 rfl (lv_at hl 2 rfl) ?_
    obtain ⟨r3, c3, h⟩ := o_b h
    refine xcallS X (As := [.int p2]) (rest := []) (ws1 := wX6_value g q_o q_o_answer q_o_present q_o_present_denominator q_o_present_numerator q_o_text q_o_trial q_o_history q_o_output q_o_best q_o_present_nodes q_o_present_order q_o_present_sorted q_o_present_weights q_o_present_product o_answer_top o_answer_bottom o_present_denominator o_present_numerator) (st1 := []) (kX6_needPart D g x l hl0   p2 r3 c3) mw_X6_needPart ml_X6_148 ⟨Nat.le_of_ble_eq_true rfl, Nat.le_of_ble_eq_true rfl⟩ hP hD hS [] (by decide +kernel) rfl rfl rfl hl.1 rfl (Nat.le_of_ble_eq_true rfl) dX6_value_7 ⟨Nat.le_of_ble_eq_true rfl, Nat.le_of_ble_eq_true rfl⟩ rfl rfl (fun t4 H locs hP hD hS => ?_) (fun t4 H locs q ce hP hD hS hq hqv hqc => ?_)
    · have h := o_t t4 h
      refine W.widen (k := 2) (n := 12) (Nat.le_of_ble_eq_true rfl) (Nat.le_of_ble_eq_true rfl) ?_
      refine lv_aload_n hx hb dX6_value_10 rfl (lv_at hl 0 rfl) ?_
      refine lv_aload_n hx hb dX6_value_11 rfl (lv_at hl 0 rfl) ?_
      refine mget X fl_X6_19 hP 0 rfl rfl dX6_value_12 ?_
      refine lv_iload_n hx hb dX6_value_15 rfl (lv_at hl 1 rfl) ?_
      obtain ⟨r5, c5, h⟩ := o_b h
      refine xcallV X (As := [.ref q_o_present, .int p1]) (rest := []) (ws1 := wX6_value g q_o q_o_answer q_o_present q_o_present_denominator q_o_present_numerator q_o_text q_o_trial q_o_history q_o_output q_o_best q_o_present_nodes q_o_present_order q_o_present_sorted q_o_present_weights q_o_present_product r5.2.2 r5.2.1 o_present_denominator o_present_numerator) (st1 := []) (kX6_needValue D g x l hl0 q_o q_o_answer q_o_present q_o_present_denominator q_o_present_numerator q_o_text q_o_present q_o_trial q_o_history q_o_output q_o_best q_o_present_nodes q_o_present_order q_o_present_sorted q_o_present_weights q_o_present_product o_answer_top o_answer_bottom o_present_denominator o_present_numerator p1 r5 c5) mw_X6_needValue ml_X6_151 ⟨Nat.le_of_ble_eq_true rfl, Nat.le_of_ble_eq_true rfl⟩ hP hD hS [0, 1, 2, 3, 4] (by decide +kernel) rfl rfl 0 rfl rfl rfl hl.1 rfl (Nat.le_of_ble_eq_true rfl) dX6_value_16 ⟨Nat.le_of_ble_eq_true rfl, Nat.le_of_ble_eq_true rfl⟩ rfl rfl (fun t6 H locs hP hD hS => ?_) (fun t6 H locs q ce hP hD hS hq hqv hqc => ?_)
      · have h := o_t t6 h
        refine W.widen (k := 3) (n := 18) (Nat.le_of_ble_eq_true rfl) (Nat.le_of_ble_eq_true rfl) ?_
        refine lv_aload_n hx hb dX6_value_19 rfl (lv_at hl 0 rfl) ?_
        refine mget X fl_X6_43 hP 0 rfl rfl dX6_value_20 ?_
        refine lv_iload_n hx hb dX6_value_23 rfl (lv_at hl 2 rfl) ?_
        obtain ⟨r7, c7, h⟩ := o_b h
        refine mcallV X (As := [.int p2]) (rest := []) (ws1 := wX6_value g q_o q_o_answer q_o_present q_o_present_denominator q_o_present_numerator q_o_text q_o_trial q_o_history q_o_output q_o_best q_o_present_nodes q_o_present_order q_o_present_sorted q_o_present_weights q_o_present_product r5.2.2 r5.2.1 o_present_denominator o_present_numerator) (st1 := [.long r7]) (kX1_part D g x l q_o_answer r5.2.2 r5.2.1 p2 r7 c7) mw_X1_part ml_X6_155 ⟨Nat.le_of_ble_eq_true rfl, Nat.le_of_ble_eq_true rfl⟩ hP hD hS [1] (by decide +kernel) rfl rfl 1 rfl rfl rfl hl.1 rfl (Nat.le_of_ble_eq_true rfl) dX6_value_24 ⟨Nat.le_of_ble_eq_true rfl, Nat.le_of_ble_eq_true rfl⟩ rfl rfl (fun H locs hP hD hS => ?_)
        cases h
        exact fin _ _ _ _ _ _ rfl (Nat.le_of_ble_eq_true rfl) (Nat.le_of_ble_eq_true rfl) trivial hP hS dX6_value_27
      · have h := o_f t6 h
        cases h
        exact finO _ _ _ _ _ _ _ _ _ t6 (Nat.le_of_ble_eq_true rfl) (Nat.le_of_ble_eq_true rfl) hP hS hq hqv hqc
    · have h := o_f t4 h
      cases h
      exact finO _ _ _ _ _ _ _ _ _ t4 (Nat.le_of_ble_eq_true rfl) (Nat.le_of_ble_eq_true rfl) hP hS hq hqv hqc
  · have h := o_f t2 h
    cases h
    exact finO _ _ _ _ _ _ _ _ _ t2 (Nat.le_of_ble_eq_true rfl) (Nat.le_of_ble_eq_true rfl) hP hS hq hqv hqc
abbrev wX6_meets (g : Nat → ClassId) (q_o q_o_answer q_o_present q_o_present_denominator q_o_present_nodes q_o_present_nodes_xs q_o_present_nodes_ys q_o_present_numerator q_o_text q_o_trial q_o_history q_o_output q_o_best q_o_present_order q_o_present_sorted q_o_present_weights q_o_present_product q_o_present_nodes_ws : Nat)  (o_answer_top : Int64) (o_answer_bottom : Int64) (o_present_denominator : Nat → Int64) (o_present_nodes_count : Int32) (o_present_nodes_mode : Int32) (o_present_nodes_degree : Int32) (o_present_nodes_xs : Nat → Int32) (o_present_nodes_ys : Nat → Int32) (o_present_numerator : Nat → Int64) : va_W := [(q_o, .inr (6, [.ref q_o_text, .ref q_o_present, .ref q_o_trial, .ref q_o_history, .ref q_o_output, .ref q_o_answer, .ref q_o_best])), (q_o_answer, .inr (1, [.long o_answer_top, .long o_answer_bottom])), (q_o_present, .inr (0, [.ref q_o_present_nodes, .ref q_o_present_order, .ref q_o_present_sorted, .ref q_o_present_weights, .ref q_o_present_numerator, .ref q_o_present_denominator, .ref q_o_present_product])), (q_o_present_denominator, .inl (g 1, 5, .inr (.inl o_present_denominator))), (q_o_present_nodes, .inr (3, [.ref q_o_present_nodes_xs, .ref q_o_present_nodes_ys, .ref q_o_present_nodes_ws, .int o_present_nodes_count, .int o_present_nodes_mode, .int o_present_nodes_degree])), (q_o_present_nodes_xs, .inl (g 0, 5, .inl o_present_nodes_xs)), (q_o_present_nodes_ys, .inl (g 0, 5, .inl o_present_nodes_ys)), (q_o_present_numerator, .inl (g 1, 5, .inr (.inl o_present_numerator)))]
set_option maxHeartbeats 4000000 in
set_option maxRecDepth 100000 in
theorem kX6_meets (D : va_G) (g : Nat → ClassId) (x : Xd) (l : Launch) (q_o q_o_answer q_o_present q_o_present_denominator q_o_present_nodes q_o_present_nodes_xs q_o_present_nodes_ys q_o_present_numerator q_o_text q_o_trial q_o_history q_o_output q_o_best q_o_present_order q_o_present_sorted q_o_present_weights q_o_present_product q_o_present_nodes_ws : Nat)  (o_answer_top : Int64) (o_answer_bottom : Int64) (o_present_denominator : Nat → Int64) (o_present_nodes_count : Int32) (o_present_nodes_mode : Int32) (o_present_nodes_degree : Int32) (o_present_nodes_xs : Nat → Int32) (o_present_nodes_ys : Nat → Int32) (o_present_numerator : Nat → Int64) (p1 : Int32) (R : Int32 × Int64 × Int64) (h : mX6_meets o_answer_bottom o_answer_top o_present_denominator o_present_nodes_xs o_present_nodes_ys o_present_numerator p1 = some R) : Cn D g x l yX6_meets cX6_meets 2 (some .boolean) 4 111 [.ref q_o, .int p1] (wX6_meets g q_o q_o_answer q_o_present q_o_present_denominator q_o_present_nodes q_o_present_nodes_xs q_o_present_nodes_ys q_o_present_numerator q_o_text q_o_trial q_o_history q_o_output q_o_best q_o_present_order q_o_present_sorted q_o_present_weights q_o_present_product q_o_present_nodes_ws o_answer_top o_answer_bottom o_present_denominator o_present_nodes_count o_present_nodes_mode o_present_nodes_degree o_present_nodes_xs o_present_nodes_ys o_present_numerator) (wX6_meets g q_o q_o_answer q_o_present q_o_present_denominator q_o_present_nodes q_o_present_nodes_xs q_o_present_nodes_ys q_o_present_numerator q_o_text q_o_trial q_o_history q_o_output q_o_best q_o_present_order q_o_present_sorted q_o_present_weights q_o_present_product q_o_present_nodes_ws R.2.2 R.2.1 o_present_denominator o_present_nodes_count o_present_nodes_mode o_present_nodes_degree o_present_nodes_xs o_present_nodes_ys o_present_numerator) (some (.int R.1)) := by
  refine CnI (by decide +kernel) (Nat.le_of_ble_eq_true rfl) (fun p e s m args below meth c A Q ls X hD hP hS fin hl => ?_)
  obtain ⟨hx, hb, hml, -, -, hown, hts, hK, hA, hE⟩ := id X
  unfold mX6_meets at h
  have hl : lv_has ls 2 [(0, .ref q_o), (1, .int p1)] := hl
  refine lv_aload_n hx hb dX6_meets_0 rfl (lv_at hl 0 rfl) ?_
  refine mget X fl_X6_19 hP 0 rfl rfl dX6_meets_1 ?_
  refine lv_aload_n hx hb dX6_meets_4 rfl (lv_at hl 0 rfl) ?_
  refine mget X fl_X6_19 hP 0 rfl rfl dX6_meets_5 ?_
  refine mget X fl_X6_66 hP 2 rfl rfl dX6_meets_8 ?_
  refine lv_iload_n hx hb dX6_meets_11 rfl (lv_at hl 1 rfl) ?_
  obtain ⟨r1, c1, h⟩ := o_b h
  refine mcallV X (As := [.int p1]) (rest := [.ref q_o_present]) (ws1 := wX6_meets g q_o q_o_answer q_o_present q_o_present_denominator q_o_present_nodes q_o_present_nodes_xs q_o_present_nodes_ys q_o_present_numerator q_o_text q_o_trial q_o_history q_o_output q_o_best q_o_present_order q_o_present_sorted q_o_present_weights q_o_present_product q_o_present_nodes_ws o_answer_top o_answer_bottom o_present_denominator o_present_nodes_count o_present_nodes_mode o_present_nodes_degree o_present_nodes_xs o_present_nodes_ys o_present_numerator) (st1 := [.int r1, .ref q_o_present]) (kX3_xOf D g x l q_o_present_nodes q_o_present_nodes_xs q_o_present_nodes_ys q_o_present_nodes_ws o_present_nodes_count o_present_nodes_mode o_present_nodes_degree o_present_nodes_xs p1 r1 c1) mw_X3_xOf ml_X6_106 ⟨Nat.le_of_ble_eq_true rfl, Nat.le_of_ble_eq_true rfl⟩ hP hD hS [4, 5] (by decide +kernel) rfl rfl 4 rfl rfl rfl hl.1 rfl (Nat.le_of_ble_eq_true rfl) dX6_meets_12 ⟨Nat.le_refl _, Nat.le_refl _⟩ rfl rfl (fun H locs hP hD hS => ?_)
  refine lv_aload_n hx hb dX6_meets_15 rfl (lv_at hl 0 rfl) ?_
  refine mget X fl_X6_43 hP 0 rfl rfl dX6_meets_16 ?_
  obtain ⟨r2, c2, h⟩ := o_b h
  refine mcallV X (As := [.int r1, .ref q_o_answer]) (rest := []) (ws1 := wX6_meets g q_o q_o_answer q_o_present q_o_present_denominator q_o_present_nodes q_o_present_nodes_xs q_o_present_nodes_ys q_o_present_numerator q_o_text q_o_trial q_o_history q_o_output q_o_best q_o_present_order q_o_present_sorted q_o_present_weights q_o_present_product q_o_present_nodes_ws r2.2.2 r2.2.1 o_present_denominator o_present_nodes_count o_present_nodes_mode o_present_nodes_degree o_present_nodes_xs o_present_nodes_ys o_present_numerator) (st1 := [.int r2.1]) (kX0_putValue D g x l q_o_present q_o_present_denominator q_o_present_numerator q_o_answer q_o_present_nodes q_o_present_order q_o_present_sorted q_o_present_weights q_o_present_product o_present_denominator o_present_numerator o_answer_top o_answer_bottom r1 r2 c2) mw_X0_putValue ml_X6_166 ⟨Nat.le_of_ble_eq_true rfl, Nat.le_of_ble_eq_true rfl⟩ hP hD hS [2, 3, 7, 1] (by decide +kernel) rfl rfl 2 rfl rfl rfl hl.1 rfl (Nat.le_of_ble_eq_true rfl) dX6_meets_19 ⟨Nat.le_refl _, Nat.le_refl _⟩ rfl rfl (fun H locs hP hD hS => ?_)
  refine lv_if_eq (tgt := 66) hx hb dX6_meets_22 (by decide) (fun b3 => ?_) (fun b3 => ?_)
  · have h := o_t b3 h
    refine lv_iconst (v := 0) hx hb dX6_meets_66 (by decide) ?_
    cases h
    exact fin _ _ _ _ (nar_z (Or.inl rfl)) hP hS dX6_meets_67
  · have h := o_f b3 h
    refine lv_aload_n hx hb dX6_meets_25 rfl (lv_at hl 0 rfl) ?_
    refine mget X fl_X6_43 hP 0 rfl rfl dX6_meets_26 ?_
    refine lv_iconst (v := 1) hx hb dX6_meets_29 (by decide) ?_
    obtain ⟨r4, c4, h⟩ := o_b h
    refine mcallV X (As := [.int 1]) (rest := []) (ws1 := wX6_meets g q_o q_o_answer q_o_present q_o_present_denominator q_o_present_nodes q_o_present_nodes_xs q_o_present_nodes_ys q_o_present_numerator q_o_text q_o_trial q_o_history q_o_output q_o_best q_o_present_order q_o_present_sorted q_o_present_weights q_o_present_product q_o_present_nodes_ws r2.2.2 r2.2.1 o_present_denominator o_present_nodes_count o_present_nodes_mode o_present_nodes_degree o_present_nodes_xs o_present_nodes_ys o_present_numerator) (st1 := [.long r4]) (kX1_part D g x l q_o_answer r2.2.2 r2.2.1 1 r4 c4) mw_X1_part ml_X6_155 ⟨Nat.le_of_ble_eq_true rfl, Nat.le_of_ble_eq_true rfl⟩ hP hD hS [1] (by decide +kernel) rfl rfl 1 rfl rfl rfl hl.1 rfl (Nat.le_of_ble_eq_true rfl) dX6_meets_30 ⟨Nat.le_refl _, Nat.le_refl _⟩ rfl rfl (fun H locs hP hD hS => ?_)
    refine lv_lconst (v := 1) hx hb dX6_meets_33 (by decide) ?_
    refine W.lcmp hx hb dX6_meets_34 ?_
    refine lv_if_ne (tgt := 66) hx hb dX6_meets_35 (by decide) (fun b5 => ?_) (fun b5 => ?_)
    · have b5 := mt (lg_cmp_eq _ _).mpr b5
      have h := o_f b5 h
      refine lv_iconst (v := 0) hx hb dX6_meets_66 (by decide) ?_
      cases h
      exact fin _ _ _ _ (nar_z (Or.inl rfl)) hP hS dX6_meets_67
    · have b5 := (lg_cmp_eq _ _).mp b5
      have h := o_t b5 h
      refine lv_aload_n hx hb dX6_meets_38 rfl (lv_at hl 0 rfl) ?_
      refine mget X fl_X6_43 hP 0 rfl rfl dX6_meets_39 ?_
      refine lv_iconst (v := 0) hx hb dX6_meets_42 (by decide) ?_
      obtain ⟨r6, c6, h⟩ := o_b h
      refine mcallV X (As := [.int 0]) (rest := []) (ws1 := wX6_meets g q_o q_o_answer q_o_present q_o_present_denominator q_o_present_nodes q_o_present_nodes_xs q_o_present_nodes_ys q_o_present_numerator q_o_text q_o_trial q_o_history q_o_output q_o_best q_o_present_order q_o_present_sorted q_o_present_weights q_o_present_product q_o_present_nodes_ws r2.2.2 r2.2.1 o_present_denominator o_present_nodes_count o_present_nodes_mode o_present_nodes_degree o_present_nodes_xs o_present_nodes_ys o_present_numerator) (st1 := [.long r6]) (kX1_part D g x l q_o_answer r2.2.2 r2.2.1 0 r6 c6) mw_X1_part ml_X6_155 ⟨Nat.le_of_ble_eq_true rfl, Nat.le_of_ble_eq_true rfl⟩ hP hD hS [1] (by decide +kernel) rfl rfl 1 rfl rfl rfl hl.1 rfl (Nat.le_of_ble_eq_true rfl) dX6_meets_43 ⟨Nat.le_refl _, Nat.le_refl _⟩ rfl rfl (fun H locs hP hD hS => ?_)
      refine lv_aload_n hx hb dX6_meets_46 rfl (lv_at hl 0 rfl) ?_
      refine mget X fl_X6_19 hP 0 rfl rfl dX6_meets_47 ?_
      refine mget X fl_X6_66 hP 2 rfl rfl dX6_meets_50 ?_
      refine lv_iload_n hx hb dX6_meets_53 rfl (lv_at hl 1 rfl) ?_
      obtain ⟨r7, c7, h⟩ := o_b h
      refine mcallV X (As := [.int p1]) (rest := [.long r6]) (ws1 := wX6_meets g q_o q_o_answer q_o_present q_o_present_denominator q_o_present_nodes q_o_present_nodes_xs q_o_present_nodes_ys q_o_present_numerator q_o_text q_o_trial q_o_history q_o_output q_o_best q_o_present_order q_o_present_sorted q_o_present_weights q_o_present_product q_o_present_nodes_ws r2.2.2 r2.2.1 o_present_denominator o_present_nodes_count o_present_nodes_mode o_present_nodes_degree o_present_nodes_xs o_present_nodes_ys o_present_numerator) (st1 := [.int r7, .long r6]) (kX3_yOf D g x l q_o_present_nodes q_o_present_nodes_ys q_o_present_nodes_xs q_o_present_nodes_ws o_present_nodes_count o_present_nodes_mode o_present_nodes_degree o_present_nodes_ys p1 r7 c7) mw_X3_yOf ml_X6_110 ⟨Nat.le_of_ble_eq_true rfl, Nat.le_of_ble_eq_true rfl⟩ hP hD hS [4, 6] (by decide +kernel) rfl rfl 4 rfl rfl rfl hl.1 rfl (Nat.le_of_ble_eq_true rfl) dX6_meets_54 ⟨Nat.le_refl _, Nat.le_refl _⟩ rfl rfl (fun H locs hP hD hS => ?_)
      refine lv_i2l (v := Int32.toInt64 r7) hx hb dX6_meets_57 rfl ?_
      refine W.lcmp hx hb dX6_meets_58 ?_
      refine lv_if_ne (tgt := 66) hx hb dX6_meets_59 (by decide) (fun b8 => ?_) (fun b8 => ?_)
      · have b8 := mt (lg_cmp_eq _ _).mpr b8
        have h := o_f b8 h
        refine lv_iconst (v := 0) hx hb dX6_meets_66 (by decide) ?_
        cases h
        exact fin _ _ _ _ (nar_z (Or.inl rfl)) hP hS dX6_meets_67
      · have b8 := (lg_cmp_eq _ _).mp b8
        have h := o_t b8 h
        refine lv_iconst (v := 1) hx hb dX6_meets_62 (by decide) ?_
        refine lv_goto (tgt := 67) hx hb dX6_meets_63 (by decide) ?_
        cases h
        exact fin _ _ _ _ (nar_z (Or.inr rfl)) hP hS dX6_meets_67
abbrev wX6_missed (g : Nat → ClassId) (q_o q_o_answer q_o_present q_o_present_denominator q_o_present_nodes q_o_present_nodes_xs q_o_present_nodes_ys q_o_present_numerator q_o_text q_o_trial q_o_history q_o_output q_o_best q_o_present_order q_o_present_sorted q_o_present_weights q_o_present_product q_o_present_nodes_ws : Nat)  (o_answer_top : Int64) (o_answer_bottom : Int64) (o_present_denominator : Nat → Int64) (o_present_nodes_count : Int32) (o_present_nodes_mode : Int32) (o_present_nodes_degree : Int32) (o_present_nodes_xs : Nat → Int32) (o_present_nodes_ys : Nat → Int32) (o_present_numerator : Nat → Int64) : va_W := [(q_o, .inr (6, [.ref q_o_text, .ref q_o_present, .ref q_o_trial, .ref q_o_history, .ref q_o_output, .ref q_o_answer, .ref q_o_best])), (q_o_answer, .inr (1, [.long o_answer_top, .long o_answer_bottom])), (q_o_present, .inr (0, [.ref q_o_present_nodes, .ref q_o_present_order, .ref q_o_present_sorted, .ref q_o_present_weights, .ref q_o_present_numerator, .ref q_o_present_denominator, .ref q_o_present_product])), (q_o_present_denominator, .inl (g 1, 5, .inr (.inl o_present_denominator))), (q_o_present_nodes, .inr (3, [.ref q_o_present_nodes_xs, .ref q_o_present_nodes_ys, .ref q_o_present_nodes_ws, .int o_present_nodes_count, .int o_present_nodes_mode, .int o_present_nodes_degree])), (q_o_present_nodes_xs, .inl (g 0, 5, .inl o_present_nodes_xs)), (q_o_present_nodes_ys, .inl (g 0, 5, .inl o_present_nodes_ys)), (q_o_present_numerator, .inl (g 1, 5, .inr (.inl o_present_numerator)))]
set_option maxHeartbeats 4000000 in
set_option maxRecDepth 100000 in
theorem kX6_missed (D : va_G) (g : Nat → ClassId) (x : Xd) (l : Launch) (q_o q_o_answer q_o_present q_o_present_denominator q_o_present_nodes q_o_present_nodes_xs q_o_present_nodes_ys q_o_present_numerator q_o_text q_o_trial q_o_history q_o_output q_o_best q_o_present_order q_o_present_sorted q_o_present_weights q_o_present_product q_o_present_nodes_ws : Nat)  (o_answer_top : Int64) (o_answer_bottom : Int64) (o_present_denominator : Nat → Int64) (o_present_nodes_count : Int32) (o_present_nodes_mode : Int32) (o_present_nodes_degree : Int32) (o_present_nodes_xs : Nat → Int32) (o_present_nodes_ys : Nat → Int32) (o_present_numerator : Nat → Int64) (R : Int32 × Int64 × Int64) (h : mX6_missed o_answer_bottom o_answer_top o_present_denominator o_present_nodes_count o_present_nodes_xs o_present_nodes_ys o_present_numerator = some R) : Cn D g x l yX6_missed cX6_missed 3 (some .int) 5 132 [.ref q_o] (wX6_missed g q_o q_o_answer q_o_present q_o_present_denominator q_o_present_nodes q_o_present_nodes_xs q_o_present_nodes_ys q_o_present_numerator q_o_text q_o_trial q_o_history q_o_output q_o_best q_o_present_order q_o_present_sorted q_o_present_weights q_o_present_product q_o_present_nodes_ws o_answer_top o_answer_bottom o_present_denominator o_present_nodes_count o_present_nodes_mode o_present_nodes_degree o_present_nodes_xs o_present_nodes_ys o_present_numerator) (wX6_missed g q_o q_o_answer q_o_present q_o_present_denominator q_o_present_nodes q_o_present_nodes_xs q_o_present_nodes_ys q_o_present_numerator q_o_text q_o_trial q_o_history q_o_output q_o_best q_o_present_order q_o_present_sorted q_o_present_weights q_o_present_product q_o_present_nodes_ws R.2.2 R.2.1 o_present_denominator o_present_nodes_count o_present_nodes_mode o_present_nodes_degree o_present_nodes_xs o_present_nodes_ys o_present_numerator) (some (.int R.1)) := by
  refine CnI (by decide +kernel) (Nat.le_of_ble_eq_true rfl) (fun p e s m args below meth c A Q ls X hD hP hS fin hl => ?_)
  obtain ⟨hx, hb, hml, -, -, hown, hts, hK, hA, hE⟩ := id X
  unfold mX6_missed at h
  have hl : lv_has ls 3 [(0, .ref q_o)] := hl
  refine lv_iconst (v := 0) hx hb dX6_missed_0 (by decide) ?_
  refine lv_istore_n (lv' := [(1, .int 0), (0, .ref q_o)]) hx hb dX6_missed_1 rfl hl (by decide) rfl (fun ls hl => ?_)
  refine lv_iconst (v := 0) hx hb dX6_missed_2 (by decide) ?_
  refine lv_istore_n (lv' := [(2, .int 0), (1, .int 0), (0, .ref q_o)]) hx hb dX6_missed_3 rfl hl (by decide) rfl (fun ls hl => ?_)
  have lp1 : ∀ (n : Nat) (v1_1 : Int32) (v1_2 : Int32) (u1_o_answer_bottom : Int64) (u1_o_answer_top : Int64) (R1 : Int32 × Int64 × Int64) (h : lX6_missed_4 o_present_denominator o_present_nodes_count o_present_nodes_xs o_present_nodes_ys o_present_numerator n v1_1 v1_2 u1_o_answer_bottom u1_o_answer_top = some R1) (H : Heap) (locs : List Loc), va_P D vwCl (wX6_missed g q_o q_o_answer q_o_present q_o_present_denominator q_o_present_nodes q_o_present_nodes_xs q_o_present_nodes_ys q_o_present_numerator q_o_text q_o_trial q_o_history q_o_output q_o_best q_o_present_order q_o_present_sorted q_o_present_weights q_o_present_product q_o_present_nodes_ws u1_o_answer_top u1_o_answer_bottom o_present_denominator o_present_nodes_count o_present_nodes_mode o_present_nodes_degree o_present_nodes_xs o_present_nodes_ys o_present_numerator) H → va_D A (wX6_missed g q_o q_o_answer q_o_present q_o_present_denominator q_o_present_nodes q_o_present_nodes_xs q_o_present_nodes_ys q_o_present_numerator q_o_text q_o_trial q_o_history q_o_output q_o_best q_o_present_order q_o_present_sorted q_o_present_weights q_o_present_product q_o_present_nodes_ws u1_o_answer_top u1_o_answer_bottom o_present_denominator o_present_nodes_count o_present_nodes_mode o_present_nodes_degree o_present_nodes_xs o_present_nodes_ys o_present_numerator) → va_S A s.heap H locs → ∀ (ls : Array Slot), lv_has ls 3 [(0, .ref q_o), (1, .int v1_1), (2, .int v1_2)] → (∀ (H : Heap) (locs : List Loc) (ls : Array Slot), va_P D vwCl (wX6_missed g q_o q_o_answer q_o_present q_o_present_denominator q_o_present_nodes q_o_present_nodes_xs q_o_present_nodes_ys q_o_present_numerator q_o_text q_o_trial q_o_history q_o_output q_o_best q_o_present_order q_o_present_sorted q_o_present_weights q_o_present_product q_o_present_nodes_ws R1.2.2 R1.2.1 o_present_denominator o_present_nodes_count o_present_nodes_mode o_present_nodes_degree o_present_nodes_xs o_present_nodes_ys o_present_numerator) H → va_D A (wX6_missed g q_o q_o_answer q_o_present q_o_present_denominator q_o_present_nodes q_o_present_nodes_xs q_o_present_nodes_ys q_o_present_numerator q_o_text q_o_trial q_o_history q_o_output q_o_best q_o_present_order q_o_present_sorted q_o_present_weights q_o_present_product q_o_present_nodes_ws R1.2.2 R1.2.1 o_present_denominator o_present_nodes_count o_present_nodes_mode o_present_nodes_degree o_present_nodes_xs o_present_nodes_ys o_present_numerator) → va_S A s.heap H locs → lv_has ls 3 [(1, .int R1.1)] → W p l e (rmF 5 132) s m args below meth c H locs 0 0 Q (F0 m 35 ls [])) → W p l e (rmF 5 132) s m args below meth c H locs 0 0 Q (F0 m 4 ls []) := by
    intro n
    induction n with
    | zero =>
      intro v1_1 v1_2 u1_o_answer_bottom u1_o_answer_top R1 h
      have h : none = some R1 := h
      cases h
    | succ n ih1 =>
      intro v1_1 v1_2 u1_o_answer_bottom u1_o_answer_top R1 h H locs hP hD hS ls hl K1_0
      have h : ((mX3_size o_present_nodes_count).bind fun r2 => if r2 ≤ v1_2 then some (v1_1, u1_o_answer_bottom, u1_o_answer_top) else (mX6_meets u1_o_answer_bottom u1_o_answer_top o_present_denominator o_present_nodes_xs o_present_nodes_ys o_present_numerator v1_2).bind fun r4 => if r4.1 = 0 then lX6_missed_4 o_present_denominator o_present_nodes_count o_present_nodes_xs o_present_nodes_ys o_present_numerator n (v1_1 + 1) (v1_2 + 1) r4.2.1 r4.2.2 else lX6_missed_4 o_present_denominator o_present_nodes_count o_present_nodes_xs o_present_nodes_ys o_present_numerator n v1_1 (v1_2 + 1) r4.2.1 r4.2.2 : Option (Int32 × Int64 × Int64)) = some R1 := h
      refine lv_iload_n hx hb dX6_missed_4 rfl (lv_at hl 2 rfl) ?_
      refine lv_aload_n hx hb dX6_missed_5 rfl (lv_at hl 0 rfl) ?_
      refine mget X fl_X6_19 hP 0 rfl rfl dX6_missed_6 ?_
      refine mget X fl_X6_66 hP 2 rfl rfl dX6_missed_9 ?_
      obtain ⟨r2, c2, h⟩ := o_b h
      refine mcallV X (As := []) (rest := [.int v1_2]) (ws1 := wX6_missed g q_o q_o_answer q_o_present q_o_present_denominator q_o_present_nodes q_o_present_nodes_xs q_o_present_nodes_ys q_o_present_numerator q_o_text q_o_trial q_o_history q_o_output q_o_best q_o_present_order q_o_present_sorted q_o_present_weights q_o_present_product q_o_present_nodes_ws u1_o_answer_top u1_o_answer_bottom o_present_denominator o_present_nodes_count o_present_nodes_mode o_present_nodes_degree o_present_nodes_xs o_present_nodes_ys o_present_numerator) (st1 := [.int r2, .int v1_2]) (kX3_size D g x l q_o_present_nodes q_o_present_nodes_xs q_o_present_nodes_ys q_o_present_nodes_ws o_present_nodes_count o_present_nodes_mode o_present_nodes_degree  r2 c2) mw_X3_size ml_X6_87 ⟨Nat.le_of_ble_eq_true rfl, Nat.le_of_ble_eq_true rfl⟩ hP hD hS [4] (by decide +kernel) rfl rfl 4 rfl rfl rfl hl.1 rfl (Nat.le_of_ble_eq_true rfl) dX6_missed_12 ⟨Nat.le_refl _, Nat.le_refl _⟩ rfl rfl (fun H locs hP hD hS => ?_)
      refine lv_icmp_ge (tgt := 35) hx hb dX6_missed_15 (by decide) (fun b3 => ?_) (fun b3 => ?_)
      · have h := o_t b3 h
        cases h
        exact K1_0  _ _ _ hP hD hS (lv_sub hl [1] rfl)
      · have h := o_f b3 h
        refine lv_aload_n hx hb dX6_missed_18 rfl (lv_at hl 0 rfl) ?_
        refine lv_iload_n hx hb dX6_missed_19 rfl (lv_at hl 2 rfl) ?_
        obtain ⟨r4, c4, h⟩ := o_b h
        refine mcallV X (As := [.int v1_2]) (rest := []) (ws1 := wX6_missed g q_o q_o_answer q_o_present q_o_present_denominator q_o_present_nodes q_o_present_nodes_xs q_o_present_nodes_ys q_o_present_numerator q_o_text q_o_trial q_o_history q_o_output q_o_best q_o_present_order q_o_present_sorted q_o_present_weights q_o_present_product q_o_present_nodes_ws r4.2.2 r4.2.1 o_present_denominator o_present_nodes_count o_present_nodes_mode o_present_nodes_degree o_present_nodes_xs o_present_nodes_ys o_present_numerator) (st1 := [.int r4.1]) (kX6_meets D g x l q_o q_o_answer q_o_present q_o_present_denominator q_o_present_nodes q_o_present_nodes_xs q_o_present_nodes_ys q_o_present_numerator q_o_text q_o_trial q_o_history q_o_output q_o_best q_o_present_order q_o_present_sorted q_o_present_weights q_o_present_product q_o_present_nodes_ws u1_o_answer_top u1_o_answer_bottom o_present_denominator o_present_nodes_count o_present_nodes_mode o_present_nodes_degree o_present_nodes_xs o_present_nodes_ys o_present_numerator v1_2 r4 c4) mw_X6_meets ml_X6_158 ⟨Nat.le_of_ble_eq_true rfl, Nat.le_of_ble_eq_true rfl⟩ hP hD hS [0, 1, 2, 3, 4, 5, 6, 7] (by decide +kernel) rfl rfl 0 rfl rfl rfl hl.1 rfl (Nat.le_of_ble_eq_true rfl) dX6_missed_20 ⟨Nat.le_refl _, Nat.le_refl _⟩ rfl rfl (fun H locs hP hD hS => ?_)
        refine lv_if_ne (tgt := 29) hx hb dX6_missed_23 (by decide) (fun b5 => ?_) (fun b5 => ?_)
        · have h := o_f b5 h
          refine lv_iinc (v := v1_2 + 1) (lv' := [(2, .int (v1_2 + 1)), (0, .ref q_o), (1, .int v1_1)]) hx hb dX6_missed_29 hl (k := 2) rfl rfl (by decide) rfl (fun ls hl => ?_)
          refine lv_goto (tgt := 4) hx hb dX6_missed_32 (by decide) ?_
          exact ih1 v1_1 (v1_2 + 1) r4.2.1 r4.2.2 _ h _ _ hP hD hS _ (lv_sub hl [1, 2, 0] rfl) K1_0
        · have h := o_t b5 h
          refine lv_iinc (v := v1_1 + 1) (lv' := [(1, .int (v1_1 + 1)), (0, .ref q_o), (2, .int v1_2)]) hx hb dX6_missed_26 hl (k := 1) rfl rfl (by decide) rfl (fun ls hl => ?_)
          refine lv_iinc (v := v1_2 + 1) (lv' := [(2, .int (v1_2 + 1)), (1, .int (v1_1 + 1)), (0, .ref q_o)]) hx hb dX6_missed_29 hl (k := 2) rfl rfl (by decide) rfl (fun ls hl => ?_)
          refine lv_goto (tgt := 4) hx hb dX6_missed_32 (by decide) ?_
          exact ih1 (v1_1 + 1) (v1_2 + 1) r4.2.1 r4.2.2 _ h _ _ hP hD hS _ (lv_sub hl [2, 1, 0] rfl) K1_0
  obtain ⟨r6, c6, h⟩ := o_b h
  refine lp1 FU 0 0 o_answer_bottom o_answer_top r6 c6 _ _ hP hD hS _ (lv_sub hl [2, 1, 0] rfl) (fun H locs ls hP hD hS hl => ?_)
  refine lv_iload_n hx hb dX6_missed_35 rfl (lv_at hl 0 rfl) ?_
  cases h
  exact fin _ _ _ _ rfl hP hS dX6_missed_36
abbrev wX6_many (g : Nat → ClassId) (q_o q_o_present q_o_present_denominator q_o_present_numerator q_o_text q_o_trial q_o_history q_o_output q_o_answer q_o_best q_o_present_nodes q_o_present_order q_o_present_sorted q_o_present_weights q_o_present_product : Nat)  (o_present_denominator : Nat → Int64) (o_present_numerator : Nat → Int64) : va_W := [(q_o, .inr (6, [.ref q_o_text, .ref q_o_present, .ref q_o_trial, .ref q_o_history, .ref q_o_output, .ref q_o_answer, .ref q_o_best])), (q_o_present, .inr (0, [.ref q_o_present_nodes, .ref q_o_present_order, .ref q_o_present_sorted, .ref q_o_present_weights, .ref q_o_present_numerator, .ref q_o_present_denominator, .ref q_o_present_product])), (q_o_present_denominator, .inl (g 1, 5, .inr (.inl o_present_denominator))), (q_o_present_numerator, .inl (g 1, 5, .inr (.inl o_present_numerator)))]
set_option maxHeartbeats 4000000 in
set_option maxRecDepth 100000 in
theorem kX6_many (D : va_G) (g : Nat → ClassId) (x : Xd) (l : Launch) (q_o q_o_present q_o_present_denominator q_o_present_numerator q_o_text q_o_trial q_o_history q_o_output q_o_answer q_o_best q_o_present_nodes q_o_present_order q_o_present_sorted q_o_present_weights q_o_present_product : Nat)  (o_present_denominator : Nat → Int64) (o_present_numerator : Nat → Int64) (p1 : Int32) (R : Int32) (h : mX6_many o_present_denominator o_present_numerator p1 = some R) : Cn D g x l yX6_many cX6_many 4 (some .int) 3 68 [.ref q_o, .int p1] (wX6_many g q_o q_o_present q_o_present_denominator q_o_present_numerator q_o_text q_o_trial q_o_history q_o_output q_o_answer q_o_best q_o_present_nodes q_o_present_order q_o_present_sorted q_o_present_weights q_o_present_product o_present_denominator o_present_numerator) (wX6_many g q_o q_o_present q_o_present_denominator q_o_present_numerator q_o_text q_o_trial q_o_history q_o_output q_o_answer q_o_best q_o_present_nodes q_o_present_order q_o_present_sorted q_o_present_weights q_o_present_product o_present_denominator o_present_numerator) (some (.int R)) := by
  refine CnI (by decide +kernel) (Nat.le_of_ble_eq_true rfl) (fun p e s m args below meth c A Q ls X hD hP hS fin hl => ?_)
  obtain ⟨hx, hb, hml, -, -, hown, hts, hK, hA, hE⟩ := id X
  unfold mX6_many at h
  have hl : lv_has ls 4 [(0, .ref q_o), (1, .int p1)] := hl
  refine lv_iconst (v := 0) hx hb dX6_many_0 (by decide) ?_
  refine lv_istore_n (lv' := [(2, .int 0), (0, .ref q_o), (1, .int p1)]) hx hb dX6_many_1 rfl hl (by decide) rfl (fun ls hl => ?_)
  refine lv_bipush (v := (-12)) hx hb dX6_many_2 (by decide) ?_
  refine lv_istore_n (lv' := [(3, .int ((-12))), (2, .int 0), (0, .ref q_o), (1, .int p1)]) hx hb dX6_many_4 rfl hl (by decide) rfl (fun ls hl => ?_)
  have lp1 : ∀ (n : Nat) (v1_2 : Int32) (v1_3 : Int32) (R1 : Int32) (h : lX6_many_5 p1 o_present_denominator o_present_numerator n v1_2 v1_3 = some R1) (H : Heap) (locs : List Loc), va_P D vwCl (wX6_many g q_o q_o_present q_o_present_denominator q_o_present_numerator q_o_text q_o_trial q_o_history q_o_output q_o_answer q_o_best q_o_present_nodes q_o_present_order q_o_present_sorted q_o_present_weights q_o_present_product o_present_denominator o_present_numerator) H → va_D A (wX6_many g q_o q_o_present q_o_present_denominator q_o_present_numerator q_o_text q_o_trial q_o_history q_o_output q_o_answer q_o_best q_o_present_nodes q_o_present_order q_o_present_sorted q_o_present_weights q_o_present_product o_present_denominator o_present_numerator) → va_S A s.heap H locs → ∀ (ls : Array Slot), lv_has ls 4 [(0, .ref q_o), (1, .int p1), (2, .int v1_2), (3, .int v1_3)] → (∀ (H : Heap) (locs : List Loc) (ls : Array Slot), va_P D vwCl (wX6_many g q_o q_o_present q_o_present_denominator q_o_present_numerator q_o_text q_o_trial q_o_history q_o_output q_o_answer q_o_best q_o_present_nodes q_o_present_order q_o_present_sorted q_o_present_weights q_o_present_product o_present_denominator o_present_numerator) H → va_D A (wX6_many g q_o q_o_present q_o_present_denominator q_o_present_numerator q_o_text q_o_trial q_o_history q_o_output q_o_answer q_o_best q_o_present_nodes q_o_present_order q_o_present_sorted q_o_present_weights q_o_present_product o_present_denominator o_present_numerator) → va_S A s.heap H locs → lv_has ls 4 [(2, .int R1)] → W p l e (rmF 3 68) s m args below meth c H locs 0 0 Q (F0 m 32 ls [])) → W p l e (rmF 3 68) s m args below meth c H locs 0 0 Q (F0 m 5 ls []) := by
    intro n
    induction n with
    | zero =>
      intro v1_2 v1_3 R1 h
      have h : none = some R1 := h
      cases h
    | succ n ih1 =>
      intro v1_2 v1_3 R1 h H locs hP hD hS ls hl K1_0
      have h : (if 12 < v1_3 then some v1_2 else (mX0_kindOf o_present_denominator o_present_numerator v1_3).bind fun r3 => if r3 = p1 then lX6_many_5 p1 o_present_denominator o_present_numerator n (v1_2 + 1) (v1_3 + 1) else lX6_many_5 p1 o_present_denominator o_present_numerator n v1_2 (v1_3 + 1) : Option (Int32)) = some R1 := h
      refine lv_iload_n hx hb dX6_many_5 rfl (lv_at hl 3 rfl) ?_
      refine lv_bipush (v := 12) hx hb dX6_many_6 (by decide) ?_
      refine lv_icmp_gt (tgt := 32) hx hb dX6_many_8 (by decide) (fun b2 => ?_) (fun b2 => ?_)
      · have h := o_t b2 h
        cases h
        exact K1_0  _ _ _ hP hD hS (lv_sub hl [2] rfl)
      · have h := o_f b2 h
        refine lv_aload_n hx hb dX6_many_11 rfl (lv_at hl 0 rfl) ?_
        refine mget X fl_X6_19 hP 0 rfl rfl dX6_many_12 ?_
        refine lv_iload_n hx hb dX6_many_15 rfl (lv_at hl 3 rfl) ?_
        obtain ⟨r3, c3, h⟩ := o_b h
        refine mcallV X (As := [.int v1_3]) (rest := []) (ws1 := wX6_many g q_o q_o_present q_o_present_denominator q_o_present_numerator q_o_text q_o_trial q_o_history q_o_output q_o_answer q_o_best q_o_present_nodes q_o_present_order q_o_present_sorted q_o_present_weights q_o_present_product o_present_denominator o_present_numerator) (st1 := [.int r3]) (kX0_kindOf D g x l q_o_present q_o_present_denominator q_o_present_numerator q_o_present_nodes q_o_present_order q_o_present_sorted q_o_present_weights q_o_present_product o_present_denominator o_present_numerator v1_3 r3 c3) mw_X0_kindOf ml_X6_145 ⟨Nat.le_of_ble_eq_true rfl, Nat.le_of_ble_eq_true rfl⟩ hP hD hS [1, 2, 3] (by decide +kernel) rfl rfl 1 rfl rfl rfl hl.1 rfl (Nat.le_of_ble_eq_true rfl) dX6_many_16 ⟨Nat.le_refl _, Nat.le_refl _⟩ rfl rfl (fun H locs hP hD hS => ?_)
        refine lv_iload_n hx hb dX6_many_19 rfl (lv_at hl 1 rfl) ?_
        refine lv_icmp_ne (tgt := 26) hx hb dX6_many_20 (by decide) (fun b4 => ?_) (fun b4 => ?_)
        · have h := o_f b4 h
          refine lv_iinc (v := v1_3 + 1) (lv' := [(3, .int (v1_3 + 1)), (0, .ref q_o), (1, .int p1), (2, .int v1_2)]) hx hb dX6_many_26 hl (k := 3) rfl rfl (by decide) rfl (fun ls hl => ?_)
          refine lv_goto (tgt := 5) hx hb dX6_many_29 (by decide) ?_
          exact ih1 v1_2 (v1_3 + 1) _ h _ _ hP hD hS _ (lv_sub hl [1, 2, 3, 0] rfl) K1_0
        · have h := o_t b4 h
          refine lv_iinc (v := v1_2 + 1) (lv' := [(2, .int (v1_2 + 1)), (0, .ref q_o), (1, .int p1), (3, .int v1_3)]) hx hb dX6_many_23 hl (k := 2) rfl rfl (by decide) rfl (fun ls hl => ?_)
          refine lv_iinc (v := v1_3 + 1) (lv' := [(3, .int (v1_3 + 1)), (2, .int (v1_2 + 1)), (0, .ref q_o), (1, .int p1)]) hx hb dX6_many_26 hl (k := 3) rfl rfl (by decide) rfl (fun ls hl => ?_)
          refine lv_goto (tgt := 5) hx hb dX6_many_29 (by decide) ?_
          exact ih1 (v1_2 + 1) (v1_3 + 1) _ h _ _ hP hD hS _ (lv_sub hl [2, 3, 1, 0] rfl) K1_0
  obtain ⟨r5, c5, h⟩ := o_b h
  refine lp1 FU 0 ((-12)) r5 c5 _ _ hP hD hS _ (lv_sub hl [2, 3, 1, 0] rfl) (fun H locs ls hP hD hS hl => ?_)
  refine lv_iload_n hx hb dX6_many_32 rfl (lv_at hl 0 rfl) ?_
  cases h
  exact fin _ _ _ _ rfl hP hS dX6_many_33
abbrev wX6_hiddenPoles (g : Nat → ClassId) (q_o q_o_present q_o_present_denominator q_o_present_numerator q_o_text q_o_trial q_o_history q_o_output q_o_answer q_o_best q_o_present_nodes q_o_present_order q_o_present_sorted q_o_present_weights q_o_present_product : Nat)  (o_present_denominator : Nat → Int64) (o_present_numerator : Nat → Int64) : va_W := [(q_o, .inr (6, [.ref q_o_text, .ref q_o_present, .ref q_o_trial, .ref q_o_history, .ref q_o_output, .ref q_o_answer, .ref q_o_best])), (q_o_present, .inr (0, [.ref q_o_present_nodes, .ref q_o_present_order, .ref q_o_present_sorted, .ref q_o_present_weights, .ref q_o_present_numerator, .ref q_o_present_denominator, .ref q_o_present_product])), (q_o_present_denominator, .inl (g 1, 5, .inr (.inl o_present_denominator))), (q_o_present_numerator, .inl (g 1, 5, .inr (.inl o_present_numerator)))]
set_option maxHeartbeats 4000000 in
set_option maxRecDepth 100000 in
theorem kX6_hiddenPoles (D : va_G) (g : Nat → ClassId) (x : Xd) (l : Launch) (q_o q_o_present q_o_present_denominator q_o_present_numerator q_o_text q_o_trial q_o_history q_o_output q_o_answer q_o_best q_o_present_nodes q_o_present_order q_o_present_sorted q_o_present_weights q_o_present_product : Nat)  (o_present_denominator : Nat → Int64) (o_present_numerator : Nat → Int64) (R : Int32) (h : mX6_hiddenPoles o_present_denominator o_present_numerator = some R) : Cn D g x l yX6_hiddenPoles cX6_hiddenPoles 3 (some .int) 3 72 [.ref q_o] (wX6_hiddenPoles g q_o q_o_present q_o_present_denominator q_o_present_numerator q_o_text q_o_trial q_o_history q_o_output q_o_answer q_o_best q_o_present_nodes q_o_present_order q_o_present_sorted q_o_present_weights q_o_present_product o_present_denominator o_present_numerator) (wX6_hiddenPoles g q_o q_o_present q_o_present_denominator q_o_present_numerator q_o_text q_o_trial q_o_history q_o_output q_o_answer q_o_best q_o_present_nodes q_o_present_order q_o_present_sorted q_o_present_weights q_o_present_product o_present_denominator o_present_numerator) (some (.int R)) := by
  refine CnI (by decide +kernel) (Nat.le_of_ble_eq_true rfl) (fun p e s m args below meth c A Q ls X hD hP hS fin hl => ?_)
  obtain ⟨hx, hb, hml, -, -, hown, hts, hK, hA, hE⟩ := id X
  unfold mX6_hiddenPoles at h
  have hl : lv_has ls 3 [(0, .ref q_o)] := hl
  refine lv_iconst (v := 0) hx hb dX6_hiddenPoles_0 (by decide) ?_
  refine lv_istore_n (lv' := [(1, .int 0), (0, .ref q_o)]) hx hb dX6_hiddenPoles_1 rfl hl (by decide) rfl (fun ls hl => ?_)
  refine lv_bipush (v := (-12)) hx hb dX6_hiddenPoles_2 (by decide) ?_
  refine lv_istore_n (lv' := [(2, .int ((-12))), (1, .int 0), (0, .ref q_o)]) hx hb dX6_hiddenPoles_4 rfl hl (by decide) rfl (fun ls hl => ?_)
  have lp1 : ∀ (n : Nat) (v1_1 : Int32) (v1_2 : Int32) (R1 : Int32) (h : lX6_hiddenPoles_5 o_present_denominator o_present_numerator n v1_1 v1_2 = some R1) (H : Heap) (locs : List Loc), va_P D vwCl (wX6_hiddenPoles g q_o q_o_present q_o_present_denominator q_o_present_numerator q_o_text q_o_trial q_o_history q_o_output q_o_answer q_o_best q_o_present_nodes q_o_present_order q_o_present_sorted q_o_present_weights q_o_present_product o_present_denominator o_present_numerator) H → va_D A (wX6_hiddenPoles g q_o q_o_present q_o_present_denominator q_o_present_numerator q_o_text q_o_trial q_o_history q_o_output q_o_answer q_o_best q_o_present_nodes q_o_present_order q_o_present_sorted q_o_present_weights q_o_present_product o_present_denominator o_present_numerator) → va_S A s.heap H locs → ∀ (ls : Array Slot), lv_has ls 3 [(0, .ref q_o), (1, .int v1_1), (2, .int v1_2)] → (∀ (H : Heap) (locs : List Loc) (ls : Array Slot), va_P D vwCl (wX6_hiddenPoles g q_o q_o_present q_o_present_denominator q_o_present_numerator q_o_text q_o_trial q_o_history q_o_output q_o_answer q_o_best q_o_present_nodes q_o_present_order q_o_present_sorted q_o_present_weights q_o_present_product o_present_denominator o_present_numerator) H → va_D A (wX6_hiddenPoles g q_o q_o_present q_o_present_denominator q_o_present_numerator q_o_text q_o_trial q_o_history q_o_output q_o_answer q_o_best q_o_present_nodes q_o_present_order q_o_present_sorted q_o_present_weights q_o_present_product o_present_denominator o_present_numerator) → va_S A s.heap H locs → lv_has ls 3 [(1, .int R1)] → W p l e (rmF 3 72) s m args below meth c H locs 0 0 Q (F0 m 31 ls [])) → W p l e (rmF 3 72) s m args below meth c H locs 0 0 Q (F0 m 5 ls []) := by
    intro n
    induction n with
    | zero =>
      intro v1_1 v1_2 R1 h
      have h : none = some R1 := h
      cases h
    | succ n ih1 =>
      intro v1_1 v1_2 R1 h H locs hP hD hS ls hl K1_0
      have h : (if 12 ≤ v1_2 then some v1_1 else (mX0_hidesPoleBehind o_present_denominator o_present_numerator v1_2).bind fun r3 => if r3 = 0 then lX6_hiddenPoles_5 o_present_denominator o_present_numerator n v1_1 (v1_2 + 1) else lX6_hiddenPoles_5 o_present_denominator o_present_numerator n (v1_1 + 1) (v1_2 + 1) : Option (Int32)) = some R1 := h
      refine lv_iload_n hx hb dX6_hiddenPoles_5 rfl (lv_at hl 2 rfl) ?_
      refine lv_bipush (v := 12) hx hb dX6_hiddenPoles_6 (by decide) ?_
      refine lv_icmp_ge (tgt := 31) hx hb dX6_hiddenPoles_8 (by decide) (fun b2 => ?_) (fun b2 => ?_)
      · have h := o_t b2 h
        cases h
        exact K1_0  _ _ _ hP hD hS (lv_sub hl [1] rfl)
      · have h := o_f b2 h
        refine lv_aload_n hx hb dX6_hiddenPoles_11 rfl (lv_at hl 0 rfl) ?_
        refine mget X fl_X6_19 hP 0 rfl rfl dX6_hiddenPoles_12 ?_
        refine lv_iload_n hx hb dX6_hiddenPoles_15 rfl (lv_at hl 2 rfl) ?_
        obtain ⟨r3, c3, h⟩ := o_b h
        refine mcallV X (As := [.int v1_2]) (rest := []) (ws1 := wX6_hiddenPoles g q_o q_o_present q_o_present_denominator q_o_present_numerator q_o_text q_o_trial q_o_history q_o_output q_o_answer q_o_best q_o_present_nodes q_o_present_order q_o_present_sorted q_o_present_weights q_o_present_product o_present_denominator o_present_numerator) (st1 := [.int r3]) (kX0_hidesPoleBehind D g x l q_o_present q_o_present_denominator q_o_present_numerator q_o_present_nodes q_o_present_order q_o_present_sorted q_o_present_weights q_o_present_product o_present_denominator o_present_numerator v1_2 r3 c3) mw_X0_hidesPoleBehind ml_X6_161 ⟨Nat.le_of_ble_eq_true rfl, Nat.le_of_ble_eq_true rfl⟩ hP hD hS [1, 2, 3] (by decide +kernel) rfl rfl 1 rfl rfl rfl hl.1 rfl (Nat.le_of_ble_eq_true rfl) dX6_hiddenPoles_16 ⟨Nat.le_refl _, Nat.le_refl _⟩ rfl rfl (fun H locs hP hD hS => ?_)
        refine lv_if_eq (tgt := 25) hx hb dX6_hiddenPoles_19 (by decide) (fun b4 => ?_) (fun b4 => ?_)
        · have h := o_t b4 h
          refine lv_iinc (v := v1_2 + 1) (lv' := [(2, .int (v1_2 + 1)), (0, .ref q_o), (1, .int v1_1)]) hx hb dX6_hiddenPoles_25 hl (k := 2) rfl rfl (by decide) rfl (fun ls hl => ?_)
          refine lv_goto (tgt := 5) hx hb dX6_hiddenPoles_28 (by decide) ?_
          exact ih1 v1_1 (v1_2 + 1) _ h _ _ hP hD hS _ (lv_sub hl [1, 2, 0] rfl) K1_0
        · have h := o_f b4 h
          refine lv_iinc (v := v1_1 + 1) (lv' := [(1, .int (v1_1 + 1)), (0, .ref q_o), (2, .int v1_2)]) hx hb dX6_hiddenPoles_22 hl (k := 1) rfl rfl (by decide) rfl (fun ls hl => ?_)
          refine lv_iinc (v := v1_2 + 1) (lv' := [(2, .int (v1_2 + 1)), (1, .int (v1_1 + 1)), (0, .ref q_o)]) hx hb dX6_hiddenPoles_25 hl (k := 2) rfl rfl (by decide) rfl (fun ls hl => ?_)
          refine lv_goto (tgt := 5) hx hb dX6_hiddenPoles_28 (by decide) ?_
          exact ih1 (v1_1 + 1) (v1_2 + 1) _ h _ _ hP hD hS _ (lv_sub hl [2, 1, 0] rfl) K1_0
  obtain ⟨r5, c5, h⟩ := o_b h
  refine lp1 FU 0 ((-12)) r5 c5 _ _ hP hD hS _ (lv_sub hl [2, 1, 0] rfl) (fun H locs ls hP hD hS hl => ?_)
  refine lv_iload_n hx hb dX6_hiddenPoles_31 rfl (lv_at hl 0 rfl) ?_
  cases h
  exact fin _ _ _ _ rfl hP hS dX6_hiddenPoles_32
abbrev wX6_divided (g : Nat → ClassId) (q_o q_o_answer q_o_present q_o_present_nodes q_o_present_nodes_xs q_o_present_nodes_ys q_o_text q_o_trial q_o_history q_o_output q_o_best q_o_present_order q_o_present_sorted q_o_present_weights q_o_present_numerator q_o_present_denominator q_o_present_product q_o_present_nodes_ws : Nat)  (o_answer_top : Int64) (o_answer_bottom : Int64) (o_present_nodes_count : Int32) (o_present_nodes_mode : Int32) (o_present_nodes_degree : Int32) (o_present_nodes_xs : Nat → Int32) (o_present_nodes_ys : Nat → Int32) : va_W := [(q_o, .inr (6, [.ref q_o_text, .ref q_o_present, .ref q_o_trial, .ref q_o_history, .ref q_o_output, .ref q_o_answer, .ref q_o_best])), (q_o_answer, .inr (1, [.long o_answer_top, .long o_answer_bottom])), (q_o_present, .inr (0, [.ref q_o_present_nodes, .ref q_o_present_order, .ref q_o_present_sorted, .ref q_o_present_weights, .ref q_o_present_numerator, .ref q_o_present_denominator, .ref q_o_present_product])), (q_o_present_nodes, .inr (3, [.ref q_o_present_nodes_xs, .ref q_o_present_nodes_ys, .ref q_o_present_nodes_ws, .int o_present_nodes_count, .int o_present_nodes_mode, .int o_present_nodes_degree])), (q_o_present_nodes_xs, .inl (g 0, 5, .inl o_present_nodes_xs)), (q_o_present_nodes_ys, .inl (g 0, 5, .inl o_present_nodes_ys))]
set_option maxHeartbeats 4000000 in
set_option maxRecDepth 100000 in
theorem nX6_divided (D : va_G) (g : Nat → ClassId) (x : Xd) (l : Launch) (q_o q_o_answer q_o_present q_o_present_nodes q_o_present_nodes_xs q_o_present_nodes_ys q_o_text q_o_trial q_o_history q_o_output q_o_best q_o_present_order q_o_present_sorted q_o_present_weights q_o_present_numerator q_o_present_denominator q_o_present_product q_o_present_nodes_ws : Nat)  (o_answer_top : Int64) (o_answer_bottom : Int64) (o_present_nodes_count : Int32) (o_present_nodes_mode : Int32) (o_present_nodes_degree : Int32) (o_present_nodes_xs : Nat → Int32) (o_present_nodes_ys : Nat → Int32) (p1 : Int32) (p2 : Int32) (p3 : Int32) (R : Nat × Int64 × Int64 × Int64) (h : mX6_divided o_answer_bottom o_answer_top o_present_nodes_count o_present_nodes_xs o_present_nodes_ys p1 p2 p3 = some R) (h0 : R.1 = 0) : Cn D g x l yX6_divided cX6_divided 4 (some .long) 5 143 [.ref q_o, .int p1, .int p2, .int p3] (wX6_divided g q_o q_o_answer q_o_present q_o_present_nodes q_o_present_nodes_xs q_o_present_nodes_ys q_o_text q_o_trial q_o_history q_o_output q_o_best q_o_present_order q_o_present_sorted q_o_present_weights q_o_present_numerator q_o_present_denominator q_o_present_product q_o_present_nodes_ws o_answer_top o_answer_bottom o_present_nodes_count o_present_nodes_mode o_present_nodes_degree o_present_nodes_xs o_present_nodes_ys) (wX6_divided g q_o q_o_answer q_o_present q_o_present_nodes q_o_present_nodes_xs q_o_present_nodes_ys q_o_text q_o_trial q_o_history q_o_output q_o_best q_o_present_order q_o_present_sorted q_o_present_weights q_o_present_numerator q_o_present_denominator q_o_present_product q_o_present_nodes_ws R.2.2.2 R.2.2.1 o_present_nodes_count o_present_nodes_mode o_present_nodes_degree o_present_nodes_xs o_present_nodes_ys) (some (.long R.2.1)) := by
  refine CnL (by decide +kernel) (Nat.le_of_ble_eq_true rfl) (fun p e s m args below meth c A Q ls X hD hP hS fin hl => ?_)
  obtain ⟨hx, hb, hml, -, -, hown, hts, hK, hA, hE⟩ := id X
  unfold mX6_divided at h
  have hl : lv_has ls 4 [(0, .ref q_o), (1, .int p1), (2, .int p2), (3, .int p3)] := hl
  refine lv_aload_n hx hb dX6_divided_0 rfl (lv_at hl 0 rfl) ?_
  refine lv_iload_n hx hb dX6_divided_1 rfl (lv_at hl 1 rfl) ?_
  obtain ⟨r1, c1, h⟩ := o_b h
  by_cases t2 : r1 = 0
  · have h := o_t t2 h
    refine mcallV X (As := [.int p1]) (rest := []) (ws1 := wX6_divided g q_o q_o_answer q_o_present q_o_present_nodes q_o_present_nodes_xs q_o_present_nodes_ys q_o_text q_o_trial q_o_history q_o_output q_o_best q_o_present_order q_o_present_sorted q_o_present_weights q_o_present_numerator q_o_present_denominator q_o_present_product q_o_present_nodes_ws o_answer_top o_answer_bottom o_present_nodes_count o_present_nodes_mode o_present_nodes_degree o_present_nodes_xs o_present_nodes_ys) (st1 := []) (nX6_needPoint D g x l q_o q_o_present q_o_present_nodes q_o_text q_o_trial q_o_history q_o_output q_o_answer q_o_best q_o_present_order q_o_present_sorted q_o_present_weights q_o_present_numerator q_o_present_denominator q_o_present_product q_o_present_nodes_xs q_o_present_nodes_ys q_o_present_nodes_ws o_present_nodes_count o_present_nodes_mode o_present_nodes_degree p1 r1 c1 t2) mw_X6_needPoint ml_X6_103 ⟨Nat.le_of_ble_eq_true rfl, Nat.le_of_ble_eq_true rfl⟩ hP hD hS [0, 2, 3] (by decide +kernel) rfl rfl 0 rfl rfl rfl hl.1 rfl (Nat.le_of_ble_eq_true rfl) dX6_divided_2 ⟨Nat.le_refl _, Nat.le_refl _⟩ rfl rfl (fun H locs hP hD hS => ?_)
    refine lv_aload_n hx hb dX6_divided_5 rfl (lv_at hl 0 rfl) ?_
    refine lv_iload_n hx hb dX6_divided_6 rfl (lv_at hl 2 rfl) ?_
    obtain ⟨r3, c3, h⟩ := o_b h
    by_cases t4 : r3 = 0
    · have h := o_t t4 h
      refine mcallV X (As := [.int p2]) (rest := []) (ws1 := wX6_divided g q_o q_o_answer q_o_present q_o_present_nodes q_o_present_nodes_xs q_o_present_nodes_ys q_o_text q_o_trial q_o_history q_o_output q_o_best q_o_present_order q_o_present_sorted q_o_present_weights q_o_present_numerator q_o_present_denominator q_o_present_product q_o_present_nodes_ws o_answer_top o_answer_bottom o_present_nodes_count o_present_nodes_mode o_present_nodes_degree o_present_nodes_xs o_present_nodes_ys) (st1 := []) (nX6_needPoint D g x l q_o q_o_present q_o_present_nodes q_o_text q_o_trial q_o_history q_o_output q_o_answer q_o_best q_o_present_order q_o_present_sorted q_o_present_weights q_o_present_numerator q_o_present_denominator q_o_present_product q_o_present_nodes_xs q_o_present_nodes_ys q_o_present_nodes_ws o_present_nodes_count o_present_nodes_mode o_present_nodes_degree p2 r3 c3 t4) mw_X6_needPoint ml_X6_103 ⟨Nat.le_of_ble_eq_true rfl, Nat.le_of_ble_eq_true rfl⟩ hP hD hS [0, 2, 3] (by decide +kernel) rfl rfl 0 rfl rfl rfl hl.1 rfl (Nat.le_of_ble_eq_true rfl) dX6_divided_7 ⟨Nat.le_refl _, Nat.le_refl _⟩ rfl rfl (fun H locs hP hD hS => ?_)
      refine lv_iload_n hx hb dX6_divided_10 rfl (lv_at hl 3 rfl) ?_
      obtain ⟨r5, c5, h⟩ := o_b h
      by_cases t6 : r5 = 0
      · have h := o_t t6 h
        refine mcallS X (As := [.int p3]) (rest := []) (ws1 := wX6_divided g q_o q_o_answer q_o_present q_o_present_nodes q_o_present_nodes_xs q_o_present_nodes_ys q_o_text q_o_trial q_o_history q_o_output q_o_best q_o_present_order q_o_present_sorted q_o_present_weights q_o_present_numerator q_o_present_denominator q_o_present_product q_o_present_nodes_ws o_answer_top o_answer_bottom o_present_nodes_count o_present_nodes_mode o_present_nodes_degree o_present_nodes_xs o_present_nodes_ys) (st1 := []) (nX6_needPart D g x l   p3 r5 c5 t6) mw_X6_needPart ml_X6_148 ⟨Nat.le_of_ble_eq_true rfl, Nat.le_of_ble_eq_true rfl⟩ hP hD hS [] (by decide +kernel) rfl rfl rfl hl.1 rfl (Nat.le_of_ble_eq_true rfl) dX6_divided_11 ⟨Nat.le_refl _, Nat.le_refl _⟩ rfl rfl (fun H locs hP hD hS => ?_)
        refine lv_iload_n hx hb dX6_divided_14 rfl (lv_at hl 1 rfl) ?_
        refine lv_iconst (v := 0) hx hb dX6_divided_15 (by decide) ?_
        refine lv_iload_n hx hb dX6_divided_16 rfl (lv_at hl 2 rfl) ?_
        obtain ⟨r7, c7, h⟩ := o_b h
        by_cases t8 : r7 = 0
        · have h := o_t t8 h
          refine mcallS X (As := [.int p1, .int 0, .int p2]) (rest := []) (ws1 := wX6_divided g q_o q_o_answer q_o_present q_o_present_nodes q_o_present_nodes_xs q_o_present_nodes_ys q_o_text q_o_trial q_o_history q_o_output q_o_best q_o_present_order q_o_present_sorted q_o_present_weights q_o_present_numerator q_o_present_denominator q_o_present_product q_o_present_nodes_ws o_answer_top o_answer_bottom o_present_nodes_count o_present_nodes_mode o_present_nodes_degree o_present_nodes_xs o_present_nodes_ys) (st1 := []) (nX6_needBetween D g x l   p1 0 p2 r7 c7 t8) mw_X6_needBetween ml_X6_62 ⟨Nat.le_of_ble_eq_true rfl, Nat.le_of_ble_eq_true rfl⟩ hP hD hS [] (by decide +kernel) rfl rfl rfl hl.1 rfl (Nat.le_of_ble_eq_true rfl) dX6_divided_17 ⟨Nat.le_refl _, Nat.le_refl _⟩ rfl rfl (fun H locs hP hD hS => ?_)
          refine lv_aload_n hx hb dX6_divided_20 rfl (lv_at hl 0 rfl) ?_
          refine mget X fl_X6_19 hP 0 rfl rfl dX6_divided_21 ?_
          refine mget X fl_X6_66 hP 2 rfl rfl dX6_divided_24 ?_
          refine lv_iload_n hx hb dX6_divided_27 rfl (lv_at hl 1 rfl) ?_
          refine lv_iload_n hx hb dX6_divided_28 rfl (lv_at hl 2 rfl) ?_
          refine lv_aload_n hx hb dX6_divided_29 rfl (lv_at hl 0 rfl) ?_
          refine mget X fl_X6_43 hP 0 rfl rfl dX6_divided_30 ?_
          obtain ⟨r9, c9, h⟩ := o_b h
          refine mcallV X (As := [.int p1, .int p2, .ref q_o_answer]) (rest := []) (ws1 := wX6_divided g q_o q_o_answer q_o_present q_o_present_nodes q_o_present_nodes_xs q_o_present_nodes_ys q_o_text q_o_trial q_o_history q_o_output q_o_best q_o_present_order q_o_present_sorted q_o_present_weights q_o_present_numerator q_o_present_denominator q_o_present_product q_o_present_nodes_ws r9.2 r9.1 o_present_nodes_count o_present_nodes_mode o_present_nodes_degree o_present_nodes_xs o_present_nodes_ys) (st1 := []) (kX3_putDivided D g x l q_o_present_nodes q_o_present_nodes_xs q_o_present_nodes_ys q_o_answer q_o_present_nodes_ws o_present_nodes_count o_present_nodes_mode o_present_nodes_degree o_present_nodes_xs o_present_nodes_ys o_answer_top o_answer_bottom p1 p2 r9 c9) mw_X3_putDivided ml_X6_192 ⟨Nat.le_of_ble_eq_true rfl, Nat.le_of_ble_eq_true rfl⟩ hP hD hS [3, 4, 5, 1] (by decide +kernel) rfl rfl 3 rfl rfl rfl hl.1 rfl (Nat.le_of_ble_eq_true rfl) dX6_divided_33 ⟨Nat.le_refl _, Nat.le_refl _⟩ rfl rfl (fun H locs hP hD hS => ?_)
          refine lv_aload_n hx hb dX6_divided_36 rfl (lv_at hl 0 rfl) ?_
          refine mget X fl_X6_43 hP 0 rfl rfl dX6_divided_37 ?_
          refine lv_iload_n hx hb dX6_divided_40 rfl (lv_at hl 3 rfl) ?_
          obtain ⟨r10, c10, h⟩ := o_b h
          refine mcallV X (As := [.int p3]) (rest := []) (ws1 := wX6_divided g q_o q_o_answer q_o_present q_o_present_nodes q_o_present_nodes_xs q_o_present_nodes_ys q_o_text q_o_trial q_o_history q_o_output q_o_best q_o_present_order q_o_present_sorted q_o_present_weights q_o_present_numerator q_o_present_denominator q_o_present_product q_o_present_nodes_ws r9.2 r9.1 o_present_nodes_count o_present_nodes_mode o_present_nodes_degree o_present_nodes_xs o_present_nodes_ys) (st1 := [.long r10]) (kX1_part D g x l q_o_answer r9.2 r9.1 p3 r10 c10) mw_X1_part ml_X6_155 ⟨Nat.le_of_ble_eq_true rfl, Nat.le_of_ble_eq_true rfl⟩ hP hD hS [1] (by decide +kernel) rfl rfl 1 rfl rfl rfl hl.1 rfl (Nat.le_of_ble_eq_true rfl) dX6_divided_41 ⟨Nat.le_refl _, Nat.le_refl _⟩ rfl rfl (fun H locs hP hD hS => ?_)
          cases h
          exact fin _ _ _ _ hP hS dX6_divided_44
        · have h := o_f t8 h
          cases h
          exact absurd h0 t8
      · have h := o_f t6 h
        cases h
        exact absurd h0 t6
    · have h := o_f t4 h
      cases h
      exact absurd h0 t4
  · have h := o_f t2 h
    cases h
    exact absurd h0 t2
abbrev wX6_plainValue (g : Nat → ClassId) (q_o q_o_answer q_o_present q_o_present_nodes q_o_present_nodes_ws q_o_present_nodes_xs q_o_present_nodes_ys q_o_trial q_o_trial_denominator q_o_trial_nodes q_o_trial_nodes_ws q_o_trial_nodes_xs q_o_trial_nodes_ys q_o_trial_numerator q_o_trial_order q_o_trial_product q_o_trial_sorted q_o_trial_weights q_o_text q_o_history q_o_output q_o_best q_o_present_order q_o_present_sorted q_o_present_weights q_o_present_numerator q_o_present_denominator q_o_present_product : Nat)  (o_answer_top : Int64) (o_answer_bottom : Int64) (o_present_nodes_count : Int32) (o_present_nodes_mode : Int32) (o_present_nodes_degree : Int32) (o_present_nodes_ws : Nat → Int32) (o_present_nodes_xs : Nat → Int32) (o_present_nodes_ys : Nat → Int32) (o_trial_denominator : Nat → Int64) (o_trial_nodes_count : Int32) (o_trial_nodes_mode : Int32) (o_trial_nodes_degree : Int32) (o_trial_nodes_ws : Nat → Int32) (o_trial_nodes_xs : Nat → Int32) (o_trial_nodes_ys : Nat → Int32) (o_trial_numerator : Nat → Int64) (o_trial_order : Nat → Int32) (o_trial_product : Nat → Int64) (o_trial_sorted : Nat → Int32) (o_trial_weights : Nat → Int64) : va_W := [(q_o, .inr (6, [.ref q_o_text, .ref q_o_present, .ref q_o_trial, .ref q_o_history, .ref q_o_output, .ref q_o_answer, .ref q_o_best])), (q_o_answer, .inr (1, [.long o_answer_top, .long o_answer_bottom])), (q_o_present, .inr (0, [.ref q_o_present_nodes, .ref q_o_present_order, .ref q_o_present_sorted, .ref q_o_present_weights, .ref q_o_present_numerator, .ref q_o_present_denominator, .ref q_o_present_product])), (q_o_present_nodes, .inr (3, [.ref q_o_present_nodes_xs, .ref q_o_present_nodes_ys, .ref q_o_present_nodes_ws, .int o_present_nodes_count, .int o_present_nodes_mode, .int o_present_nodes_degree])), (q_o_present_nodes_ws, .inl (g 0, 5, .inl o_present_nodes_ws)), (q_o_present_nodes_xs, .inl (g 0, 5, .inl o_present_nodes_xs)), (q_o_present_nodes_ys, .inl (g 0, 5, .inl o_present_nodes_ys)), (q_o_trial, .inr (0, [.ref q_o_trial_nodes, .ref q_o_trial_order, .ref q_o_trial_sorted, .ref q_o_trial_weights, .ref q_o_trial_numerator, .ref q_o_trial_denominator, .ref q_o_trial_product])), (q_o_trial_denominator, .inl (g 1, 5, .inr (.inl o_trial_denominator))), (q_o_trial_nodes, .inr (3, [.ref q_o_trial_nodes_xs, .ref q_o_trial_nodes_ys, .ref q_o_trial_nodes_ws, .int o_trial_nodes_count, .int o_trial_nodes_mode, .int o_trial_nodes_degree])), (q_o_trial_nodes_ws, .inl (g 0, 5, .inl o_trial_nodes_ws)), (q_o_trial_nodes_xs, .inl (g 0, 5, .inl o_trial_nodes_xs)), (q_o_trial_nodes_ys, .inl (g 0, 5, .inl o_trial_nodes_ys)), (q_o_trial_numerator, .inl (g 1, 5, .inr (.inl o_trial_numerator))), (q_o_trial_order, .inl (g 0, 5, .inl o_trial_order)), (q_o_trial_product, .inl (g 1, 5, .inr (.inl o_trial_product))), (q_o_trial_sorted, .inl (g 0, 5, .inl o_trial_sorted)), (q_o_trial_weights, .inl (g 1, 5, .inr (.inl o_trial_weights)))]
set_option maxHeartbeats 4000000 in
set_option maxRecDepth 100000 in
theorem nX6_plainValue (D : va_G) (g : Nat → ClassId) (x : Xd) (l : Launch) (q_o q_o_answer q_o_present q_o_present_nodes q_o_present_nodes_ws q_o_present_nodes_xs q_o_present_nodes_ys q_o_trial q_o_trial_denominator q_o_trial_nodes q_o_trial_nodes_ws q_o_trial_nodes_xs q_o_trial_nodes_ys q_o_trial_numerator q_o_trial_order q_o_trial_product q_o_trial_sorted q_o_trial_weights q_o_text q_o_history q_o_output q_o_best q_o_present_order q_o_present_sorted q_o_present_weights q_o_present_numerator q_o_present_denominator q_o_present_product : Nat)  (o_answer_top : Int64) (o_answer_bottom : Int64) (o_present_nodes_count : Int32) (o_present_nodes_mode : Int32) (o_present_nodes_degree : Int32) (o_present_nodes_ws : Nat → Int32) (o_present_nodes_xs : Nat → Int32) (o_present_nodes_ys : Nat → Int32) (o_trial_denominator : Nat → Int64) (o_trial_nodes_count : Int32) (o_trial_nodes_mode : Int32) (o_trial_nodes_degree : Int32) (o_trial_nodes_ws : Nat → Int32) (o_trial_nodes_xs : Nat → Int32) (o_trial_nodes_ys : Nat → Int32) (o_trial_numerator : Nat → Int64) (o_trial_order : Nat → Int32) (o_trial_product : Nat → Int64) (o_trial_sorted : Nat → Int32) (o_trial_weights : Nat → Int64) (p1 : Int32) (p2 : Int32) (R : Nat × Int64 × Int64 × Int64 × (Nat → Int64) × Int32 × Int32 × Int32 × (Nat → Int32) × (Nat → Int32) × (Nat → Int32) × (Nat → Int64) × (Nat → Int32) × (Nat → Int64) × (Nat → Int32) × (Nat → Int64)) (h : mX6_plainValue o_answer_bottom o_answer_top o_present_nodes_count o_present_nodes_degree o_present_nodes_mode o_present_nodes_ws o_present_nodes_xs o_present_nodes_ys o_trial_denominator o_trial_nodes_count o_trial_nodes_degree o_trial_nodes_mode o_trial_nodes_ws o_trial_nodes_xs o_trial_nodes_ys o_trial_numerator o_trial_order o_trial_product o_trial_sorted o_trial_weights p1 p2 = some R) (h0 : R.1 = 0) : Cn D g x l yX6_plainValue cX6_plainValue 3 (some .long) 5 133 [.ref q_o, .int p1, .int p2] (wX6_plainValue g q_o q_o_answer q_o_present q_o_present_nodes q_o_present_nodes_ws q_o_present_nodes_xs q_o_present_nodes_ys q_o_trial q_o_trial_denominator q_o_trial_nodes q_o_trial_nodes_ws q_o_trial_nodes_xs q_o_trial_nodes_ys q_o_trial_numerator q_o_trial_order q_o_trial_product q_o_trial_sorted q_o_trial_weights q_o_text q_o_history q_o_output q_o_best q_o_present_order q_o_present_sorted q_o_present_weights q_o_present_numerator q_o_present_denominator q_o_present_product o_answer_top o_answer_bottom o_present_nodes_count o_present_nodes_mode o_present_nodes_degree o_present_nodes_ws o_present_nodes_xs o_present_nodes_ys o_trial_denominator o_trial_nodes_count o_trial_nodes_mode o_trial_nodes_degree o_trial_nodes_ws o_trial_nodes_xs o_trial_nodes_ys o_trial_numerator o_trial_order o_trial_product o_trial_sorted o_trial_weights) (wX6_plainValue g q_o q_o_answer q_o_present q_o_present_nodes q_o_present_nodes_ws q_o_present_nodes_xs q_o_present_nodes_ys q_o_trial q_o_trial_denominator q_o_trial_nodes q_o_trial_nodes_ws q_o_trial_nodes_xs q_o_trial_nodes_ys q_o_trial_numerator q_o_trial_order q_o_trial_product q_o_trial_sorted q_o_trial_weights q_o_text q_o_history q_o_output q_o_best q_o_present_order q_o_present_sorted q_o_present_weights q_o_present_numerator q_o_present_denominator q_o_present_product R.2.2.2.1 R.2.2.1 o_present_nodes_count o_present_nodes_mode o_present_nodes_degree o_present_nodes_ws o_present_nodes_xs o_present_nodes_ys R.2.2.2.2.1 R.2.2.2.2.2.1 R.2.2.2.2.2.2.2.1 R.2.2.2.2.2.2.1 R.2.2.2.2.2.2.2.2.1 R.2.2.2.2.2.2.2.2.2.1 R.2.2.2.2.2.2.2.2.2.2.1 R.2.2.2.2.2.2.2.2.2.2.2.1 R.2.2.2.2.2.2.2.2.2.2.2.2.1 R.2.2.2.2.2.2.2.2.2.2.2.2.2.1 R.2.2.2.2.2.2.2.2.2.2.2.2.2.2.1 R.2.2.2.2.2.2.2.2.2.2.2.2.2.2.2) (some (.long R.2.1)) := by
  refine CnL (by decide +kernel) (Nat.le_of_ble_eq_true rfl) (fun p e s m args below meth c A Q ls X hD hP hS fin hl => ?_)
  obtain ⟨hx, hb, hml, -, -, hown, hts, hK, hA, hE⟩ := id X
  unfold mX6_plainValue at h
  have hl : lv_has ls 3 [(0, .ref q_o), (1, .int p1), (2, .int p2)] := hl
  refine lv_iload_n hx hb dX6_plainValue_0 rfl (lv_at hl 1 rfl) ?_
  refine lv_bipush (v := 12) hx hb dX6_plainValue_1 (by decide) ?_
  obtain ⟨r1, c1, h⟩ := o_b h
  by_cases t2 : r1 = 0
  · have h := o_t t2 h
    refine mcallS X (As := [.int p1, .int 12]) (rest := []) (ws1 := wX6_plainValue g q_o q_o_answer q_o_present q_o_present_nodes q_o_present_nodes_ws q_o_present_nodes_xs q_o_present_nodes_ys q_o_trial q_o_trial_denominator q_o_trial_nodes q_o_trial_nodes_ws q_o_trial_nodes_xs q_o_trial_nodes_ys q_o_trial_numerator q_o_trial_order q_o_trial_product q_o_trial_sorted q_o_trial_weights q_o_text q_o_history q_o_output q_o_best q_o_present_order q_o_present_sorted q_o_present_weights q_o_present_numerator q_o_present_denominator q_o_present_product o_answer_top o_answer_bottom o_present_nodes_count o_present_nodes_mode o_present_nodes_degree o_present_nodes_ws o_present_nodes_xs o_present_nodes_ys o_trial_denominator o_trial_nodes_count o_trial_nodes_mode o_trial_nodes_degree o_trial_nodes_ws o_trial_nodes_xs o_trial_nodes_ys o_trial_numerator o_trial_order o_trial_product o_trial_sorted o_trial_weights) (st1 := []) (nX6_needWithin D g x l   p1 12 r1 c1 t2) mw_X6_needWithin ml_X6_119 ⟨Nat.le_of_ble_eq_true rfl, Nat.le_of_ble_eq_true rfl⟩ hP hD hS [] (by decide +kernel) rfl rfl rfl hl.1 rfl (Nat.le_of_ble_eq_true rfl) dX6_plainValue_3 ⟨Nat.le_refl _, Nat.le_refl _⟩ rfl rfl (fun H locs hP hD hS => ?_)
    refine lv_iload_n hx hb dX6_plainValue_6 rfl (lv_at hl 2 rfl) ?_
    obtain ⟨r3, c3, h⟩ := o_b h
    by_cases t4 : r3 = 0
    · have h := o_t t4 h
      refine mcallS X (As := [.int p2]) (rest := []) (ws1 := wX6_plainValue g q_o q_o_answer q_o_present q_o_present_nodes q_o_present_nodes_ws q_o_present_nodes_xs q_o_present_nodes_ys q_o_trial q_o_trial_denominator q_o_trial_nodes q_o_trial_nodes_ws q_o_trial_nodes_xs q_o_trial_nodes_ys q_o_trial_numerator q_o_trial_order q_o_trial_product q_o_trial_sorted q_o_trial_weights q_o_text q_o_history q_o_output q_o_best q_o_present_order q_o_present_sorted q_o_present_weights q_o_present_numerator q_o_present_denominator q_o_present_product o_answer_top o_answer_bottom o_present_nodes_count o_present_nodes_mode o_present_nodes_degree o_present_nodes_ws o_present_nodes_xs o_present_nodes_ys o_trial_denominator o_trial_nodes_count o_trial_nodes_mode o_trial_nodes_degree o_trial_nodes_ws o_trial_nodes_xs o_trial_nodes_ys o_trial_numerator o_trial_order o_trial_product o_trial_sorted o_trial_weights) (st1 := []) (nX6_needPart D g x l   p2 r3 c3 t4) mw_X6_needPart ml_X6_148 ⟨Nat.le_of_ble_eq_true rfl, Nat.le_of_ble_eq_true rfl⟩ hP hD hS [] (by decide +kernel) rfl rfl rfl hl.1 rfl (Nat.le_of_ble_eq_true rfl) dX6_plainValue_7 ⟨Nat.le_refl _, Nat.le_refl _⟩ rfl rfl (fun H locs hP hD hS => ?_)
      refine lv_aload_n hx hb dX6_plainValue_10 rfl (lv_at hl 0 rfl) ?_
      refine mget X fl_X6_23 hP 0 rfl rfl dX6_plainValue_11 ?_
      refine mget X fl_X6_66 hP 7 rfl rfl dX6_plainValue_14 ?_
      refine lv_aload_n hx hb dX6_plainValue_17 rfl (lv_at hl 0 rfl) ?_
      refine mget X fl_X6_19 hP 0 rfl rfl dX6_plainValue_18 ?_
      refine mget X fl_X6_66 hP 2 rfl rfl dX6_plainValue_21 ?_
      obtain ⟨r5, c5, h⟩ := o_b h
      refine mcallV X (As := [.ref q_o_present_nodes]) (rest := []) (ws1 := wX6_plainValue g q_o q_o_answer q_o_present q_o_present_nodes q_o_present_nodes_ws q_o_present_nodes_xs q_o_present_nodes_ys q_o_trial q_o_trial_denominator q_o_trial_nodes q_o_trial_nodes_ws q_o_trial_nodes_xs q_o_trial_nodes_ys q_o_trial_numerator q_o_trial_order q_o_trial_product q_o_trial_sorted q_o_trial_weights q_o_text q_o_history q_o_output q_o_best q_o_present_order q_o_present_sorted q_o_present_weights q_o_present_numerator q_o_present_denominator q_o_present_product o_answer_top o_answer_bottom o_present_nodes_count o_present_nodes_mode o_present_nodes_degree o_present_nodes_ws o_present_nodes_xs o_present_nodes_ys o_trial_denominator r5.1 r5.2.2.1 r5.2.1 r5.2.2.2.1 r5.2.2.2.2.1 r5.2.2.2.2.2 o_trial_numerator o_trial_order o_trial_product o_trial_sorted o_trial_weights) (st1 := []) (kX3_copyFrom D g x l q_o_trial_nodes q_o_trial_nodes_ws q_o_trial_nodes_xs q_o_trial_nodes_ys q_o_present_nodes q_o_present_nodes_ws q_o_present_nodes_xs q_o_present_nodes_ys o_trial_nodes_count o_trial_nodes_mode o_trial_nodes_degree o_trial_nodes_ws o_trial_nodes_xs o_trial_nodes_ys o_present_nodes_count o_present_nodes_mode o_present_nodes_degree o_present_nodes_ws o_present_nodes_xs o_present_nodes_ys  r5 c5) mw_X3_copyFrom ml_X6_77 ⟨Nat.le_of_ble_eq_true rfl, Nat.le_of_ble_eq_true rfl⟩ hP hD hS [9, 10, 11, 12, 3, 4, 5, 6] (by decide +kernel) rfl rfl 9 rfl rfl rfl hl.1 rfl (Nat.le_of_ble_eq_true rfl) dX6_plainValue_24 ⟨Nat.le_refl _, Nat.le_refl _⟩ rfl rfl (fun H locs hP hD hS => ?_)
      refine lv_aload_n hx hb dX6_plainValue_27 rfl (lv_at hl 0 rfl) ?_
      refine mget X fl_X6_23 hP 0 rfl rfl dX6_plainValue_28 ?_
      refine mget X fl_X6_66 hP 7 rfl rfl dX6_plainValue_31 ?_
      refine lv_iconst (v := 0) hx hb dX6_plainValue_34 (by decide) ?_
      refine mputI X fl_X6_96 (ws1 := wX6_plainValue g q_o q_o_answer q_o_present q_o_present_nodes q_o_present_nodes_ws q_o_present_nodes_xs q_o_present_nodes_ys q_o_trial q_o_trial_denominator q_o_trial_nodes q_o_trial_nodes_ws q_o_trial_nodes_xs q_o_trial_nodes_ys q_o_trial_numerator q_o_trial_order q_o_trial_product q_o_trial_sorted q_o_trial_weights q_o_text q_o_history q_o_output q_o_best q_o_present_order q_o_present_sorted q_o_present_weights q_o_present_numerator q_o_present_denominator q_o_present_product o_answer_top o_answer_bottom o_present_nodes_count o_present_nodes_mode o_present_nodes_degree o_present_nodes_ws o_present_nodes_xs o_present_nodes_ys o_trial_denominator r5.1 0 r5.2.1 r5.2.2.2.1 r5.2.2.2.2.1 r5.2.2.2.2.2 o_trial_numerator o_trial_order o_trial_product o_trial_sorted o_trial_weights) hP hD hS 9 rfl rfl ⟨_, rfl, rfl⟩ dX6_plainValue_35 rfl (fun H locs hP hD hS => ?_)
      refine lv_aload_n hx hb dX6_plainValue_38 rfl (lv_at hl 0 rfl) ?_
      refine mget X fl_X6_23 hP 0 rfl rfl dX6_plainValue_39 ?_
      obtain ⟨r6, c6, h⟩ := o_b h
      refine mcallV X (As := []) (rest := []) (ws1 := wX6_plainValue g q_o q_o_answer q_o_present q_o_present_nodes q_o_present_nodes_ws q_o_present_nodes_xs q_o_present_nodes_ys q_o_trial q_o_trial_denominator q_o_trial_nodes q_o_trial_nodes_ws q_o_trial_nodes_xs q_o_trial_nodes_ys q_o_trial_numerator q_o_trial_order q_o_trial_product q_o_trial_sorted q_o_trial_weights q_o_text q_o_history q_o_output q_o_best q_o_present_order q_o_present_sorted q_o_present_weights q_o_present_numerator q_o_present_denominator q_o_present_product o_answer_top o_answer_bottom o_present_nodes_count o_present_nodes_mode o_present_nodes_degree o_present_nodes_ws o_present_nodes_xs o_present_nodes_ys r6.1 r5.1 0 r5.2.1 r5.2.2.2.1 r5.2.2.2.2.1 r5.2.2.2.2.2 r6.2.1 r6.2.2.1 r6.2.2.2.1 r6.2.2.2.2.1 r6.2.2.2.2.2) (st1 := []) (kX0_reckon D g x l q_o_trial q_o_trial_denominator q_o_trial_nodes q_o_trial_nodes_ws q_o_trial_nodes_xs q_o_trial_nodes_ys q_o_trial_numerator q_o_trial_order q_o_trial_product q_o_trial_sorted q_o_trial_weights o_trial_denominator r5.1 0 r5.2.1 r5.2.2.2.1 r5.2.2.2.2.1 r5.2.2.2.2.2 o_trial_numerator o_trial_order o_trial_product o_trial_sorted o_trial_weights  r6 c6) mw_X0_reckon ml_X6_83 ⟨Nat.le_of_ble_eq_true rfl, Nat.le_of_ble_eq_true rfl⟩ hP hD hS [7, 8, 9, 10, 11, 12, 13, 14, 15, 16, 17] (by decide +kernel) rfl rfl 7 rfl rfl rfl hl.1 rfl (Nat.le_of_ble_eq_true rfl) dX6_plainValue_42 ⟨Nat.le_refl _, Nat.le_refl _⟩ rfl rfl (fun H locs hP hD hS => ?_)
      refine lv_aload_n hx hb dX6_plainValue_45 rfl (lv_at hl 0 rfl) ?_
      refine lv_aload_n hx hb dX6_plainValue_46 rfl (lv_at hl 0 rfl) ?_
      refine mget X fl_X6_23 hP 0 rfl rfl dX6_plainValue_47 ?_
      refine lv_iload_n hx hb dX6_plainValue_50 rfl (lv_at hl 1 rfl) ?_
      obtain ⟨r7, c7, h⟩ := o_b h
      by_cases t8 : r7.1 = 0
      · have h := o_t t8 h
        refine mcallV X (As := [.ref q_o_trial, .int p1]) (rest := []) (ws1 := wX6_plainValue g q_o q_o_answer q_o_present q_o_present_nodes q_o_present_nodes_ws q_o_present_nodes_xs q_o_present_nodes_ys q_o_trial q_o_trial_denominator q_o_trial_nodes q_o_trial_nodes_ws q_o_trial_nodes_xs q_o_trial_nodes_ys q_o_trial_numerator q_o_trial_order q_o_trial_product q_o_trial_sorted q_o_trial_weights q_o_text q_o_history q_o_output q_o_best q_o_present_order q_o_present_sorted q_o_present_weights q_o_present_numerator q_o_present_denominator q_o_present_product r7.2.2 r7.2.1 o_present_nodes_count o_present_nodes_mode o_present_nodes_degree o_present_nodes_ws o_present_nodes_xs o_present_nodes_ys r6.1 r5.1 0 r5.2.1 r5.2.2.2.1 r5.2.2.2.2.1 r5.2.2.2.2.2 r6.2.1 r6.2.2.1 r6.2.2.2.1 r6.2.2.2.2.1 r6.2.2.2.2.2) (st1 := []) (nX6_needValue D g x l q_o q_o_answer q_o_trial q_o_trial_denominator q_o_trial_numerator q_o_text q_o_present q_o_trial q_o_history q_o_output q_o_best q_o_trial_nodes q_o_trial_order q_o_trial_sorted q_o_trial_weights q_o_trial_product o_answer_top o_answer_bottom r6.1 r6.2.1 p1 r7 c7 t8) mw_X6_needValue ml_X6_151 ⟨Nat.le_of_ble_eq_true rfl, Nat.le_of_ble_eq_true rfl⟩ hP hD hS [0, 1, 7, 8, 13] (by decide +kernel) rfl rfl 0 rfl rfl rfl hl.1 rfl (Nat.le_of_ble_eq_true rfl) dX6_plainValue_51 ⟨Nat.le_refl _, Nat.le_refl _⟩ rfl rfl (fun H locs hP hD hS => ?_)
        refine lv_aload_n hx hb dX6_plainValue_54 rfl (lv_at hl 0 rfl) ?_
        refine mget X fl_X6_43 hP 0 rfl rfl dX6_plainValue_55 ?_
        refine lv_iload_n hx hb dX6_plainValue_58 rfl (lv_at hl 2 rfl) ?_
        obtain ⟨r9, c9, h⟩ := o_b h
        refine mcallV X (As := [.int p2]) (rest := []) (ws1 := wX6_plainValue g q_o q_o_answer q_o_present q_o_present_nodes q_o_present_nodes_ws q_o_present_nodes_xs q_o_present_nodes_ys q_o_trial q_o_trial_denominator q_o_trial_nodes q_o_trial_nodes_ws q_o_trial_nodes_xs q_o_trial_nodes_ys q_o_trial_numerator q_o_trial_order q_o_trial_product q_o_trial_sorted q_o_trial_weights q_o_text q_o_history q_o_output q_o_best q_o_present_order q_o_present_sorted q_o_present_weights q_o_present_numerator q_o_present_denominator q_o_present_product r7.2.2 r7.2.1 o_present_nodes_count o_present_nodes_mode o_present_nodes_degree o_present_nodes_ws o_present_nodes_xs o_present_nodes_ys r6.1 r5.1 0 r5.2.1 r5.2.2.2.1 r5.2.2.2.2.1 r5.2.2.2.2.2 r6.2.1 r6.2.2.1 r6.2.2.2.1 r6.2.2.2.2.1 r6.2.2.2.2.2) (st1 := [.long r9]) (kX1_part D g x l q_o_answer r7.2.2 r7.2.1 p2 r9 c9) mw_X1_part ml_X6_155 ⟨Nat.le_of_ble_eq_true rfl, Nat.le_of_ble_eq_true rfl⟩ hP hD hS [1] (by decide +kernel) rfl rfl 1 rfl rfl rfl hl.1 rfl (Nat.le_of_ble_eq_true rfl) dX6_plainValue_59 ⟨Nat.le_refl _, Nat.le_refl _⟩ rfl rfl (fun H locs hP hD hS => ?_)
        cases h
        exact fin _ _ _ _ hP hS dX6_plainValue_62
      · have h := o_f t8 h
        cases h
        exact absurd h0 t8
    · have h := o_f t4 h
      cases h
      exact absurd h0 t4
  · have h := o_f t2 h
    cases h
    exact absurd h0 t2
abbrev wX6_setMode (g : Nat → ClassId) (q_o q_o_history q_o_history_kept q_o_present q_o_present_denominator q_o_present_nodes q_o_present_nodes_ws q_o_present_nodes_xs q_o_present_nodes_ys q_o_present_numerator q_o_present_order q_o_present_product q_o_present_sorted q_o_present_weights q_o_text q_o_trial q_o_output q_o_answer q_o_best : Nat) (q_o_history_kept_E q_o_history_kept_E_ws q_o_history_kept_E_xs q_o_history_kept_E_ys : Nat → Nat) (o_history_count : Int32) (o_history_kept_E_count : Nat → Int32) (o_history_kept_E_mode : Nat → Int32) (o_history_kept_E_degree : Nat → Int32) (o_history_kept_E_ws : Nat → Nat → Int32) (o_history_kept_E_xs : Nat → Nat → Int32) (o_history_kept_E_ys : Nat → Nat → Int32) (o_present_denominator : Nat → Int64) (o_present_nodes_count : Int32) (o_present_nodes_mode : Int32) (o_present_nodes_degree : Int32) (o_present_nodes_ws : Nat → Int32) (o_present_nodes_xs : Nat → Int32) (o_present_nodes_ys : Nat → Int32) (o_present_numerator : Nat → Int64) (o_present_order : Nat → Int32) (o_present_product : Nat → Int64) (o_present_sorted : Nat → Int32) (o_present_weights : Nat → Int64) : va_W := [(q_o, .inr (6, [.ref q_o_text, .ref q_o_present, .ref q_o_trial, .ref q_o_history, .ref q_o_output, .ref q_o_answer, .ref q_o_best])), (q_o_history, .inr (2, [.ref q_o_history_kept, .int o_history_count])), (q_o_history_kept, .inl (g 4, 10, .inr (.inr (.inr (.inr (fun k => some (q_o_history_kept_E k))))))), ((q_o_history_kept_E 0), .inr (3, [.ref (q_o_history_kept_E_xs 0), .ref (q_o_history_kept_E_ys 0), .ref (q_o_history_kept_E_ws 0), .int (o_history_kept_E_count 0), .int (o_history_kept_E_mode 0), .int (o_history_kept_E_degree 0)])), ((q_o_history_kept_E_ws 0), .inl (g 0, 5, .inl (o_history_kept_E_ws 0))), ((q_o_history_kept_E_xs 0), .inl (g 0, 5, .inl (o_history_kept_E_xs 0))), ((q_o_history_kept_E_ys 0), .inl (g 0, 5, .inl (o_history_kept_E_ys 0))), ((q_o_history_kept_E 1), .inr (3, [.ref (q_o_history_kept_E_xs 1), .ref (q_o_history_kept_E_ys 1), .ref (q_o_history_kept_E_ws 1), .int (o_history_kept_E_count 1), .int (o_history_kept_E_mode 1), .int (o_history_kept_E_degree 1)])), ((q_o_history_kept_E_ws 1), .inl (g 0, 5, .inl (o_history_kept_E_ws 1))), ((q_o_history_kept_E_xs 1), .inl (g 0, 5, .inl (o_history_kept_E_xs 1))), ((q_o_history_kept_E_ys 1), .inl (g 0, 5, .inl (o_history_kept_E_ys 1))), ((q_o_history_kept_E 2), .inr (3, [.ref (q_o_history_kept_E_xs 2), .ref (q_o_history_kept_E_ys 2), .ref (q_o_history_kept_E_ws 2), .int (o_history_kept_E_count 2), .int (o_history_kept_E_mode 2), .int (o_history_kept_E_degree 2)])), ((q_o_history_kept_E_ws 2), .inl (g 0, 5, .inl (o_history_kept_E_ws 2))), ((q_o_history_kept_E_xs 2), .inl (g 0, 5, .inl (o_history_kept_E_xs 2))), ((q_o_history_kept_E_ys 2), .inl (g 0, 5, .inl (o_history_kept_E_ys 2))), ((q_o_history_kept_E 3), .inr (3, [.ref (q_o_history_kept_E_xs 3), .ref (q_o_history_kept_E_ys 3), .ref (q_o_history_kept_E_ws 3), .int (o_history_kept_E_count 3), .int (o_history_kept_E_mode 3), .int (o_history_kept_E_degree 3)])), ((q_o_history_kept_E_ws 3), .inl (g 0, 5, .inl (o_history_kept_E_ws 3))), ((q_o_history_kept_E_xs 3), .inl (g 0, 5, .inl (o_history_kept_E_xs 3))), ((q_o_history_kept_E_ys 3), .inl (g 0, 5, .inl (o_history_kept_E_ys 3))), ((q_o_history_kept_E 4), .inr (3, [.ref (q_o_history_kept_E_xs 4), .ref (q_o_history_kept_E_ys 4), .ref (q_o_history_kept_E_ws 4), .int (o_history_kept_E_count 4), .int (o_history_kept_E_mode 4), .int (o_history_kept_E_degree 4)])), ((q_o_history_kept_E_ws 4), .inl (g 0, 5, .inl (o_history_kept_E_ws 4))), ((q_o_history_kept_E_xs 4), .inl (g 0, 5, .inl (o_history_kept_E_xs 4))), ((q_o_history_kept_E_ys 4), .inl (g 0, 5, .inl (o_history_kept_E_ys 4))), ((q_o_history_kept_E 5), .inr (3, [.ref (q_o_history_kept_E_xs 5), .ref (q_o_history_kept_E_ys 5), .ref (q_o_history_kept_E_ws 5), .int (o_history_kept_E_count 5), .int (o_history_kept_E_mode 5), .int (o_history_kept_E_degree 5)])), ((q_o_history_kept_E_ws 5), .inl (g 0, 5, .inl (o_history_kept_E_ws 5))), ((q_o_history_kept_E_xs 5), .inl (g 0, 5, .inl (o_history_kept_E_xs 5))), ((q_o_history_kept_E_ys 5), .inl (g 0, 5, .inl (o_history_kept_E_ys 5))), ((q_o_history_kept_E 6), .inr (3, [.ref (q_o_history_kept_E_xs 6), .ref (q_o_history_kept_E_ys 6), .ref (q_o_history_kept_E_ws 6), .int (o_history_kept_E_count 6), .int (o_history_kept_E_mode 6), .int (o_history_kept_E_degree 6)])), ((q_o_history_kept_E_ws 6), .inl (g 0, 5, .inl (o_history_kept_E_ws 6))), ((q_o_history_kept_E_xs 6), .inl (g 0, 5, .inl (o_history_kept_E_xs 6))), ((q_o_history_kept_E_ys 6), .inl (g 0, 5, .inl (o_history_kept_E_ys 6))), ((q_o_history_kept_E 7), .inr (3, [.ref (q_o_history_kept_E_xs 7), .ref (q_o_history_kept_E_ys 7), .ref (q_o_history_kept_E_ws 7), .int (o_history_kept_E_count 7), .int (o_history_kept_E_mode 7), .int (o_history_kept_E_degree 7)])), ((q_o_history_kept_E_ws 7), .inl (g 0, 5, .inl (o_history_kept_E_ws 7))), ((q_o_history_kept_E_xs 7), .inl (g 0, 5, .inl (o_history_kept_E_xs 7))), ((q_o_history_kept_E_ys 7), .inl (g 0, 5, .inl (o_history_kept_E_ys 7))), ((q_o_history_kept_E 8), .inr (3, [.ref (q_o_history_kept_E_xs 8), .ref (q_o_history_kept_E_ys 8), .ref (q_o_history_kept_E_ws 8), .int (o_history_kept_E_count 8), .int (o_history_kept_E_mode 8), .int (o_history_kept_E_degree 8)])), ((q_o_history_kept_E_ws 8), .inl (g 0, 5, .inl (o_history_kept_E_ws 8))), ((q_o_history_kept_E_xs 8), .inl (g 0, 5, .inl (o_history_kept_E_xs 8))), ((q_o_history_kept_E_ys 8), .inl (g 0, 5, .inl (o_history_kept_E_ys 8))), ((q_o_history_kept_E 9), .inr (3, [.ref (q_o_history_kept_E_xs 9), .ref (q_o_history_kept_E_ys 9), .ref (q_o_history_kept_E_ws 9), .int (o_history_kept_E_count 9), .int (o_history_kept_E_mode 9), .int (o_history_kept_E_degree 9)])), ((q_o_history_kept_E_ws 9), .inl (g 0, 5, .inl (o_history_kept_E_ws 9))), ((q_o_history_kept_E_xs 9), .inl (g 0, 5, .inl (o_history_kept_E_xs 9))), ((q_o_history_kept_E_ys 9), .inl (g 0, 5, .inl (o_history_kept_E_ys 9))), (q_o_present, .inr (0, [.ref q_o_present_nodes, .ref q_o_present_order, .ref q_o_present_sorted, .ref q_o_present_weights, .ref q_o_present_numerator, .ref q_o_present_denominator, .ref q_o_present_product])), (q_o_present_denominator, .inl (g 1, 5, .inr (.inl o_present_denominator))), (q_o_present_nodes, .inr (3, [.ref q_o_present_nodes_xs, .ref q_o_present_nodes_ys, .ref q_o_present_nodes_ws, .int o_present_nodes_count, .int o_present_nodes_mode, .int o_present_nodes_degree])), (q_o_present_nodes_ws, .inl (g 0, 5, .inl o_present_nodes_ws)), (q_o_present_nodes_xs, .inl (g 0, 5, .inl o_present_nodes_xs)), (q_o_present_nodes_ys, .inl (g 0, 5, .inl o_present_nodes_ys)), (q_o_present_numerator, .inl (g 1, 5, .inr (.inl o_present_numerator))), (q_o_present_order, .inl (g 0, 5, .inl o_present_order)), (q_o_present_product, .inl (g 1, 5, .inr (.inl o_present_product))), (q_o_present_sorted, .inl (g 0, 5, .inl o_present_sorted)), (q_o_present_weights, .inl (g 1, 5, .inr (.inl o_present_weights)))]
set_option maxHeartbeats 4000000 in
set_option maxRecDepth 100000 in
theorem nX6_setMode (D : va_G) (g : Nat → ClassId) (x : Xd) (l : Launch) (q_o q_o_history q_o_history_kept q_o_present q_o_present_denominator q_o_present_nodes q_o_present_nodes_ws q_o_present_nodes_xs q_o_present_nodes_ys q_o_present_numerator q_o_present_order q_o_present_product q_o_present_sorted q_o_present_weights q_o_text q_o_trial q_o_output q_o_answer q_o_best : Nat) (q_o_history_kept_E q_o_history_kept_E_ws q_o_history_kept_E_xs q_o_history_kept_E_ys : Nat → Nat) (o_history_count : Int32) (o_history_kept_E_count : Nat → Int32) (o_history_kept_E_mode : Nat → Int32) (o_history_kept_E_degree : Nat → Int32) (o_history_kept_E_ws : Nat → Nat → Int32) (o_history_kept_E_xs : Nat → Nat → Int32) (o_history_kept_E_ys : Nat → Nat → Int32) (o_present_denominator : Nat → Int64) (o_present_nodes_count : Int32) (o_present_nodes_mode : Int32) (o_present_nodes_degree : Int32) (o_present_nodes_ws : Nat → Int32) (o_present_nodes_xs : Nat → Int32) (o_present_nodes_ys : Nat → Int32) (o_present_numerator : Nat → Int64) (o_present_order : Nat → Int32) (o_present_product : Nat → Int64) (o_present_sorted : Nat → Int32) (o_present_weights : Nat → Int64) (p1 : Int32) (p2 : Int32) (R : Nat × Int32 × Int32 × (Nat → Int32) × (Nat → Int32) × (Nat → Int32) × (Nat → Nat → Int32) × (Nat → Nat → Int32) × (Nat → Nat → Int32) × (Nat → Int64) × Int32 × Int32 × (Nat → Int64) × (Nat → Int32) × (Nat → Int64) × (Nat → Int32) × (Nat → Int64)) (h : mX6_setMode o_history_count o_history_kept_E_count o_history_kept_E_degree o_history_kept_E_mode o_history_kept_E_ws o_history_kept_E_xs o_history_kept_E_ys o_present_denominator o_present_nodes_count o_present_nodes_degree o_present_nodes_mode o_present_nodes_ws o_present_nodes_xs o_present_nodes_ys o_present_numerator o_present_order o_present_product o_present_sorted o_present_weights p1 p2 = some R) (h0 : R.1 = 0) : Cn D g x l yX6_setMode cX6_setMode 4 (some .int) 5 122 [.ref q_o, .int p1, .int p2] (wX6_setMode g q_o q_o_history q_o_history_kept q_o_present q_o_present_denominator q_o_present_nodes q_o_present_nodes_ws q_o_present_nodes_xs q_o_present_nodes_ys q_o_present_numerator q_o_present_order q_o_present_product q_o_present_sorted q_o_present_weights q_o_text q_o_trial q_o_output q_o_answer q_o_best q_o_history_kept_E q_o_history_kept_E_ws q_o_history_kept_E_xs q_o_history_kept_E_ys o_history_count o_history_kept_E_count o_history_kept_E_mode o_history_kept_E_degree o_history_kept_E_ws o_history_kept_E_xs o_history_kept_E_ys o_present_denominator o_present_nodes_count o_present_nodes_mode o_present_nodes_degree o_present_nodes_ws o_present_nodes_xs o_present_nodes_ys o_present_numerator o_present_order o_present_product o_present_sorted o_present_weights) (wX6_setMode g q_o q_o_history q_o_history_kept q_o_present q_o_present_denominator q_o_present_nodes q_o_present_nodes_ws q_o_present_nodes_xs q_o_present_nodes_ys q_o_present_numerator q_o_present_order q_o_present_product q_o_present_sorted q_o_present_weights q_o_text q_o_trial q_o_output q_o_answer q_o_best q_o_history_kept_E q_o_history_kept_E_ws q_o_history_kept_E_xs q_o_history_kept_E_ys R.2.2.1 R.2.2.2.1 R.2.2.2.2.2.1 R.2.2.2.2.1 R.2.2.2.2.2.2.1 R.2.2.2.2.2.2.2.1 R.2.2.2.2.2.2.2.2.1 R.2.2.2.2.2.2.2.2.2.1 o_present_nodes_count R.2.2.2.2.2.2.2.2.2.2.2.1 R.2.2.2.2.2.2.2.2.2.2.1 o_present_nodes_ws o_present_nodes_xs o_present_nodes_ys R.2.2.2.2.2.2.2.2.2.2.2.2.1 R.2.2.2.2.2.2.2.2.2.2.2.2.2.1 R.2.2.2.2.2.2.2.2.2.2.2.2.2.2.1 R.2.2.2.2.2.2.2.2.2.2.2.2.2.2.2.1 R.2.2.2.2.2.2.2.2.2.2.2.2.2.2.2.2) (some (.int R.2.1)) := by
  refine CnI (by decide +kernel) (Nat.le_of_ble_eq_true rfl) (fun p e s m args below meth c A Q ls X hD hP hS fin hl => ?_)
  obtain ⟨hx, hb, hml, -, -, hown, hts, hK, hA, hE⟩ := id X
  unfold mX6_setMode at h
  have hl : lv_has ls 4 [(0, .ref q_o), (1, .int p1), (2, .int p2)] := hl
  refine lv_iload_n hx hb dX6_setMode_0 rfl (lv_at hl 1 rfl) ?_
  refine lv_iconst (v := 0) hx hb dX6_setMode_1 (by decide) ?_
  refine lv_iconst (v := 2) hx hb dX6_setMode_2 (by decide) ?_
  obtain ⟨r1, c1, h⟩ := o_b h
  by_cases t2 : r1 = 0
  · have h := o_t t2 h
    refine mcallS X (As := [.int p1, .int 0, .int 2]) (rest := []) (ws1 := wX6_setMode g q_o q_o_history q_o_history_kept q_o_present q_o_present_denominator q_o_present_nodes q_o_present_nodes_ws q_o_present_nodes_xs q_o_present_nodes_ys q_o_present_numerator q_o_present_order q_o_present_product q_o_present_sorted q_o_present_weights q_o_text q_o_trial q_o_output q_o_answer q_o_best q_o_history_kept_E q_o_history_kept_E_ws q_o_history_kept_E_xs q_o_history_kept_E_ys o_history_count o_history_kept_E_count o_history_kept_E_mode o_history_kept_E_degree o_history_kept_E_ws o_history_kept_E_xs o_history_kept_E_ys o_present_denominator o_present_nodes_count o_present_nodes_mode o_present_nodes_degree o_present_nodes_ws o_present_nodes_xs o_present_nodes_ys o_present_numerator o_present_order o_present_product o_present_sorted o_present_weights) (st1 := []) (nX6_needBetween D g x l   p1 0 2 r1 c1 t2) mw_X6_needBetween ml_X6_62 ⟨Nat.le_of_ble_eq_true rfl, Nat.le_of_ble_eq_true rfl⟩ hP hD hS [] (by decide +kernel) rfl rfl rfl hl.1 rfl (Nat.le_of_ble_eq_true rfl) dX6_setMode_3 ⟨Nat.le_refl _, Nat.le_refl _⟩ rfl rfl (fun H locs hP hD hS => ?_)
    refine lv_iload_n hx hb dX6_setMode_6 rfl (lv_at hl 2 rfl) ?_
    refine lv_iconst (v := 0) hx hb dX6_setMode_7 (by decide) ?_
    refine lv_iconst (v := 4) hx hb dX6_setMode_8 (by decide) ?_
    obtain ⟨r3, c3, h⟩ := o_b h
    by_cases t4 : r3 = 0
    · have h := o_t t4 h
      refine mcallS X (As := [.int p2, .int 0, .int 4]) (rest := []) (ws1 := wX6_setMode g q_o q_o_history q_o_history_kept q_o_present q_o_present_denominator q_o_present_nodes q_o_present_nodes_ws q_o_present_nodes_xs q_o_present_nodes_ys q_o_present_numerator q_o_present_order q_o_present_product q_o_present_sorted q_o_present_weights q_o_text q_o_trial q_o_output q_o_answer q_o_best q_o_history_kept_E q_o_history_kept_E_ws q_o_history_kept_E_xs q_o_history_kept_E_ys o_history_count o_history_kept_E_count o_history_kept_E_mode o_history_kept_E_degree o_history_kept_E_ws o_history_kept_E_xs o_history_kept_E_ys o_present_denominator o_present_nodes_count o_present_nodes_mode o_present_nodes_degree o_present_nodes_ws o_present_nodes_xs o_present_nodes_ys o_present_numerator o_present_order o_present_product o_present_sorted o_present_weights) (st1 := []) (nX6_needBetween D g x l   p2 0 4 r3 c3 t4) mw_X6_needBetween ml_X6_62 ⟨Nat.le_of_ble_eq_true rfl, Nat.le_of_ble_eq_true rfl⟩ hP hD hS [] (by decide +kernel) rfl rfl rfl hl.1 rfl (Nat.le_of_ble_eq_true rfl) dX6_setMode_9 ⟨Nat.le_refl _, Nat.le_refl _⟩ rfl rfl (fun H locs hP hD hS => ?_)
      refine lv_aload_n hx hb dX6_setMode_12 rfl (lv_at hl 0 rfl) ?_
      refine mget X fl_X6_19 hP 0 rfl rfl dX6_setMode_13 ?_
      refine mget X fl_X6_66 hP 43 rfl rfl dX6_setMode_16 ?_
      refine mget X fl_X6_96 hP 45 rfl rfl dX6_setMode_19 ?_
      refine lv_istore_n (lv' := [(3, .int o_present_nodes_mode), (0, .ref q_o), (1, .int p1), (2, .int p2)]) hx hb dX6_setMode_22 rfl hl (by decide) rfl (fun ls hl => ?_)
      refine lv_aload_n hx hb dX6_setMode_23 rfl (lv_at hl 1 rfl) ?_
      refine mget X fl_X6_29 hP 0 rfl rfl dX6_setMode_24 ?_
      refine lv_aload_n hx hb dX6_setMode_27 rfl (lv_at hl 1 rfl) ?_
      refine mget X fl_X6_19 hP 0 rfl rfl dX6_setMode_28 ?_
      refine mget X fl_X6_66 hP 43 rfl rfl dX6_setMode_31 ?_
      obtain ⟨r5, c5, h⟩ := o_b h
      refine mcallN X (As := [.ref q_o_present_nodes]) (rest := []) (ws1 := wX6_setMode g q_o q_o_history q_o_history_kept q_o_present q_o_present_denominator q_o_present_nodes q_o_present_nodes_ws q_o_present_nodes_xs q_o_present_nodes_ys q_o_present_numerator q_o_present_order q_o_present_product q_o_present_sorted q_o_present_weights q_o_text q_o_trial q_o_output q_o_answer q_o_best q_o_history_kept_E q_o_history_kept_E_ws q_o_history_kept_E_xs q_o_history_kept_E_ys r5.1 r5.2.1 r5.2.2.2.1 r5.2.2.1 r5.2.2.2.2.1 r5.2.2.2.2.2.1 r5.2.2.2.2.2.2 o_present_denominator o_present_nodes_count o_present_nodes_mode o_present_nodes_degree o_present_nodes_ws o_present_nodes_xs o_present_nodes_ys o_present_numerator o_present_order o_present_product o_present_sorted o_present_weights) (st1 := []) (kX2_remember D g x l q_o_history q_o_history_kept q_o_present_nodes q_o_present_nodes_ws q_o_present_nodes_xs q_o_present_nodes_ys q_o_history_kept_E q_o_history_kept_E_ws q_o_history_kept_E_xs q_o_history_kept_E_ys o_history_count o_history_kept_E_count o_history_kept_E_mode o_history_kept_E_degree o_history_kept_E_ws o_history_kept_E_xs o_history_kept_E_ys o_present_nodes_count o_present_nodes_mode o_present_nodes_degree o_present_nodes_ws o_present_nodes_xs o_present_nodes_ys  r5 c5) mw_X2_remember ml_X6_210 ⟨Nat.le_of_ble_eq_true rfl, Nat.le_of_ble_eq_true rfl⟩ hP hD hS 1 42 2 4 rfl rfl rfl 1 rfl rfl rfl hl.1 rfl (Nat.le_of_ble_eq_true rfl) dX6_setMode_34 ⟨Nat.le_refl _, Nat.le_refl _⟩ rfl rfl (fun H locs hP hD hS => ?_)
      refine lv_aload_n hx hb dX6_setMode_37 rfl (lv_at hl 1 rfl) ?_
      refine mget X fl_X6_19 hP 0 rfl rfl dX6_setMode_38 ?_
      refine mget X fl_X6_66 hP 43 rfl rfl dX6_setMode_41 ?_
      refine lv_iload_n hx hb dX6_setMode_44 rfl (lv_at hl 2 rfl) ?_
      refine mputI X fl_X6_96 (ws1 := wX6_setMode g q_o q_o_history q_o_history_kept q_o_present q_o_present_denominator q_o_present_nodes q_o_present_nodes_ws q_o_present_nodes_xs q_o_present_nodes_ys q_o_present_numerator q_o_present_order q_o_present_product q_o_present_sorted q_o_present_weights q_o_text q_o_trial q_o_output q_o_answer q_o_best q_o_history_kept_E q_o_history_kept_E_ws q_o_history_kept_E_xs q_o_history_kept_E_ys r5.1 r5.2.1 r5.2.2.2.1 r5.2.2.1 r5.2.2.2.2.1 r5.2.2.2.2.2.1 r5.2.2.2.2.2.2 o_present_denominator o_present_nodes_count p1 o_present_nodes_degree o_present_nodes_ws o_present_nodes_xs o_present_nodes_ys o_present_numerator o_present_order o_present_product o_present_sorted o_present_weights) hP hD hS 45 rfl rfl ⟨_, rfl, rfl⟩ dX6_setMode_45 rfl (fun H locs hP hD hS => ?_)
      refine lv_iload_n hx hb dX6_setMode_48 rfl (lv_at hl 2 rfl) ?_
      refine lv_iconst (v := 1) hx hb dX6_setMode_49 (by decide) ?_
      refine lv_icmp_ne (tgt := 64) hx hb dX6_setMode_50 (by decide) (fun b6 => ?_) (fun b6 => ?_)
      · have h := o_f b6 h
        refine lv_aload_n hx hb dX6_setMode_64 rfl (lv_at hl 1 rfl) ?_
        refine mget X fl_X6_19 hP 0 rfl rfl dX6_setMode_65 ?_
        obtain ⟨r7, c7, h⟩ := o_b h
        refine mcallV X (As := []) (rest := []) (ws1 := wX6_setMode g q_o q_o_history q_o_history_kept q_o_present q_o_present_denominator q_o_present_nodes q_o_present_nodes_ws q_o_present_nodes_xs q_o_present_nodes_ys q_o_present_numerator q_o_present_order q_o_present_product q_o_present_sorted q_o_present_weights q_o_text q_o_trial q_o_output q_o_answer q_o_best q_o_history_kept_E q_o_history_kept_E_ws q_o_history_kept_E_xs q_o_history_kept_E_ys r5.1 r5.2.1 r5.2.2.2.1 r5.2.2.1 r5.2.2.2.2.1 r5.2.2.2.2.2.1 r5.2.2.2.2.2.2 r7.1 o_present_nodes_count p1 o_present_nodes_degree o_present_nodes_ws o_present_nodes_xs o_present_nodes_ys r7.2.1 r7.2.2.1 r7.2.2.2.1 r7.2.2.2.2.1 r7.2.2.2.2.2) (st1 := []) (kX0_reckon D g x l q_o_present q_o_present_denominator q_o_present_nodes q_o_present_nodes_ws q_o_present_nodes_xs q_o_present_nodes_ys q_o_present_numerator q_o_present_order q_o_present_product q_o_present_sorted q_o_present_weights o_present_denominator o_present_nodes_count p1 o_present_nodes_degree o_present_nodes_ws o_present_nodes_xs o_present_nodes_ys o_present_numerator o_present_order o_present_product o_present_sorted o_present_weights  r7 c7) mw_X0_reckon ml_X6_83 ⟨Nat.le_of_ble_eq_true rfl, Nat.le_of_ble_eq_true rfl⟩ hP hD hS [43, 44, 45, 46, 47, 48, 49, 50, 51, 52, 53] (by decide +kernel) rfl rfl 43 rfl rfl rfl hl.1 rfl (Nat.le_of_ble_eq_true rfl) dX6_setMode_68 ⟨Nat.le_refl _, Nat.le_refl _⟩ rfl rfl (fun H locs hP hD hS => ?_)
        refine lv_iload_n hx hb dX6_setMode_71 rfl (lv_at hl 0 rfl) ?_
        cases h
        exact fin _ _ _ _ rfl hP hS dX6_setMode_72
      · have h := o_t b6 h
        refine lv_aload_n hx hb dX6_setMode_53 rfl (lv_at hl 1 rfl) ?_
        refine mget X fl_X6_19 hP 0 rfl rfl dX6_setMode_54 ?_
        refine mget X fl_X6_66 hP 43 rfl rfl dX6_setMode_57 ?_
        refine lv_iload_n hx hb dX6_setMode_60 rfl (lv_at hl 3 rfl) ?_
        refine mputI X fl_X6_100 (ws1 := wX6_setMode g q_o q_o_history q_o_history_kept q_o_present q_o_present_denominator q_o_present_nodes q_o_present_nodes_ws q_o_present_nodes_xs q_o_present_nodes_ys q_o_present_numerator q_o_present_order q_o_present_product q_o_present_sorted q_o_present_weights q_o_text q_o_trial q_o_output q_o_answer q_o_best q_o_history_kept_E q_o_history_kept_E_ws q_o_history_kept_E_xs q_o_history_kept_E_ys r5.1 r5.2.1 r5.2.2.2.1 r5.2.2.1 r5.2.2.2.2.1 r5.2.2.2.2.2.1 r5.2.2.2.2.2.2 o_present_denominator o_present_nodes_count p1 p2 o_present_nodes_ws o_present_nodes_xs o_present_nodes_ys o_present_numerator o_present_order o_present_product o_present_sorted o_present_weights) hP hD hS 45 rfl rfl ⟨_, rfl, rfl⟩ dX6_setMode_61 rfl (fun H locs hP hD hS => ?_)
        refine lv_aload_n hx hb dX6_setMode_64 rfl (lv_at hl 1 rfl) ?_
        refine mget X fl_X6_19 hP 0 rfl rfl dX6_setMode_65 ?_
        obtain ⟨r8, c8, h⟩ := o_b h
        refine mcallV X (As := []) (rest := []) (ws1 := wX6_setMode g q_o q_o_history q_o_history_kept q_o_present q_o_present_denominator q_o_present_nodes q_o_present_nodes_ws q_o_present_nodes_xs q_o_present_nodes_ys q_o_present_numerator q_o_present_order q_o_present_product q_o_present_sorted q_o_present_weights q_o_text q_o_trial q_o_output q_o_answer q_o_best q_o_history_kept_E q_o_history_kept_E_ws q_o_history_kept_E_xs q_o_history_kept_E_ys r5.1 r5.2.1 r5.2.2.2.1 r5.2.2.1 r5.2.2.2.2.1 r5.2.2.2.2.2.1 r5.2.2.2.2.2.2 r8.1 o_present_nodes_count p1 p2 o_present_nodes_ws o_present_nodes_xs o_present_nodes_ys r8.2.1 r8.2.2.1 r8.2.2.2.1 r8.2.2.2.2.1 r8.2.2.2.2.2) (st1 := []) (kX0_reckon D g x l q_o_present q_o_present_denominator q_o_present_nodes q_o_present_nodes_ws q_o_present_nodes_xs q_o_present_nodes_ys q_o_present_numerator q_o_present_order q_o_present_product q_o_present_sorted q_o_present_weights o_present_denominator o_present_nodes_count p1 p2 o_present_nodes_ws o_present_nodes_xs o_present_nodes_ys o_present_numerator o_present_order o_present_product o_present_sorted o_present_weights  r8 c8) mw_X0_reckon ml_X6_83 ⟨Nat.le_of_ble_eq_true rfl, Nat.le_of_ble_eq_true rfl⟩ hP hD hS [43, 44, 45, 46, 47, 48, 49, 50, 51, 52, 53] (by decide +kernel) rfl rfl 43 rfl rfl rfl hl.1 rfl (Nat.le_of_ble_eq_true rfl) dX6_setMode_68 ⟨Nat.le_refl _, Nat.le_refl _⟩ rfl rfl (fun H locs hP hD hS => ?_)
        refine lv_iload_n hx hb dX6_setMode_71 rfl (lv_at hl 0 rfl) ?_
        cases h
        exact fin _ _ _ _ rfl hP hS dX6_setMode_72
    · have h := o_f t4 h
      cases h
      exact absurd h0 t4
  · have h := o_f t2 h
    cases h
    exact absurd h0 t2
