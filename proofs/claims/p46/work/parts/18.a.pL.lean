abbrev wL_among (g : Nat → ClassId)   : va_W := []
set_option maxHeartbeats 4000000 in
set_option maxRecDepth 100000 in
theorem kL_among (D : va_G) (g : Nat → ClassId) (x : Xd) (l : Launch) (p1 : Int32) (p2 : Int32) (R : Int32) (h : mL_among p1 p2 = some R) : Cn D g x l yL_among cL_among 3 (some .int) 0 0 [.int p1, .int p2] (wL_among g  ) (wL_among g  ) (some (.int R)) := by
  refine CnI (by decide +kernel) (Nat.le_of_ble_eq_true rfl) (fun p e s m args below meth c A Q ls X hD hP hS fin hl => ?_)
  obtain ⟨hx, hb, hml, -, -, hown, hts, hK, hA, hE⟩ := id X
  unfold mL_among at h
  have hl : lv_has ls 3 [(0, .int p1), (1, .int p2)] := hl
  refine lv_iload_n hx hb dL_among_0 rfl (lv_at hl 0 rfl) ?_
  refine lv_iload_n hx hb dL_among_1 rfl (lv_at hl 1 rfl) ?_
  obtain ⟨b1, h⟩ := o_no h
  refine lv_irem (x := p1) (y := p2) hx hb dL_among_2 b1 ?_
  refine lv_istore_n (lv' := [(2, .int (p1 - p1 / p2 * p2)), (0, .int p1), (1, .int p2)]) hx hb dL_among_3 rfl hl (by decide) rfl (fun ls hl => ?_)
  refine lv_iload_n hx hb dL_among_4 rfl (lv_at hl 0 rfl) ?_
  refine lv_if_ge (tgt := 14) hx hb dL_among_5 (by decide) (fun b2 => ?_) (fun b2 => ?_)
  · have h := o_t b2 h
    refine lv_iload_n hx hb dL_among_14 rfl (lv_at hl 0 rfl) ?_
    cases h
    exact fin _ _ _ _ rfl hP hS dL_among_15
  · have h := o_f b2 h
    refine lv_iload_n hx hb dL_among_8 rfl (lv_at hl 0 rfl) ?_
    refine lv_iload_n hx hb dL_among_9 rfl (lv_at hl 2 rfl) ?_
    refine lv_iadd hx hb dL_among_10 ?_
    refine lv_goto (tgt := 15) hx hb dL_among_11 (by decide) ?_
    cases h
    exact fin _ _ _ _ rfl hP hS dL_among_15
abbrev wL_isTaken (g : Nat → ClassId) (q_o q_o_xs q_o_choices q_o_ys q_o_ws : Nat)  (o_at : Int32) (o_n : Int32) (o_xs : Nat → Int32) : va_W := [(q_o, .inr (9, [.ref q_o_choices, .int o_at, .int o_n, .ref q_o_xs, .ref q_o_ys, .ref q_o_ws])), (q_o_xs, .inl (g 0, 5, .inl o_xs))]
set_option maxHeartbeats 4000000 in
set_option maxRecDepth 100000 in
theorem kL_isTaken (D : va_G) (g : Nat → ClassId) (x : Xd) (l : Launch) (q_o q_o_xs q_o_choices q_o_ys q_o_ws : Nat)  (o_at : Int32) (o_n : Int32) (o_xs : Nat → Int32) (p1 : Int32) (p2 : Int32) (R : Int32) (h : mL_isTaken o_xs p1 p2 = some R) : Cn D g x l yL_isTaken cL_isTaken 4 (some .boolean) 0 0 [.ref q_o, .int p1, .int p2] (wL_isTaken g q_o q_o_xs q_o_choices q_o_ys q_o_ws o_at o_n o_xs) (wL_isTaken g q_o q_o_xs q_o_choices q_o_ys q_o_ws o_at o_n o_xs) (some (.int R)) := by
  refine CnI (by decide +kernel) (Nat.le_of_ble_eq_true rfl) (fun p e s m args below meth c A Q ls X hD hP hS fin hl => ?_)
  obtain ⟨hx, hb, hml, -, -, hown, hts, hK, hA, hE⟩ := id X
  unfold mL_isTaken at h
  have hl : lv_has ls 4 [(0, .ref q_o), (1, .int p1), (2, .int p2)] := hl
  refine lv_iconst (v := 0) hx hb dL_isTaken_0 (by decide) ?_
  refine lv_istore_n (lv' := [(3, .int 0), (0, .ref q_o), (1, .int p1), (2, .int p2)]) hx hb dL_isTaken_1 rfl hl (by decide) rfl (fun ls hl => ?_)
  have lp1 : ∀ (n : Nat) (v1_3 : Int32) (R1 : Nat) (h : lL_isTaken_2 p1 p2 o_xs n v1_3 = some R1) (H : Heap) (locs : List Loc), va_P D vwCl (wL_isTaken g q_o q_o_xs q_o_choices q_o_ys q_o_ws o_at o_n o_xs) H → va_D A (wL_isTaken g q_o q_o_xs q_o_choices q_o_ys q_o_ws o_at o_n o_xs) → va_S A s.heap H locs → ∀ (ls : Array Slot), lv_has ls 4 [(0, .ref q_o), (1, .int p1), (2, .int p2), (3, .int v1_3)] → (R1 = 0 → ∀ (H : Heap) (locs : List Loc) (ls : Array Slot), va_P D vwCl (wL_isTaken g q_o q_o_xs q_o_choices q_o_ys q_o_ws o_at o_n o_xs) H → va_D A (wL_isTaken g q_o q_o_xs q_o_choices q_o_ys q_o_ws o_at o_n o_xs) → va_S A s.heap H locs → lv_has ls 4 [] → W p l e (rmF 0 0) s m args below meth c H locs 0 0 Q (F0 m 17 ls [])) → (¬ R1 = 0 → ∀ (H : Heap) (locs : List Loc) (ls : Array Slot), va_P D vwCl (wL_isTaken g q_o q_o_xs q_o_choices q_o_ys q_o_ws o_at o_n o_xs) H → va_D A (wL_isTaken g q_o q_o_xs q_o_choices q_o_ys q_o_ws o_at o_n o_xs) → va_S A s.heap H locs → lv_has ls 4 [] → W p l e (rmF 0 0) s m args below meth c H locs 0 0 Q (F0 m 25 ls [])) → W p l e (rmF 0 0) s m args below meth c H locs 0 0 Q (F0 m 2 ls []) := by
    intro n
    induction n with
    | zero =>
      intro v1_3 R1 h
      have h : none = some R1 := h
      cases h
    | succ n ih1 =>
      intro v1_3 R1 h H locs hP hD hS ls hl K1_0 K1_1
      have h : (if p2 ≤ v1_3 then some (1 : Nat) else if v1_3 < 0 ∨ 5 ≤ Int32.toNatClampNeg v1_3 then none else if (o_xs (Int32.toNatClampNeg v1_3)) = p1 then some (0 : Nat) else lL_isTaken_2 p1 p2 o_xs n (v1_3 + 1) : Option (Nat)) = some R1 := h
      refine lv_iload_n hx hb dL_isTaken_2 rfl (lv_at hl 3 rfl) ?_
      refine lv_iload_n hx hb dL_isTaken_3 rfl (lv_at hl 2 rfl) ?_
      refine lv_icmp_ge (tgt := 25) hx hb dL_isTaken_4 (by decide) (fun b2 => ?_) (fun b2 => ?_)
      · have h := o_t b2 h
        cases h
        exact K1_1 (show ¬ (1 : Nat) = 0 from by decide) _ _ _ hP hD hS (lv_sub hl [] rfl)
      · have h := o_f b2 h
        refine lv_aload_n hx hb dL_isTaken_7 rfl (lv_at hl 0 rfl) ?_
        refine mget X fl_L_13 hP 0 rfl rfl dL_isTaken_8 ?_
        refine lv_iload_n hx hb dL_isTaken_11 rfl (lv_at hl 3 rfl) ?_
        obtain ⟨b3, h⟩ := o_no h
        refine mild X hP 1 rfl b3 dL_isTaken_12 ?_
        refine lv_iload_n hx hb dL_isTaken_13 rfl (lv_at hl 1 rfl) ?_
        refine lv_icmp_ne (tgt := 19) hx hb dL_isTaken_14 (by decide) (fun b4 => ?_) (fun b4 => ?_)
        · have h := o_f b4 h
          refine lv_iinc (v := v1_3 + 1) (lv' := [(3, .int (v1_3 + 1)), (0, .ref q_o), (1, .int p1), (2, .int p2)]) hx hb dL_isTaken_19 hl (k := 3) rfl rfl (by decide) rfl (fun ls hl => ?_)
          refine lv_goto (tgt := 2) hx hb dL_isTaken_22 (by decide) ?_
          exact ih1 (v1_3 + 1) _ h _ _ hP hD hS _ (lv_sub hl [1, 2, 3, 0] rfl) K1_0 K1_1
        · have h := o_t b4 h
          cases h
          exact K1_0 rfl _ _ _ hP hD hS (lv_sub hl [] rfl)
  obtain ⟨r5, c5, h⟩ := o_b h
  refine lp1 FU 0 r5 c5 _ _ hP hD hS _ (lv_sub hl [1, 2, 3, 0] rfl) (fun t1_0 H locs ls hP hD hS hl => ?_) (fun t1_0 H locs ls hP hD hS hl => ?_)
  · have h := o_t t1_0 h
    refine lv_iconst (v := 1) hx hb dL_isTaken_17 (by decide) ?_
    cases h
    exact fin _ _ _ _ (nar_z (Or.inr rfl)) hP hS dL_isTaken_18
  · have h := o_f t1_0 h
    refine lv_iconst (v := 0) hx hb dL_isTaken_25 (by decide) ?_
    cases h
    exact fin _ _ _ _ (nar_z (Or.inl rfl)) hP hS dL_isTaken_26
abbrev wL_isByNewton (g : Nat → ClassId) (q_o q_o_xs q_p1 q_p1_answer q_p1_present q_p1_present_nodes q_p1_present_nodes_ws q_p1_present_nodes_xs q_p1_present_nodes_ys q_p1_trial q_p1_trial_denominator q_p1_trial_nodes q_p1_trial_nodes_ws q_p1_trial_nodes_xs q_p1_trial_nodes_ys q_p1_trial_numerator q_p1_trial_order q_p1_trial_product q_p1_trial_sorted q_p1_trial_weights q_o_choices q_o_ys q_o_ws q_p1_text q_p1_history q_p1_output q_p1_best q_p1_present_order q_p1_present_sorted q_p1_present_weights q_p1_present_numerator q_p1_present_denominator q_p1_present_product : Nat)  (o_at : Int32) (o_n : Int32) (o_xs : Nat → Int32) (p1_answer_top : Int64) (p1_answer_bottom : Int64) (p1_present_nodes_count : Int32) (p1_present_nodes_mode : Int32) (p1_present_nodes_degree : Int32) (p1_present_nodes_ws : Nat → Int32) (p1_present_nodes_xs : Nat → Int32) (p1_present_nodes_ys : Nat → Int32) (p1_trial_denominator : Nat → Int64) (p1_trial_nodes_count : Int32) (p1_trial_nodes_mode : Int32) (p1_trial_nodes_degree : Int32) (p1_trial_nodes_ws : Nat → Int32) (p1_trial_nodes_xs : Nat → Int32) (p1_trial_nodes_ys : Nat → Int32) (p1_trial_numerator : Nat → Int64) (p1_trial_order : Nat → Int32) (p1_trial_product : Nat → Int64) (p1_trial_sorted : Nat → Int32) (p1_trial_weights : Nat → Int64) : va_W := [(q_o, .inr (9, [.ref q_o_choices, .int o_at, .int o_n, .ref q_o_xs, .ref q_o_ys, .ref q_o_ws])), (q_o_xs, .inl (g 0, 5, .inl o_xs)), (q_p1, .inr (6, [.ref q_p1_text, .ref q_p1_present, .ref q_p1_trial, .ref q_p1_history, .ref q_p1_output, .ref q_p1_answer, .ref q_p1_best])), (q_p1_answer, .inr (1, [.long p1_answer_top, .long p1_answer_bottom])), (q_p1_present, .inr (0, [.ref q_p1_present_nodes, .ref q_p1_present_order, .ref q_p1_present_sorted, .ref q_p1_present_weights, .ref q_p1_present_numerator, .ref q_p1_present_denominator, .ref q_p1_present_product])), (q_p1_present_nodes, .inr (3, [.ref q_p1_present_nodes_xs, .ref q_p1_present_nodes_ys, .ref q_p1_present_nodes_ws, .int p1_present_nodes_count, .int p1_present_nodes_mode, .int p1_present_nodes_degree])), (q_p1_present_nodes_ws, .inl (g 0, 5, .inl p1_present_nodes_ws)), (q_p1_present_nodes_xs, .inl (g 0, 5, .inl p1_present_nodes_xs)), (q_p1_present_nodes_ys, .inl (g 0, 5, .inl p1_present_nodes_ys)), (q_p1_trial, .inr (0, [.ref q_p1_trial_nodes, .ref q_p1_trial_order, .ref q_p1_trial_sorted, .ref q_p1_trial_weights, .ref q_p1_trial_numerator, .ref q_p1_trial_denominator, .ref q_p1_trial_product])), (q_p1_trial_denominator, .inl (g 1, 5, .inr (.inl p1_trial_denominator))), (q_p1_trial_nodes, .inr (3, [.ref q_p1_trial_nodes_xs, .ref q_p1_trial_nodes_ys, .ref q_p1_trial_nodes_ws, .int p1_trial_nodes_count, .int p1_trial_nodes_mode, .int p1_trial_nodes_degree])), (q_p1_trial_nodes_ws, .inl (g 0, 5, .inl p1_trial_nodes_ws)), (q_p1_trial_nodes_xs, .inl (g 0, 5, .inl p1_trial_nodes_xs)), (q_p1_trial_nodes_ys, .inl (g 0, 5, .inl p1_trial_nodes_ys)), (q_p1_trial_numerator, .inl (g 1, 5, .inr (.inl p1_trial_numerator))), (q_p1_trial_order, .inl (g 0, 5, .inl p1_trial_order)), (q_p1_trial_product, .inl (g 1, 5, .inr (.inl p1_trial_product))), (q_p1_trial_sorted, .inl (g 0, 5, .inl p1_trial_sorted)), (q_p1_trial_weights, .inl (g 1, 5, .inr (.inl p1_trial_weights)))]
set_option maxHeartbeats 4000000 in
set_option maxRecDepth 100000 in
theorem kL_isByNewton (D : va_G) (g : Nat → ClassId) (x : Xd) (l : Launch) (q_o q_o_xs q_p1 q_p1_answer q_p1_present q_p1_present_nodes q_p1_present_nodes_ws q_p1_present_nodes_xs q_p1_present_nodes_ys q_p1_trial q_p1_trial_denominator q_p1_trial_nodes q_p1_trial_nodes_ws q_p1_trial_nodes_xs q_p1_trial_nodes_ys q_p1_trial_numerator q_p1_trial_order q_p1_trial_product q_p1_trial_sorted q_p1_trial_weights q_o_choices q_o_ys q_o_ws q_p1_text q_p1_history q_p1_output q_p1_best q_p1_present_order q_p1_present_sorted q_p1_present_weights q_p1_present_numerator q_p1_present_denominator q_p1_present_product : Nat)  (o_at : Int32) (o_n : Int32) (o_xs : Nat → Int32) (p1_answer_top : Int64) (p1_answer_bottom : Int64) (p1_present_nodes_count : Int32) (p1_present_nodes_mode : Int32) (p1_present_nodes_degree : Int32) (p1_present_nodes_ws : Nat → Int32) (p1_present_nodes_xs : Nat → Int32) (p1_present_nodes_ys : Nat → Int32) (p1_trial_denominator : Nat → Int64) (p1_trial_nodes_count : Int32) (p1_trial_nodes_mode : Int32) (p1_trial_nodes_degree : Int32) (p1_trial_nodes_ws : Nat → Int32) (p1_trial_nodes_xs : Nat → Int32) (p1_trial_nodes_ys : Nat → Int32) (p1_trial_numerator : Nat → Int64) (p1_trial_order : Nat → Int32) (p1_trial_product : Nat → Int64) (p1_trial_sorted : Nat → Int32) (p1_trial_weights : Nat → Int64) (p2 : Int32) (R : Int32 × Int64 × Int64 × (Nat → Int64) × Int32 × Int32 × Int32 × (Nat → Int32) × (Nat → Int32) × (Nat → Int32) × (Nat → Int64) × (Nat → Int32) × (Nat → Int64) × (Nat → Int32) × (Nat → Int64)) (h : mL_isByNewton o_n o_xs p1_answer_bottom p1_answer_top p1_present_nodes_count p1_present_nodes_degree p1_present_nodes_mode p1_present_nodes_ws p1_present_nodes_xs p1_present_nodes_ys p1_trial_denominator p1_trial_nodes_count p1_trial_nodes_degree p1_trial_nodes_mode p1_trial_nodes_ws p1_trial_nodes_xs p1_trial_nodes_ys p1_trial_numerator p1_trial_order p1_trial_product p1_trial_sorted p1_trial_weights p2 = some R) : Cn D g x l yL_isByNewton cL_isByNewton 10 (some .boolean) 6 166 [.ref q_o, .ref q_p1, .int p2] (wL_isByNewton g q_o q_o_xs q_p1 q_p1_answer q_p1_present q_p1_present_nodes q_p1_present_nodes_ws q_p1_present_nodes_xs q_p1_present_nodes_ys q_p1_trial q_p1_trial_denominator q_p1_trial_nodes q_p1_trial_nodes_ws q_p1_trial_nodes_xs q_p1_trial_nodes_ys q_p1_trial_numerator q_p1_trial_order q_p1_trial_product q_p1_trial_sorted q_p1_trial_weights q_o_choices q_o_ys q_o_ws q_p1_text q_p1_history q_p1_output q_p1_best q_p1_present_order q_p1_present_sorted q_p1_present_weights q_p1_present_numerator q_p1_present_denominator q_p1_present_product o_at o_n o_xs p1_answer_top p1_answer_bottom p1_present_nodes_count p1_present_nodes_mode p1_present_nodes_degree p1_present_nodes_ws p1_present_nodes_xs p1_present_nodes_ys p1_trial_denominator p1_trial_nodes_count p1_trial_nodes_mode p1_trial_nodes_degree p1_trial_nodes_ws p1_trial_nodes_xs p1_trial_nodes_ys p1_trial_numerator p1_trial_order p1_trial_product p1_trial_sorted p1_trial_weights) (wL_isByNewton g q_o q_o_xs q_p1 q_p1_answer q_p1_present q_p1_present_nodes q_p1_present_nodes_ws q_p1_present_nodes_xs q_p1_present_nodes_ys q_p1_trial q_p1_trial_denominator q_p1_trial_nodes q_p1_trial_nodes_ws q_p1_trial_nodes_xs q_p1_trial_nodes_ys q_p1_trial_numerator q_p1_trial_order q_p1_trial_product q_p1_trial_sorted q_p1_trial_weights q_o_choices q_o_ys q_o_ws q_p1_text q_p1_history q_p1_output q_p1_best q_p1_present_order q_p1_present_sorted q_p1_present_weights q_p1_present_numerator q_p1_present_denominator q_p1_present_product o_at o_n o_xs R.2.2.1 R.2.1 p1_present_nodes_count p1_present_nodes_mode p1_present_nodes_degree p1_present_nodes_ws p1_present_nodes_xs p1_present_nodes_ys R.2.2.2.1 R.2.2.2.2.1 R.2.2.2.2.2.2.1 R.2.2.2.2.2.1 R.2.2.2.2.2.2.2.1 R.2.2.2.2.2.2.2.2.1 R.2.2.2.2.2.2.2.2.2.1 R.2.2.2.2.2.2.2.2.2.2.1 R.2.2.2.2.2.2.2.2.2.2.2.1 R.2.2.2.2.2.2.2.2.2.2.2.2.1 R.2.2.2.2.2.2.2.2.2.2.2.2.2.1 R.2.2.2.2.2.2.2.2.2.2.2.2.2.2) (some (.int R.1)) := by
  refine CnI (by decide +kernel) (Nat.le_of_ble_eq_true rfl) (fun p e s m args below meth c A Q ls X hD hP hS fin hl => ?_)
  obtain ⟨hx, hb, hml, -, -, hown, hts, hK, hA, hE⟩ := id X
  unfold mL_isByNewton at h
  have hl : lv_has ls 10 [(0, .ref q_o), (1, .ref q_p1), (2, .int p2)] := hl
  refine lv_lconst (v := 1) hx hb dL_isByNewton_0 (by decide) ?_
  refine lv_lstore_n (lv' := [(3, .long 1), (0, .ref q_o), (1, .ref q_p1), (2, .int p2)]) hx hb dL_isByNewton_1 rfl hl (by decide) rfl (fun ls hl => ?_)
  refine lv_iconst (v := 1) hx hb dL_isByNewton_2 (by decide) ?_
  refine lv_istore (lv' := [(5, .int 1), (3, .long 1), (0, .ref q_o), (1, .ref q_p1), (2, .int p2)]) hx hb dL_isByNewton_3 hl (by decide) rfl (fun ls hl => ?_)
  have lp1 : ∀ (n : Nat) (v1_3 : Int64) (v1_5 : Int32) (u1_p1_answer_bottom : Int64) (u1_p1_answer_top : Int64) (R1 : Int64 × Int64 × Int64) (h : lL_isByNewton_5 o_n p1_present_nodes_count p1_present_nodes_xs p1_present_nodes_ys n v1_3 v1_5 u1_p1_answer_bottom u1_p1_answer_top = some R1) (H : Heap) (locs : List Loc), va_P D vwCl (wL_isByNewton g q_o q_o_xs q_p1 q_p1_answer q_p1_present q_p1_present_nodes q_p1_present_nodes_ws q_p1_present_nodes_xs q_p1_present_nodes_ys q_p1_trial q_p1_trial_denominator q_p1_trial_nodes q_p1_trial_nodes_ws q_p1_trial_nodes_xs q_p1_trial_nodes_ys q_p1_trial_numerator q_p1_trial_order q_p1_trial_product q_p1_trial_sorted q_p1_trial_weights q_o_choices q_o_ys q_o_ws q_p1_text q_p1_history q_p1_output q_p1_best q_p1_present_order q_p1_present_sorted q_p1_present_weights q_p1_present_numerator q_p1_present_denominator q_p1_present_product o_at o_n o_xs u1_p1_answer_top u1_p1_answer_bottom p1_present_nodes_count p1_present_nodes_mode p1_present_nodes_degree p1_present_nodes_ws p1_present_nodes_xs p1_present_nodes_ys p1_trial_denominator p1_trial_nodes_count p1_trial_nodes_mode p1_trial_nodes_degree p1_trial_nodes_ws p1_trial_nodes_xs p1_trial_nodes_ys p1_trial_numerator p1_trial_order p1_trial_product p1_trial_sorted p1_trial_weights) H → va_D A (wL_isByNewton g q_o q_o_xs q_p1 q_p1_answer q_p1_present q_p1_present_nodes q_p1_present_nodes_ws q_p1_present_nodes_xs q_p1_present_nodes_ys q_p1_trial q_p1_trial_denominator q_p1_trial_nodes q_p1_trial_nodes_ws q_p1_trial_nodes_xs q_p1_trial_nodes_ys q_p1_trial_numerator q_p1_trial_order q_p1_trial_product q_p1_trial_sorted q_p1_trial_weights q_o_choices q_o_ys q_o_ws q_p1_text q_p1_history q_p1_output q_p1_best q_p1_present_order q_p1_present_sorted q_p1_present_weights q_p1_present_numerator q_p1_present_denominator q_p1_present_product o_at o_n o_xs u1_p1_answer_top u1_p1_answer_bottom p1_present_nodes_count p1_present_nodes_mode p1_present_nodes_degree p1_present_nodes_ws p1_present_nodes_xs p1_present_nodes_ys p1_trial_denominator p1_trial_nodes_count p1_trial_nodes_mode p1_trial_nodes_degree p1_trial_nodes_ws p1_trial_nodes_xs p1_trial_nodes_ys p1_trial_numerator p1_trial_order p1_trial_product p1_trial_sorted p1_trial_weights) → va_S A s.heap H locs → ∀ (ls : Array Slot), lv_has ls 10 [(0, .ref q_o), (1, .ref q_p1), (2, .int p2), (3, .long v1_3), (5, .int v1_5)] → (∀ (H : Heap) (locs : List Loc) (ls : Array Slot), va_P D vwCl (wL_isByNewton g q_o q_o_xs q_p1 q_p1_answer q_p1_present q_p1_present_nodes q_p1_present_nodes_ws q_p1_present_nodes_xs q_p1_present_nodes_ys q_p1_trial q_p1_trial_denominator q_p1_trial_nodes q_p1_trial_nodes_ws q_p1_trial_nodes_xs q_p1_trial_nodes_ys q_p1_trial_numerator q_p1_trial_order q_p1_trial_product q_p1_trial_sorted q_p1_trial_weights q_o_choices q_o_ys q_o_ws q_p1_text q_p1_history q_p1_output q_p1_best q_p1_present_order q_p1_present_sorted q_p1_present_weights q_p1_present_numerator q_p1_present_denominator q_p1_present_product o_at o_n o_xs R1.2.2 R1.2.1 p1_present_nodes_count p1_present_nodes_mode p1_present_nodes_degree p1_present_nodes_ws p1_present_nodes_xs p1_present_nodes_ys p1_trial_denominator p1_trial_nodes_count p1_trial_nodes_mode p1_trial_nodes_degree p1_trial_nodes_ws p1_trial_nodes_xs p1_trial_nodes_ys p1_trial_numerator p1_trial_order p1_trial_product p1_trial_sorted p1_trial_weights) H → va_D A (wL_isByNewton g q_o q_o_xs q_p1 q_p1_answer q_p1_present q_p1_present_nodes q_p1_present_nodes_ws q_p1_present_nodes_xs q_p1_present_nodes_ys q_p1_trial q_p1_trial_denominator q_p1_trial_nodes q_p1_trial_nodes_ws q_p1_trial_nodes_xs q_p1_trial_nodes_ys q_p1_trial_numerator q_p1_trial_order q_p1_trial_product q_p1_trial_sorted q_p1_trial_weights q_o_choices q_o_ys q_o_ws q_p1_text q_p1_history q_p1_output q_p1_best q_p1_present_order q_p1_present_sorted q_p1_present_weights q_p1_present_numerator q_p1_present_denominator q_p1_present_product o_at o_n o_xs R1.2.2 R1.2.1 p1_present_nodes_count p1_present_nodes_mode p1_present_nodes_degree p1_present_nodes_ws p1_present_nodes_xs p1_present_nodes_ys p1_trial_denominator p1_trial_nodes_count p1_trial_nodes_mode p1_trial_nodes_degree p1_trial_nodes_ws p1_trial_nodes_xs p1_trial_nodes_ys p1_trial_numerator p1_trial_order p1_trial_product p1_trial_sorted p1_trial_weights) → va_S A s.heap H locs → lv_has ls 10 [(0, .ref q_o), (1, .ref q_p1), (2, .int p2), (3, .long R1.1)] → W p l e (rmF 6 166) s m args below meth c H locs 0 0 Q (F0 m 31 ls [])) → W p l e (rmF 6 166) s m args below meth c H locs 0 0 Q (F0 m 5 ls []) := by
    intro n
    induction n with
    | zero =>
      intro v1_3 v1_5 u1_p1_answer_bottom u1_p1_answer_top R1 h
      have h : none = some R1 := h
      cases h
    | succ n ih1 =>
      intro v1_3 v1_5 u1_p1_answer_bottom u1_p1_answer_top R1 h H locs hP hD hS ls hl K1_0
      have h : (if o_n ≤ v1_5 then some (v1_3, u1_p1_answer_bottom, u1_p1_answer_top) else (mX6_divided u1_p1_answer_bottom u1_p1_answer_top p1_present_nodes_count p1_present_nodes_xs p1_present_nodes_ys 0 v1_5 1).bind fun r3 => if r3.1 = 0 then lL_isByNewton_5 o_n p1_present_nodes_count p1_present_nodes_xs p1_present_nodes_ys n (v1_3 * r3.2.1) (v1_5 + 1) r3.2.2.1 r3.2.2.2 else none : Option (Int64 × Int64 × Int64)) = some R1 := h
      refine lv_iload hx hb dL_isByNewton_5 (lv_at hl 4 rfl) ?_
      refine lv_aload_n hx hb dL_isByNewton_7 rfl (lv_at hl 0 rfl) ?_
      refine mget X fl_L_64 hP 0 rfl rfl dL_isByNewton_8 ?_
      refine lv_icmp_ge (tgt := 31) hx hb dL_isByNewton_11 (by decide) (fun b2 => ?_) (fun b2 => ?_)
      · have h := o_t b2 h
        cases h
        exact K1_0  _ _ _ hP hD hS (lv_sub hl [0, 1, 2, 3] rfl)
      · have h := o_f b2 h
        refine lv_lload_n hx hb dL_isByNewton_14 rfl (lv_at hl 3 rfl) ?_
        refine lv_aload_n hx hb dL_isByNewton_15 rfl (lv_at hl 1 rfl) ?_
        refine lv_iconst (v := 0) hx hb dL_isByNewton_16 (by decide) ?_
        refine lv_iload hx hb dL_isByNewton_17 (lv_at hl 4 rfl) ?_
        refine lv_iconst (v := 1) hx hb dL_isByNewton_19 (by decide) ?_
        obtain ⟨r3, c3, h⟩ := o_b h
        by_cases t4 : r3.1 = 0
        · have h := o_t t4 h
          refine mcallV X (As := [.int 0, .int v1_5, .int 1]) (rest := [.long v1_3]) (ws1 := wL_isByNewton g q_o q_o_xs q_p1 q_p1_answer q_p1_present q_p1_present_nodes q_p1_present_nodes_ws q_p1_present_nodes_xs q_p1_present_nodes_ys q_p1_trial q_p1_trial_denominator q_p1_trial_nodes q_p1_trial_nodes_ws q_p1_trial_nodes_xs q_p1_trial_nodes_ys q_p1_trial_numerator q_p1_trial_order q_p1_trial_product q_p1_trial_sorted q_p1_trial_weights q_o_choices q_o_ys q_o_ws q_p1_text q_p1_history q_p1_output q_p1_best q_p1_present_order q_p1_present_sorted q_p1_present_weights q_p1_present_numerator q_p1_present_denominator q_p1_present_product o_at o_n o_xs r3.2.2.2 r3.2.2.1 p1_present_nodes_count p1_present_nodes_mode p1_present_nodes_degree p1_present_nodes_ws p1_present_nodes_xs p1_present_nodes_ys p1_trial_denominator p1_trial_nodes_count p1_trial_nodes_mode p1_trial_nodes_degree p1_trial_nodes_ws p1_trial_nodes_xs p1_trial_nodes_ys p1_trial_numerator p1_trial_order p1_trial_product p1_trial_sorted p1_trial_weights) (st1 := [.long r3.2.1, .long v1_3]) (nX6_divided D g x l q_p1 q_p1_answer q_p1_present q_p1_present_nodes q_p1_present_nodes_xs q_p1_present_nodes_ys q_p1_text q_p1_trial q_p1_history q_p1_output q_p1_best q_p1_present_order q_p1_present_sorted q_p1_present_weights q_p1_present_numerator q_p1_present_denominator q_p1_present_product q_p1_present_nodes_ws u1_p1_answer_top u1_p1_answer_bottom p1_present_nodes_count p1_present_nodes_mode p1_present_nodes_degree p1_present_nodes_xs p1_present_nodes_ys 0 v1_5 1 r3 c3 t4) mw_X6_divided ml_L_181 ⟨Nat.le_of_ble_eq_true rfl, Nat.le_of_ble_eq_true rfl⟩ hP hD hS [2, 3, 4, 5, 7, 8] (by decide +kernel) rfl rfl 2 rfl rfl rfl hl.1 rfl (Nat.le_of_ble_eq_true rfl) dL_isByNewton_20 ⟨Nat.le_refl _, Nat.le_refl _⟩ rfl rfl (fun H locs hP hD hS => ?_)
          refine lv_lmul hx hb dL_isByNewton_23 ?_
          refine lv_lstore_n (lv' := [(3, .long (v1_3 * r3.2.1)), (0, .ref q_o), (1, .ref q_p1), (2, .int p2), (5, .int v1_5)]) hx hb dL_isByNewton_24 rfl hl (by decide) rfl (fun ls hl => ?_)
          refine lv_iinc (v := v1_5 + 1) (lv' := [(5, .int (v1_5 + 1)), (3, .long (v1_3 * r3.2.1)), (0, .ref q_o), (1, .ref q_p1), (2, .int p2)]) hx hb dL_isByNewton_25 hl (k := 4) rfl rfl (by decide) rfl (fun ls hl => ?_)
          refine lv_goto (tgt := 5) hx hb dL_isByNewton_28 (by decide) ?_
          exact ih1 (v1_3 * r3.2.1) (v1_5 + 1) r3.2.2.1 r3.2.2.2 _ h _ _ hP hD hS _ (lv_sub hl [2, 3, 4, 1, 0] rfl) K1_0
        · have h := o_f t4 h
          cases h
  obtain ⟨r5, c5, h⟩ := o_b h
  refine lp1 FU 1 1 p1_answer_bottom p1_answer_top r5 c5 _ _ hP hD hS _ (lv_sub hl [2, 3, 4, 1, 0] rfl) (fun H locs ls hP hD hS hl => ?_)
  refine lv_lconst (v := 0) hx hb dL_isByNewton_31 (by decide) ?_
  refine lv_lstore (lv' := [(5, .long 0), (0, .ref q_o), (1, .ref q_p1), (2, .int p2), (3, .long r5.1)]) hx hb dL_isByNewton_32 hl (by decide) rfl (fun ls hl => ?_)
  refine lv_lconst (v := 1) hx hb dL_isByNewton_34 (by decide) ?_
  refine lv_lstore (lv' := [(7, .long 1), (5, .long 0), (0, .ref q_o), (1, .ref q_p1), (2, .int p2), (3, .long r5.1)]) hx hb dL_isByNewton_35 hl (by decide) rfl (fun ls hl => ?_)
  refine lv_iconst (v := 0) hx hb dL_isByNewton_37 (by decide) ?_
  refine lv_istore (lv' := [(9, .int 0), (7, .long 1), (5, .long 0), (0, .ref q_o), (1, .ref q_p1), (2, .int p2), (3, .long r5.1)]) hx hb dL_isByNewton_38 hl (by decide) rfl (fun ls hl => ?_)
  have lp6 : ∀ (n : Nat) (v6_5 : Int64) (v6_7 : Int64) (v6_9 : Int32) (u6_p1_answer_bottom : Int64) (u6_p1_answer_top : Int64) (R6 : Int64 × Int64 × Int64) (h : lL_isByNewton_40 p2 r5.1 o_n o_xs p1_present_nodes_count p1_present_nodes_xs p1_present_nodes_ys n v6_5 v6_7 v6_9 u6_p1_answer_bottom u6_p1_answer_top = some R6) (H : Heap) (locs : List Loc), va_P D vwCl (wL_isByNewton g q_o q_o_xs q_p1 q_p1_answer q_p1_present q_p1_present_nodes q_p1_present_nodes_ws q_p1_present_nodes_xs q_p1_present_nodes_ys q_p1_trial q_p1_trial_denominator q_p1_trial_nodes q_p1_trial_nodes_ws q_p1_trial_nodes_xs q_p1_trial_nodes_ys q_p1_trial_numerator q_p1_trial_order q_p1_trial_product q_p1_trial_sorted q_p1_trial_weights q_o_choices q_o_ys q_o_ws q_p1_text q_p1_history q_p1_output q_p1_best q_p1_present_order q_p1_present_sorted q_p1_present_weights q_p1_present_numerator q_p1_present_denominator q_p1_present_product o_at o_n o_xs u6_p1_answer_top u6_p1_answer_bottom p1_present_nodes_count p1_present_nodes_mode p1_present_nodes_degree p1_present_nodes_ws p1_present_nodes_xs p1_present_nodes_ys p1_trial_denominator p1_trial_nodes_count p1_trial_nodes_mode p1_trial_nodes_degree p1_trial_nodes_ws p1_trial_nodes_xs p1_trial_nodes_ys p1_trial_numerator p1_trial_order p1_trial_product p1_trial_sorted p1_trial_weights) H → va_D A (wL_isByNewton g q_o q_o_xs q_p1 q_p1_answer q_p1_present q_p1_present_nodes q_p1_present_nodes_ws q_p1_present_nodes_xs q_p1_present_nodes_ys q_p1_trial q_p1_trial_denominator q_p1_trial_nodes q_p1_trial_nodes_ws q_p1_trial_nodes_xs q_p1_trial_nodes_ys q_p1_trial_numerator q_p1_trial_order q_p1_trial_product q_p1_trial_sorted q_p1_trial_weights q_o_choices q_o_ys q_o_ws q_p1_text q_p1_history q_p1_output q_p1_best q_p1_present_order q_p1_present_sorted q_p1_present_weights q_p1_present_numerator q_p1_present_denominator q_p1_present_product o_at o_n o_xs u6_p1_answer_top u6_p1_answer_bottom p1_present_nodes_count p1_present_nodes_mode p1_present_nodes_degree p1_present_nodes_ws p1_present_nodes_xs p1_present_nodes_ys p1_trial_denominator p1_trial_nodes_count p1_trial_nodes_mode p1_trial_nodes_degree p1_trial_nodes_ws p1_trial_nodes_xs p1_trial_nodes_ys p1_trial_numerator p1_trial_order p1_trial_product p1_trial_sorted p1_trial_weights) → va_S A s.heap H locs → ∀ (ls : Array Slot), lv_has ls 10 [(0, .ref q_o), (1, .ref q_p1), (2, .int p2), (3, .long r5.1), (5, .long v6_5), (7, .long v6_7), (9, .int v6_9)] → (∀ (H : Heap) (locs : List Loc) (ls : Array Slot), va_P D vwCl (wL_isByNewton g q_o q_o_xs q_p1 q_p1_answer q_p1_present q_p1_present_nodes q_p1_present_nodes_ws q_p1_present_nodes_xs q_p1_present_nodes_ys q_p1_trial q_p1_trial_denominator q_p1_trial_nodes q_p1_trial_nodes_ws q_p1_trial_nodes_xs q_p1_trial_nodes_ys q_p1_trial_numerator q_p1_trial_order q_p1_trial_product q_p1_trial_sorted q_p1_trial_weights q_o_choices q_o_ys q_o_ws q_p1_text q_p1_history q_p1_output q_p1_best q_p1_present_order q_p1_present_sorted q_p1_present_weights q_p1_present_numerator q_p1_present_denominator q_p1_present_product o_at o_n o_xs R6.2.2 R6.2.1 p1_present_nodes_count p1_present_nodes_mode p1_present_nodes_degree p1_present_nodes_ws p1_present_nodes_xs p1_present_nodes_ys p1_trial_denominator p1_trial_nodes_count p1_trial_nodes_mode p1_trial_nodes_degree p1_trial_nodes_ws p1_trial_nodes_xs p1_trial_nodes_ys p1_trial_numerator p1_trial_order p1_trial_product p1_trial_sorted p1_trial_weights) H → va_D A (wL_isByNewton g q_o q_o_xs q_p1 q_p1_answer q_p1_present q_p1_present_nodes q_p1_present_nodes_ws q_p1_present_nodes_xs q_p1_present_nodes_ys q_p1_trial q_p1_trial_denominator q_p1_trial_nodes q_p1_trial_nodes_ws q_p1_trial_nodes_xs q_p1_trial_nodes_ys q_p1_trial_numerator q_p1_trial_order q_p1_trial_product q_p1_trial_sorted q_p1_trial_weights q_o_choices q_o_ys q_o_ws q_p1_text q_p1_history q_p1_output q_p1_best q_p1_present_order q_p1_present_sorted q_p1_present_weights q_p1_present_numerator q_p1_present_denominator q_p1_present_product o_at o_n o_xs R6.2.2 R6.2.1 p1_present_nodes_count p1_present_nodes_mode p1_present_nodes_degree p1_present_nodes_ws p1_present_nodes_xs p1_present_nodes_ys p1_trial_denominator p1_trial_nodes_count p1_trial_nodes_mode p1_trial_nodes_degree p1_trial_nodes_ws p1_trial_nodes_xs p1_trial_nodes_ys p1_trial_numerator p1_trial_order p1_trial_product p1_trial_sorted p1_trial_weights) → va_S A s.heap H locs → lv_has ls 10 [(1, .ref q_p1), (2, .int p2), (3, .long r5.1), (5, .long R6.1)] → W p l e (rmF 6 166) s m args below meth c H locs 0 0 Q (F0 m 97 ls [])) → W p l e (rmF 6 166) s m args below meth c H locs 0 0 Q (F0 m 40 ls []) := by
    intro n
    induction n with
    | zero =>
      intro v6_5 v6_7 v6_9 u6_p1_answer_bottom u6_p1_answer_top R6 h
      have h : none = some R6 := h
      cases h
    | succ n ih6 =>
      intro v6_5 v6_7 v6_9 u6_p1_answer_bottom u6_p1_answer_top R6 h H locs hP hD hS ls hl K6_0
      have h : (if o_n ≤ v6_9 then some (v6_5, u6_p1_answer_bottom, u6_p1_answer_top) else (mX6_divided u6_p1_answer_bottom u6_p1_answer_top p1_present_nodes_count p1_present_nodes_xs p1_present_nodes_ys 0 v6_9 0).bind fun r8 => if r8.1 = 0 then (mX6_divided r8.2.2.1 r8.2.2.2 p1_present_nodes_count p1_present_nodes_xs p1_present_nodes_ys 0 v6_9 1).bind fun r10 => if r10.1 = 0 then if r10.2.1 = 0 then none else if v6_9 < 0 ∨ 5 ≤ Int32.toNatClampNeg v6_9 then none else lL_isByNewton_40 p2 r5.1 o_n o_xs p1_present_nodes_count p1_present_nodes_xs p1_present_nodes_ys n (v6_5 + ((r8.2.1 * (r5.1 / r10.2.1)) * v6_7)) (v6_7 * (Int32.toInt64 (p2 - (o_xs (Int32.toNatClampNeg v6_9))))) (v6_9 + 1) r10.2.2.1 r10.2.2.2 else none else none : Option (Int64 × Int64 × Int64)) = some R6 := h
      refine lv_iload hx hb dL_isByNewton_40 (lv_at hl 6 rfl) ?_
      refine lv_aload_n hx hb dL_isByNewton_42 rfl (lv_at hl 0 rfl) ?_
      refine mget X fl_L_64 hP 0 rfl rfl dL_isByNewton_43 ?_
      refine lv_icmp_ge (tgt := 97) hx hb dL_isByNewton_46 (by decide) (fun b7 => ?_) (fun b7 => ?_)
      · have h := o_t b7 h
        cases h
        exact K6_0  _ _ _ hP hD hS (lv_sub hl [1, 2, 3, 4] rfl)
      · have h := o_f b7 h
        refine lv_lload hx hb dL_isByNewton_49 (lv_at hl 4 rfl) ?_
        refine lv_aload_n hx hb dL_isByNewton_51 rfl (lv_at hl 1 rfl) ?_
        refine lv_iconst (v := 0) hx hb dL_isByNewton_52 (by decide) ?_
        refine lv_iload hx hb dL_isByNewton_53 (lv_at hl 6 rfl) ?_
        refine lv_iconst (v := 0) hx hb dL_isByNewton_55 (by decide) ?_
        obtain ⟨r8, c8, h⟩ := o_b h
        by_cases t9 : r8.1 = 0
        · have h := o_t t9 h
          refine mcallV X (As := [.int 0, .int v6_9, .int 0]) (rest := [.long v6_5]) (ws1 := wL_isByNewton g q_o q_o_xs q_p1 q_p1_answer q_p1_present q_p1_present_nodes q_p1_present_nodes_ws q_p1_present_nodes_xs q_p1_present_nodes_ys q_p1_trial q_p1_trial_denominator q_p1_trial_nodes q_p1_trial_nodes_ws q_p1_trial_nodes_xs q_p1_trial_nodes_ys q_p1_trial_numerator q_p1_trial_order q_p1_trial_product q_p1_trial_sorted q_p1_trial_weights q_o_choices q_o_ys q_o_ws q_p1_text q_p1_history q_p1_output q_p1_best q_p1_present_order q_p1_present_sorted q_p1_present_weights q_p1_present_numerator q_p1_present_denominator q_p1_present_product o_at o_n o_xs r8.2.2.2 r8.2.2.1 p1_present_nodes_count p1_present_nodes_mode p1_present_nodes_degree p1_present_nodes_ws p1_present_nodes_xs p1_present_nodes_ys p1_trial_denominator p1_trial_nodes_count p1_trial_nodes_mode p1_trial_nodes_degree p1_trial_nodes_ws p1_trial_nodes_xs p1_trial_nodes_ys p1_trial_numerator p1_trial_order p1_trial_product p1_trial_sorted p1_trial_weights) (st1 := [.long r8.2.1, .long v6_5]) (nX6_divided D g x l q_p1 q_p1_answer q_p1_present q_p1_present_nodes q_p1_present_nodes_xs q_p1_present_nodes_ys q_p1_text q_p1_trial q_p1_history q_p1_output q_p1_best q_p1_present_order q_p1_present_sorted q_p1_present_weights q_p1_present_numerator q_p1_present_denominator q_p1_present_product q_p1_present_nodes_ws u6_p1_answer_top u6_p1_answer_bottom p1_present_nodes_count p1_present_nodes_mode p1_present_nodes_degree p1_present_nodes_xs p1_present_nodes_ys 0 v6_9 0 r8 c8 t9) mw_X6_divided ml_L_181 ⟨Nat.le_of_ble_eq_true rfl, Nat.le_of_ble_eq_true rfl⟩ hP hD hS [2, 3, 4, 5, 7, 8] (by decide +kernel) rfl rfl 2 rfl rfl rfl hl.1 rfl (Nat.le_of_ble_eq_true rfl) dL_isByNewton_56 ⟨Nat.le_refl _, Nat.le_refl _⟩ rfl rfl (fun H locs hP hD hS => ?_)
          refine lv_lload_n hx hb dL_isByNewton_59 rfl (lv_at hl 3 rfl) ?_
          refine lv_aload_n hx hb dL_isByNewton_60 rfl (lv_at hl 1 rfl) ?_
          refine lv_iconst (v := 0) hx hb dL_isByNewton_61 (by decide) ?_
          refine lv_iload hx hb dL_isByNewton_62 (lv_at hl 6 rfl) ?_
          refine lv_iconst (v := 1) hx hb dL_isByNewton_64 (by decide) ?_
          obtain ⟨r10, c10, h⟩ := o_b h
          by_cases t11 : r10.1 = 0
          · have h := o_t t11 h
            refine mcallV X (As := [.int 0, .int v6_9, .int 1]) (rest := [.long r5.1, .long r8.2.1, .long v6_5]) (ws1 := wL_isByNewton g q_o q_o_xs q_p1 q_p1_answer q_p1_present q_p1_present_nodes q_p1_present_nodes_ws q_p1_present_nodes_xs q_p1_present_nodes_ys q_p1_trial q_p1_trial_denominator q_p1_trial_nodes q_p1_trial_nodes_ws q_p1_trial_nodes_xs q_p1_trial_nodes_ys q_p1_trial_numerator q_p1_trial_order q_p1_trial_product q_p1_trial_sorted q_p1_trial_weights q_o_choices q_o_ys q_o_ws q_p1_text q_p1_history q_p1_output q_p1_best q_p1_present_order q_p1_present_sorted q_p1_present_weights q_p1_present_numerator q_p1_present_denominator q_p1_present_product o_at o_n o_xs r10.2.2.2 r10.2.2.1 p1_present_nodes_count p1_present_nodes_mode p1_present_nodes_degree p1_present_nodes_ws p1_present_nodes_xs p1_present_nodes_ys p1_trial_denominator p1_trial_nodes_count p1_trial_nodes_mode p1_trial_nodes_degree p1_trial_nodes_ws p1_trial_nodes_xs p1_trial_nodes_ys p1_trial_numerator p1_trial_order p1_trial_product p1_trial_sorted p1_trial_weights) (st1 := [.long r10.2.1, .long r5.1, .long r8.2.1, .long v6_5]) (nX6_divided D g x l q_p1 q_p1_answer q_p1_present q_p1_present_nodes q_p1_present_nodes_xs q_p1_present_nodes_ys q_p1_text q_p1_trial q_p1_history q_p1_output q_p1_best q_p1_present_order q_p1_present_sorted q_p1_present_weights q_p1_present_numerator q_p1_present_denominator q_p1_present_product q_p1_present_nodes_ws r8.2.2.2 r8.2.2.1 p1_present_nodes_count p1_present_nodes_mode p1_present_nodes_degree p1_present_nodes_xs p1_present_nodes_ys 0 v6_9 1 r10 c10 t11) mw_X6_divided ml_L_181 ⟨Nat.le_of_ble_eq_true rfl, Nat.le_of_ble_eq_true rfl⟩ hP hD hS [2, 3, 4, 5, 7, 8] (by decide +kernel) rfl rfl 2 rfl rfl rfl hl.1 rfl (Nat.le_of_ble_eq_true rfl) dL_isByNewton_65 ⟨Nat.le_refl _, Nat.le_refl _⟩ rfl rfl (fun H locs hP hD hS => ?_)
            obtain ⟨b12, h⟩ := o_no h
            refine lv_ldiv (x := r5.1) (y := r10.2.1) hx hb dL_isByNewton_68 b12 ?_
            refine lv_lmul hx hb dL_isByNewton_69 ?_
            refine lv_lload hx hb dL_isByNewton_70 (lv_at hl 5 rfl) ?_
            refine lv_lmul hx hb dL_isByNewton_72 ?_
            refine lv_ladd hx hb dL_isByNewton_73 ?_
            refine lv_lstore (lv' := [(5, .long (v6_5 + ((r8.2.1 * (r5.1 / r10.2.1)) * v6_7))), (0, .ref q_o), (1, .ref q_p1), (2, .int p2), (3, .long r5.1), (7, .long v6_7), (9, .int v6_9)]) hx hb dL_isByNewton_74 hl (by decide) rfl (fun ls hl => ?_)
            refine lv_lload hx hb dL_isByNewton_76 (lv_at hl 5 rfl) ?_
            refine lv_iload_n hx hb dL_isByNewton_78 rfl (lv_at hl 3 rfl) ?_
            refine lv_aload_n hx hb dL_isByNewton_79 rfl (lv_at hl 1 rfl) ?_
            refine mget X fl_L_13 hP 0 rfl rfl dL_isByNewton_80 ?_
            refine lv_iload hx hb dL_isByNewton_83 (lv_at hl 6 rfl) ?_
            obtain ⟨b13, h⟩ := o_no h
            refine mild X hP 1 rfl b13 dL_isByNewton_85 ?_
            refine lv_isub hx hb dL_isByNewton_86 ?_
            refine lv_i2l (v := Int32.toInt64 (p2 - (o_xs (Int32.toNatClampNeg v6_9)))) hx hb dL_isByNewton_87 rfl ?_
            refine lv_lmul hx hb dL_isByNewton_88 ?_
            refine lv_lstore (lv' := [(7, .long (v6_7 * (Int32.toInt64 (p2 - (o_xs (Int32.toNatClampNeg v6_9)))))), (5, .long (v6_5 + ((r8.2.1 * (r5.1 / r10.2.1)) * v6_7))), (0, .ref q_o), (1, .ref q_p1), (2, .int p2), (3, .long r5.1), (9, .int v6_9)]) hx hb dL_isByNewton_89 hl (by decide) rfl (fun ls hl => ?_)
            refine lv_iinc (v := v6_9 + 1) (lv' := [(9, .int (v6_9 + 1)), (7, .long (v6_7 * (Int32.toInt64 (p2 - (o_xs (Int32.toNatClampNeg v6_9)))))), (5, .long (v6_5 + ((r8.2.1 * (r5.1 / r10.2.1)) * v6_7))), (0, .ref q_o), (1, .ref q_p1), (2, .int p2), (3, .long r5.1)]) hx hb dL_isByNewton_91 hl (k := 6) rfl rfl (by decide) rfl (fun ls hl => ?_)
            refine lv_goto (tgt := 40) hx hb dL_isByNewton_94 (by decide) ?_
            exact ih6 (v6_5 + ((r8.2.1 * (r5.1 / r10.2.1)) * v6_7)) (v6_7 * (Int32.toInt64 (p2 - (o_xs (Int32.toNatClampNeg v6_9))))) (v6_9 + 1) r10.2.2.1 r10.2.2.2 _ h _ _ hP hD hS _ (lv_sub hl [3, 4, 5, 6, 2, 1, 0] rfl) K6_0
          · have h := o_f t11 h
            cases h
        · have h := o_f t9 h
          cases h
  obtain ⟨r14, c14, h⟩ := o_b h
  refine lp6 FU 0 1 0 r5.2.1 r5.2.2 r14 c14 _ _ hP hD hS _ (lv_sub hl [3, 4, 5, 6, 2, 1, 0] rfl) (fun H locs ls hP hD hS hl => ?_)
  refine lv_lload hx hb dL_isByNewton_97 (lv_at hl 3 rfl) ?_
  refine lv_aload_n hx hb dL_isByNewton_99 rfl (lv_at hl 0 rfl) ?_
  refine lv_iload_n hx hb dL_isByNewton_100 rfl (lv_at hl 1 rfl) ?_
  refine lv_iconst (v := 1) hx hb dL_isByNewton_101 (by decide) ?_
  obtain ⟨r15, c15, h⟩ := o_b h
  by_cases t16 : r15.1 = 0
  · have h := o_t t16 h
    refine mcallV X (As := [.int p2, .int 1]) (rest := [.long r14.1]) (ws1 := wL_isByNewton g q_o q_o_xs q_p1 q_p1_answer q_p1_present q_p1_present_nodes q_p1_present_nodes_ws q_p1_present_nodes_xs q_p1_present_nodes_ys q_p1_trial q_p1_trial_denominator q_p1_trial_nodes q_p1_trial_nodes_ws q_p1_trial_nodes_xs q_p1_trial_nodes_ys q_p1_trial_numerator q_p1_trial_order q_p1_trial_product q_p1_trial_sorted q_p1_trial_weights q_o_choices q_o_ys q_o_ws q_p1_text q_p1_history q_p1_output q_p1_best q_p1_present_order q_p1_present_sorted q_p1_present_weights q_p1_present_numerator q_p1_present_denominator q_p1_present_product o_at o_n o_xs r15.2.2.2.1 r15.2.2.1 p1_present_nodes_count p1_present_nodes_mode p1_present_nodes_degree p1_present_nodes_ws p1_present_nodes_xs p1_present_nodes_ys r15.2.2.2.2.1 r15.2.2.2.2.2.1 r15.2.2.2.2.2.2.2.1 r15.2.2.2.2.2.2.1 r15.2.2.2.2.2.2.2.2.1 r15.2.2.2.2.2.2.2.2.2.1 r15.2.2.2.2.2.2.2.2.2.2.1 r15.2.2.2.2.2.2.2.2.2.2.2.1 r15.2.2.2.2.2.2.2.2.2.2.2.2.1 r15.2.2.2.2.2.2.2.2.2.2.2.2.2.1 r15.2.2.2.2.2.2.2.2.2.2.2.2.2.2.1 r15.2.2.2.2.2.2.2.2.2.2.2.2.2.2.2) (st1 := [.long r15.2.1, .long r14.1]) (nX6_plainValue D g x l q_p1 q_p1_answer q_p1_present q_p1_present_nodes q_p1_present_nodes_ws q_p1_present_nodes_xs q_p1_present_nodes_ys q_p1_trial q_p1_trial_denominator q_p1_trial_nodes q_p1_trial_nodes_ws q_p1_trial_nodes_xs q_p1_trial_nodes_ys q_p1_trial_numerator q_p1_trial_order q_p1_trial_product q_p1_trial_sorted q_p1_trial_weights q_p1_text q_p1_history q_p1_output q_p1_best q_p1_present_order q_p1_present_sorted q_p1_present_weights q_p1_present_numerator q_p1_present_denominator q_p1_present_product r14.2.2 r14.2.1 p1_present_nodes_count p1_present_nodes_mode p1_present_nodes_degree p1_present_nodes_ws p1_present_nodes_xs p1_present_nodes_ys p1_trial_denominator p1_trial_nodes_count p1_trial_nodes_mode p1_trial_nodes_degree p1_trial_nodes_ws p1_trial_nodes_xs p1_trial_nodes_ys p1_trial_numerator p1_trial_order p1_trial_product p1_trial_sorted p1_trial_weights p2 1 r15 c15 t16) mw_X6_plainValue ml_L_175 ⟨Nat.le_of_ble_eq_true rfl, Nat.le_of_ble_eq_true rfl⟩ hP hD hS [2, 3, 4, 5, 6, 7, 8, 9, 10, 11, 12, 13, 14, 15, 16, 17, 18, 19] (by decide +kernel) rfl rfl 2 rfl rfl rfl hl.1 rfl (Nat.le_of_ble_eq_true rfl) dL_isByNewton_102 ⟨Nat.le_refl _, Nat.le_refl _⟩ rfl rfl (fun H locs hP hD hS => ?_)
    refine lv_lmul hx hb dL_isByNewton_105 ?_
    refine lv_lload_n hx hb dL_isByNewton_106 rfl (lv_at hl 2 rfl) ?_
    refine lv_aload_n hx hb dL_isByNewton_107 rfl (lv_at hl 0 rfl) ?_
    refine lv_iload_n hx hb dL_isByNewton_108 rfl (lv_at hl 1 rfl) ?_
    refine lv_iconst (v := 0) hx hb dL_isByNewton_109 (by decide) ?_
    obtain ⟨r17, c17, h⟩ := o_b h
    by_cases t18 : r17.1 = 0
    · have h := o_t t18 h
      refine mcallV X (As := [.int p2, .int 0]) (rest := [.long r5.1, .long (r14.1 * r15.2.1)]) (ws1 := wL_isByNewton g q_o q_o_xs q_p1 q_p1_answer q_p1_present q_p1_present_nodes q_p1_present_nodes_ws q_p1_present_nodes_xs q_p1_present_nodes_ys q_p1_trial q_p1_trial_denominator q_p1_trial_nodes q_p1_trial_nodes_ws q_p1_trial_nodes_xs q_p1_trial_nodes_ys q_p1_trial_numerator q_p1_trial_order q_p1_trial_product q_p1_trial_sorted q_p1_trial_weights q_o_choices q_o_ys q_o_ws q_p1_text q_p1_history q_p1_output q_p1_best q_p1_present_order q_p1_present_sorted q_p1_present_weights q_p1_present_numerator q_p1_present_denominator q_p1_present_product o_at o_n o_xs r17.2.2.2.1 r17.2.2.1 p1_present_nodes_count p1_present_nodes_mode p1_present_nodes_degree p1_present_nodes_ws p1_present_nodes_xs p1_present_nodes_ys r17.2.2.2.2.1 r17.2.2.2.2.2.1 r17.2.2.2.2.2.2.2.1 r17.2.2.2.2.2.2.1 r17.2.2.2.2.2.2.2.2.1 r17.2.2.2.2.2.2.2.2.2.1 r17.2.2.2.2.2.2.2.2.2.2.1 r17.2.2.2.2.2.2.2.2.2.2.2.1 r17.2.2.2.2.2.2.2.2.2.2.2.2.1 r17.2.2.2.2.2.2.2.2.2.2.2.2.2.1 r17.2.2.2.2.2.2.2.2.2.2.2.2.2.2.1 r17.2.2.2.2.2.2.2.2.2.2.2.2.2.2.2) (st1 := [.long r17.2.1, .long r5.1, .long (r14.1 * r15.2.1)]) (nX6_plainValue D g x l q_p1 q_p1_answer q_p1_present q_p1_present_nodes q_p1_present_nodes_ws q_p1_present_nodes_xs q_p1_present_nodes_ys q_p1_trial q_p1_trial_denominator q_p1_trial_nodes q_p1_trial_nodes_ws q_p1_trial_nodes_xs q_p1_trial_nodes_ys q_p1_trial_numerator q_p1_trial_order q_p1_trial_product q_p1_trial_sorted q_p1_trial_weights q_p1_text q_p1_history q_p1_output q_p1_best q_p1_present_order q_p1_present_sorted q_p1_present_weights q_p1_present_numerator q_p1_present_denominator q_p1_present_product r15.2.2.2.1 r15.2.2.1 p1_present_nodes_count p1_present_nodes_mode p1_present_nodes_degree p1_present_nodes_ws p1_present_nodes_xs p1_present_nodes_ys r15.2.2.2.2.1 r15.2.2.2.2.2.1 r15.2.2.2.2.2.2.2.1 r15.2.2.2.2.2.2.1 r15.2.2.2.2.2.2.2.2.1 r15.2.2.2.2.2.2.2.2.2.1 r15.2.2.2.2.2.2.2.2.2.2.1 r15.2.2.2.2.2.2.2.2.2.2.2.1 r15.2.2.2.2.2.2.2.2.2.2.2.2.1 r15.2.2.2.2.2.2.2.2.2.2.2.2.2.1 r15.2.2.2.2.2.2.2.2.2.2.2.2.2.2.1 r15.2.2.2.2.2.2.2.2.2.2.2.2.2.2.2 p2 0 r17 c17 t18) mw_X6_plainValue ml_L_175 ⟨Nat.le_of_ble_eq_true rfl, Nat.le_of_ble_eq_true rfl⟩ hP hD hS [2, 3, 4, 5, 6, 7, 8, 9, 10, 11, 12, 13, 14, 15, 16, 17, 18, 19] (by decide +kernel) rfl rfl 2 rfl rfl rfl hl.1 rfl (Nat.le_of_ble_eq_true rfl) dL_isByNewton_110 ⟨Nat.le_refl _, Nat.le_refl _⟩ rfl rfl (fun H locs hP hD hS => ?_)
      refine lv_lmul hx hb dL_isByNewton_113 ?_
      refine W.lcmp hx hb dL_isByNewton_114 ?_
      refine lv_if_ne (tgt := 122) hx hb dL_isByNewton_115 (by decide) (fun b19 => ?_) (fun b19 => ?_)
      · have b19 := mt (lg_cmp_eq _ _).mpr b19
        have h := o_f b19 h
        refine lv_iconst (v := 0) hx hb dL_isByNewton_122 (by decide) ?_
        cases h
        exact fin _ _ _ _ (nar_z (Or.inl rfl)) hP hS dL_isByNewton_123
      · have b19 := (lg_cmp_eq _ _).mp b19
        have h := o_t b19 h
        refine lv_iconst (v := 1) hx hb dL_isByNewton_118 (by decide) ?_
        refine lv_goto (tgt := 123) hx hb dL_isByNewton_119 (by decide) ?_
        cases h
        exact fin _ _ _ _ (nar_z (Or.inr rfl)) hP hS dL_isByNewton_123
    · have h := o_f t18 h
      cases h
  · have h := o_f t16 h
    cases h
abbrev wL_areInProportion (g : Nat → ClassId) (q_o q_o_ws q_p1 q_p1_present q_p1_present_nodes q_p1_present_nodes_ws q_p1_present_nodes_xs q_p1_present_nodes_ys q_p1_present_weights q_o_choices q_o_xs q_o_ys q_p1_text q_p1_trial q_p1_history q_p1_output q_p1_answer q_p1_best q_p1_present_order q_p1_present_sorted q_p1_present_numerator q_p1_present_denominator q_p1_present_product : Nat)  (o_at : Int32) (o_n : Int32) (o_ws : Nat → Int32) (p1_present_nodes_count : Int32) (p1_present_nodes_mode : Int32) (p1_present_nodes_degree : Int32) (p1_present_nodes_ws : Nat → Int32) (p1_present_nodes_xs : Nat → Int32) (p1_present_nodes_ys : Nat → Int32) (p1_present_weights : Nat → Int64) : va_W := [(q_o, .inr (9, [.ref q_o_choices, .int o_at, .int o_n, .ref q_o_xs, .ref q_o_ys, .ref q_o_ws])), (q_o_ws, .inl (g 0, 5, .inl o_ws)), (q_p1, .inr (6, [.ref q_p1_text, .ref q_p1_present, .ref q_p1_trial, .ref q_p1_history, .ref q_p1_output, .ref q_p1_answer, .ref q_p1_best])), (q_p1_present, .inr (0, [.ref q_p1_present_nodes, .ref q_p1_present_order, .ref q_p1_present_sorted, .ref q_p1_present_weights, .ref q_p1_present_numerator, .ref q_p1_present_denominator, .ref q_p1_present_product])), (q_p1_present_nodes, .inr (3, [.ref q_p1_present_nodes_xs, .ref q_p1_present_nodes_ys, .ref q_p1_present_nodes_ws, .int p1_present_nodes_count, .int p1_present_nodes_mode, .int p1_present_nodes_degree])), (q_p1_present_nodes_ws, .inl (g 0, 5, .inl p1_present_nodes_ws)), (q_p1_present_nodes_xs, .inl (g 0, 5, .inl p1_present_nodes_xs)), (q_p1_present_nodes_ys, .inl (g 0, 5, .inl p1_present_nodes_ys)), (q_p1_present_weights, .inl (g 1, 5, .inr (.inl p1_present_weights)))]
set_option maxHeartbeats 4000000 in
set_option maxRecDepth 100000 in
theorem kL_areInProportion (D : va_G) (g : Nat → ClassId) (x : Xd) (l : Launch) (q_o q_o_ws q_p1 q_p1_present q_p1_present_nodes q_p1_present_nodes_ws q_p1_present_nodes_xs q_p1_present_nodes_ys q_p1_present_weights q_o_choices q_o_xs q_o_ys q_p1_text q_p1_trial q_p1_history q_p1_output q_p1_answer q_p1_best q_p1_present_order q_p1_present_sorted q_p1_present_numerator q_p1_present_denominator q_p1_present_product : Nat)  (o_at : Int32) (o_n : Int32) (o_ws : Nat → Int32) (p1_present_nodes_count : Int32) (p1_present_nodes_mode : Int32) (p1_present_nodes_degree : Int32) (p1_present_nodes_ws : Nat → Int32) (p1_present_nodes_xs : Nat → Int32) (p1_present_nodes_ys : Nat → Int32) (p1_present_weights : Nat → Int64) (R : Int32) (h : mL_areInProportion o_n o_ws p1_present_nodes_count p1_present_nodes_ws p1_present_nodes_xs p1_present_nodes_ys p1_present_weights = some R) : Cn D g x l yL_areInProportion cL_areInProportion 7 (some .boolean) 3 66 [.ref q_o, .ref q_p1] (wL_areInProportion g q_o q_o_ws q_p1 q_p1_present q_p1_present_nodes q_p1_present_nodes_ws q_p1_present_nodes_xs q_p1_present_nodes_ys q_p1_present_weights q_o_choices q_o_xs q_o_ys q_p1_text q_p1_trial q_p1_history q_p1_output q_p1_answer q_p1_best q_p1_present_order q_p1_present_sorted q_p1_present_numerator q_p1_present_denominator q_p1_present_product o_at o_n o_ws p1_present_nodes_count p1_present_nodes_mode p1_present_nodes_degree p1_present_nodes_ws p1_present_nodes_xs p1_present_nodes_ys p1_present_weights) (wL_areInProportion g q_o q_o_ws q_p1 q_p1_present q_p1_present_nodes q_p1_present_nodes_ws q_p1_present_nodes_xs q_p1_present_nodes_ys q_p1_present_weights q_o_choices q_o_xs q_o_ys q_p1_text q_p1_trial q_p1_history q_p1_output q_p1_answer q_p1_best q_p1_present_order q_p1_present_sorted q_p1_present_numerator q_p1_present_denominator q_p1_present_product o_at o_n o_ws p1_present_nodes_count p1_present_nodes_mode p1_present_nodes_degree p1_present_nodes_ws p1_present_nodes_xs p1_present_nodes_ys p1_present_weights) (some (.int R)) := by
  refine CnI (by decide +kernel) (Nat.le_of_ble_eq_true rfl) (fun p e s m args below meth c A Q ls X hD hP hS fin hl => ?_)
  obtain ⟨hx, hb, hml, -, -, hown, hts, hK, hA, hE⟩ := id X
  unfold mL_areInProportion at h
  have hl : lv_has ls 7 [(0, .ref q_o), (1, .ref q_p1)] := hl
  refine lv_iconst (v := 0) hx hb dL_areInProportion_0 (by decide) ?_
  refine lv_istore_n (lv' := [(2, .int 0), (0, .ref q_o), (1, .ref q_p1)]) hx hb dL_areInProportion_1 rfl hl (by decide) rfl (fun ls hl => ?_)
  refine lv_iconst (v := 0) hx hb dL_areInProportion_2 (by decide) ?_
  refine lv_istore_n (lv' := [(3, .int 0), (2, .int 0), (0, .ref q_o), (1, .ref q_p1)]) hx hb dL_areInProportion_3 rfl hl (by decide) rfl (fun ls hl => ?_)
  have lp1 : ∀ (n : Nat) (v1_2 : Int32) (v1_3 : Int32) (R1 : Int32) (h : lL_areInProportion_4 o_n o_ws n v1_2 v1_3 = some R1) (H : Heap) (locs : List Loc), va_P D vwCl (wL_areInProportion g q_o q_o_ws q_p1 q_p1_present q_p1_present_nodes q_p1_present_nodes_ws q_p1_present_nodes_xs q_p1_present_nodes_ys q_p1_present_weights q_o_choices q_o_xs q_o_ys q_p1_text q_p1_trial q_p1_history q_p1_output q_p1_answer q_p1_best q_p1_present_order q_p1_present_sorted q_p1_present_numerator q_p1_present_denominator q_p1_present_product o_at o_n o_ws p1_present_nodes_count p1_present_nodes_mode p1_present_nodes_degree p1_present_nodes_ws p1_present_nodes_xs p1_present_nodes_ys p1_present_weights) H → va_D A (wL_areInProportion g q_o q_o_ws q_p1 q_p1_present q_p1_present_nodes q_p1_present_nodes_ws q_p1_present_nodes_xs q_p1_present_nodes_ys q_p1_present_weights q_o_choices q_o_xs q_o_ys q_p1_text q_p1_trial q_p1_history q_p1_output q_p1_answer q_p1_best q_p1_present_order q_p1_present_sorted q_p1_present_numerator q_p1_present_denominator q_p1_present_product o_at o_n o_ws p1_present_nodes_count p1_present_nodes_mode p1_present_nodes_degree p1_present_nodes_ws p1_present_nodes_xs p1_present_nodes_ys p1_present_weights) → va_S A s.heap H locs → ∀ (ls : Array Slot), lv_has ls 7 [(0, .ref q_o), (1, .ref q_p1), (2, .int v1_2), (3, .int v1_3)] → (∀ (H : Heap) (locs : List Loc) (ls : Array Slot), va_P D vwCl (wL_areInProportion g q_o q_o_ws q_p1 q_p1_present q_p1_present_nodes q_p1_present_nodes_ws q_p1_present_nodes_xs q_p1_present_nodes_ys q_p1_present_weights q_o_choices q_o_xs q_o_ys q_p1_text q_p1_trial q_p1_history q_p1_output q_p1_answer q_p1_best q_p1_present_order q_p1_present_sorted q_p1_present_numerator q_p1_present_denominator q_p1_present_product o_at o_n o_ws p1_present_nodes_count p1_present_nodes_mode p1_present_nodes_degree p1_present_nodes_ws p1_present_nodes_xs p1_present_nodes_ys p1_present_weights) H → va_D A (wL_areInProportion g q_o q_o_ws q_p1 q_p1_present q_p1_present_nodes q_p1_present_nodes_ws q_p1_present_nodes_xs q_p1_present_nodes_ys q_p1_present_weights q_o_choices q_o_xs q_o_ys q_p1_text q_p1_trial q_p1_history q_p1_output q_p1_answer q_p1_best q_p1_present_order q_p1_present_sorted q_p1_present_numerator q_p1_present_denominator q_p1_present_product o_at o_n o_ws p1_present_nodes_count p1_present_nodes_mode p1_present_nodes_degree p1_present_nodes_ws p1_present_nodes_xs p1_present_nodes_ys p1_present_weights) → va_S A s.heap H locs → lv_has ls 7 [(0, .ref q_o), (1, .ref q_p1), (2, .int R1)] → W p l e (rmF 3 66) s m args below meth c H locs 0 0 Q (F0 m 58 ls [])) → W p l e (rmF 3 66) s m args below meth c H locs 0 0 Q (F0 m 4 ls []) := by
    intro n
    induction n with
    | zero =>
      intro v1_2 v1_3 R1 h
      have h : none = some R1 := h
      cases h
    | succ n ih1 =>
      intro v1_2 v1_3 R1 h H locs hP hD hS ls hl K1_0
      have h : (if o_n ≤ v1_3 then some v1_2 else if v1_3 < 0 ∨ 5 ≤ Int32.toNatClampNeg v1_3 then none else (lL_areInProportion_26 FU v1_2 (mabsi_v (o_ws (Int32.toNatClampNeg v1_3)))).bind fun r7 => lL_areInProportion_4 o_n o_ws n r7 (v1_3 + 1) : Option (Int32)) = some R1 := h
      refine lv_iload_n hx hb dL_areInProportion_4 rfl (lv_at hl 3 rfl) ?_
      refine lv_aload_n hx hb dL_areInProportion_5 rfl (lv_at hl 0 rfl) ?_
      refine mget X fl_L_64 hP 0 rfl rfl dL_areInProportion_6 ?_
      refine lv_icmp_ge (tgt := 58) hx hb dL_areInProportion_9 (by decide) (fun b2 => ?_) (fun b2 => ?_)
      · have h := o_t b2 h
        cases h
        exact K1_0  _ _ _ hP hD hS (lv_sub hl [0, 1, 2] rfl)
      · have h := o_f b2 h
        refine lv_iload_n hx hb dL_areInProportion_12 rfl (lv_at hl 2 rfl) ?_
        refine lv_istore (lv' := [(4, .int v1_2), (0, .ref q_o), (1, .ref q_p1), (2, .int v1_2), (3, .int v1_3)]) hx hb dL_areInProportion_13 hl (by decide) rfl (fun ls hl => ?_)
        refine lv_aload_n hx hb dL_areInProportion_15 rfl (lv_at hl 1 rfl) ?_
        refine mget X fl_L_19 hP 0 rfl rfl dL_areInProportion_16 ?_
        refine lv_iload_n hx hb dL_areInProportion_19 rfl (lv_at hl 4 rfl) ?_
        obtain ⟨b3, h⟩ := o_no h
        refine mild X hP 1 rfl b3 dL_areInProportion_20 ?_
        refine mabsi X ml_L_185 hl.1 (Nat.le_of_ble_eq_true rfl) (Nat.le_of_ble_eq_true rfl) dL_areInProportion_21 ?_
        refine lv_istore (lv' := [(5, .int (mabsi_v (o_ws (Int32.toNatClampNeg v1_3)))), (4, .int v1_2), (0, .ref q_o), (1, .ref q_p1), (2, .int v1_2), (3, .int v1_3)]) hx hb dL_areInProportion_24 hl (by decide) rfl (fun ls hl => ?_)
        have lp4 : ∀ (n : Nat) (v4_4 : Int32) (v4_5 : Int32) (R4 : Int32) (h : lL_areInProportion_26 n v4_4 v4_5 = some R4) (H : Heap) (locs : List Loc), va_P D vwCl (wL_areInProportion g q_o q_o_ws q_p1 q_p1_present q_p1_present_nodes q_p1_present_nodes_ws q_p1_present_nodes_xs q_p1_present_nodes_ys q_p1_present_weights q_o_choices q_o_xs q_o_ys q_p1_text q_p1_trial q_p1_history q_p1_output q_p1_answer q_p1_best q_p1_present_order q_p1_present_sorted q_p1_present_numerator q_p1_present_denominator q_p1_present_product o_at o_n o_ws p1_present_nodes_count p1_present_nodes_mode p1_present_nodes_degree p1_present_nodes_ws p1_present_nodes_xs p1_present_nodes_ys p1_present_weights) H → va_D A (wL_areInProportion g q_o q_o_ws q_p1 q_p1_present q_p1_present_nodes q_p1_present_nodes_ws q_p1_present_nodes_xs q_p1_present_nodes_ys q_p1_present_weights q_o_choices q_o_xs q_o_ys q_p1_text q_p1_trial q_p1_history q_p1_output q_p1_answer q_p1_best q_p1_present_order q_p1_present_sorted q_p1_present_numerator q_p1_present_denominator q_p1_present_product o_at o_n o_ws p1_present_nodes_count p1_present_nodes_mode p1_present_nodes_degree p1_present_nodes_ws p1_present_nodes_xs p1_present_nodes_ys p1_present_weights) → va_S A s.heap H locs → ∀ (ls : Array Slot), lv_has ls 7 [(0, .ref q_o), (1, .ref q_p1), (3, .int v1_3), (4, .int v4_4), (5, .int v4_5)] → (∀ (H : Heap) (locs : List Loc) (ls : Array Slot), va_P D vwCl (wL_areInProportion g q_o q_o_ws q_p1 q_p1_present q_p1_present_nodes q_p1_present_nodes_ws q_p1_present_nodes_xs q_p1_present_nodes_ys q_p1_present_weights q_o_choices q_o_xs q_o_ys q_p1_text q_p1_trial q_p1_history q_p1_output q_p1_answer q_p1_best q_p1_present_order q_p1_present_sorted q_p1_present_numerator q_p1_present_denominator q_p1_present_product o_at o_n o_ws p1_present_nodes_count p1_present_nodes_mode p1_present_nodes_degree p1_present_nodes_ws p1_present_nodes_xs p1_present_nodes_ys p1_present_weights) H → va_D A (wL_areInProportion g q_o q_o_ws q_p1 q_p1_present q_p1_present_nodes q_p1_present_nodes_ws q_p1_present_nodes_xs q_p1_present_nodes_ys q_p1_present_weights q_o_choices q_o_xs q_o_ys q_p1_text q_p1_trial q_p1_history q_p1_output q_p1_answer q_p1_best q_p1_present_order q_p1_present_sorted q_p1_present_numerator q_p1_present_denominator q_p1_present_product o_at o_n o_ws p1_present_nodes_count p1_present_nodes_mode p1_present_nodes_degree p1_present_nodes_ws p1_present_nodes_xs p1_present_nodes_ys p1_present_weights) → va_S A s.heap H locs → lv_has ls 7 [(0, .ref q_o), (1, .ref q_p1), (3, .int v1_3), (4, .int R4)] → W p l e (rmF 3 66) s m args below meth c H locs 0 0 Q (F0 m 49 ls [])) → W p l e (rmF 3 66) s m args below meth c H locs 0 0 Q (F0 m 26 ls []) := by
          intro n
          induction n with
          | zero =>
            intro v4_4 v4_5 R4 h
            have h : none = some R4 := h
            cases h
          | succ n ih4 =>
            intro v4_4 v4_5 R4 h H locs hP hD hS ls hl K4_0
            have h : (if v4_5 ≤ 0 then some v4_4 else if v4_5 = 0 then none else lL_areInProportion_26 n v4_5 (v4_4 - v4_4 / v4_5 * v4_5) : Option (Int32)) = some R4 := h
            refine lv_iload hx hb dL_areInProportion_26 (lv_at hl 4 rfl) ?_
            refine lv_if_le (tgt := 49) hx hb dL_areInProportion_28 (by decide) (fun b5 => ?_) (fun b5 => ?_)
            · have h := o_t b5 h
              cases h
              exact K4_0  _ _ _ hP hD hS (lv_sub hl [0, 1, 2, 3] rfl)
            · have h := o_f b5 h
              refine lv_iload hx hb dL_areInProportion_31 (lv_at hl 3 rfl) ?_
              refine lv_iload hx hb dL_areInProportion_33 (lv_at hl 4 rfl) ?_
              obtain ⟨b6, h⟩ := o_no h
              refine lv_irem (x := v4_4) (y := v4_5) hx hb dL_areInProportion_35 b6 ?_
              refine lv_istore (lv' := [(6, .int (v4_4 - v4_4 / v4_5 * v4_5)), (0, .ref q_o), (1, .ref q_p1), (3, .int v1_3), (4, .int v4_4), (5, .int v4_5)]) hx hb dL_areInProportion_36 hl (by decide) rfl (fun ls hl => ?_)
              refine lv_iload hx hb dL_areInProportion_38 (lv_at hl 5 rfl) ?_
              refine lv_istore (lv' := [(4, .int v4_5), (6, .int (v4_4 - v4_4 / v4_5 * v4_5)), (0, .ref q_o), (1, .ref q_p1), (3, .int v1_3), (5, .int v4_5)]) hx hb dL_areInProportion_40 hl (by decide) rfl (fun ls hl => ?_)
              refine lv_iload hx hb dL_areInProportion_42 (lv_at hl 1 rfl) ?_
              refine lv_istore (lv' := [(5, .int (v4_4 - v4_4 / v4_5 * v4_5)), (4, .int v4_5), (6, .int (v4_4 - v4_4 / v4_5 * v4_5)), (0, .ref q_o), (1, .ref q_p1), (3, .int v1_3)]) hx hb dL_areInProportion_44 hl (by decide) rfl (fun ls hl => ?_)
              refine lv_goto (tgt := 26) hx hb dL_areInProportion_46 (by decide) ?_
              exact ih4 v4_5 (v4_4 - v4_4 / v4_5 * v4_5) _ h _ _ hP hD hS _ (lv_sub hl [3, 4, 5, 1, 0] rfl) K4_0
        obtain ⟨r7, c7, h⟩ := o_b h
        refine lp4 FU v1_2 (mabsi_v (o_ws (Int32.toNatClampNeg v1_3))) r7 c7 _ _ hP hD hS _ (lv_sub hl [2, 3, 5, 1, 0] rfl) (fun H locs ls hP hD hS hl => ?_)
        refine lv_iload hx hb dL_areInProportion_49 (lv_at hl 3 rfl) ?_
        refine lv_istore_n (lv' := [(2, .int r7), (0, .ref q_o), (1, .ref q_p1), (3, .int v1_3), (4, .int r7)]) hx hb dL_areInProportion_51 rfl hl (by decide) rfl (fun ls hl => ?_)
        refine lv_iinc (v := v1_3 + 1) (lv' := [(3, .int (v1_3 + 1)), (2, .int r7), (0, .ref q_o), (1, .ref q_p1), (4, .int r7)]) hx hb dL_areInProportion_52 hl (k := 3) rfl rfl (by decide) rfl (fun ls hl => ?_)
        refine lv_goto (tgt := 4) hx hb dL_areInProportion_55 (by decide) ?_
        exact ih1 r7 (v1_3 + 1) _ h _ _ hP hD hS _ (lv_sub hl [2, 3, 1, 0] rfl) K1_0
  obtain ⟨r8, c8, h⟩ := o_b h
  refine lp1 FU 0 0 r8 c8 _ _ hP hD hS _ (lv_sub hl [2, 3, 1, 0] rfl) (fun H locs ls hP hD hS hl => ?_)
  refine lv_iconst (v := 0) hx hb dL_areInProportion_58 (by decide) ?_
  refine lv_istore_n (lv' := [(3, .int 0), (0, .ref q_o), (1, .ref q_p1), (2, .int r8)]) hx hb dL_areInProportion_59 rfl hl (by decide) rfl (fun ls hl => ?_)
  have lp9 : ∀ (n : Nat) (v9_3 : Int32) (R9 : Nat) (h : lL_areInProportion_60 r8 o_n o_ws p1_present_nodes_count p1_present_nodes_ws p1_present_nodes_xs p1_present_nodes_ys p1_present_weights n v9_3 = some R9) (H : Heap) (locs : List Loc), va_P D vwCl (wL_areInProportion g q_o q_o_ws q_p1 q_p1_present q_p1_present_nodes q_p1_present_nodes_ws q_p1_present_nodes_xs q_p1_present_nodes_ys q_p1_present_weights q_o_choices q_o_xs q_o_ys q_p1_text q_p1_trial q_p1_history q_p1_output q_p1_answer q_p1_best q_p1_present_order q_p1_present_sorted q_p1_present_numerator q_p1_present_denominator q_p1_present_product o_at o_n o_ws p1_present_nodes_count p1_present_nodes_mode p1_present_nodes_degree p1_present_nodes_ws p1_present_nodes_xs p1_present_nodes_ys p1_present_weights) H → va_D A (wL_areInProportion g q_o q_o_ws q_p1 q_p1_present q_p1_present_nodes q_p1_present_nodes_ws q_p1_present_nodes_xs q_p1_present_nodes_ys q_p1_present_weights q_o_choices q_o_xs q_o_ys q_p1_text q_p1_trial q_p1_history q_p1_output q_p1_answer q_p1_best q_p1_present_order q_p1_present_sorted q_p1_present_numerator q_p1_present_denominator q_p1_present_product o_at o_n o_ws p1_present_nodes_count p1_present_nodes_mode p1_present_nodes_degree p1_present_nodes_ws p1_present_nodes_xs p1_present_nodes_ys p1_present_weights) → va_S A s.heap H locs → ∀ (ls : Array Slot), lv_has ls 7 [(0, .ref q_o), (1, .ref q_p1), (2, .int r8), (3, .int v9_3)] → (R9 = 0 → ∀ (H : Heap) (locs : List Loc) (ls : Array Slot), va_P D vwCl (wL_areInProportion g q_o q_o_ws q_p1 q_p1_present q_p1_present_nodes q_p1_present_nodes_ws q_p1_present_nodes_xs q_p1_present_nodes_ys q_p1_present_weights q_o_choices q_o_xs q_o_ys q_p1_text q_p1_trial q_p1_history q_p1_output q_p1_answer q_p1_best q_p1_present_order q_p1_present_sorted q_p1_present_numerator q_p1_present_denominator q_p1_present_product o_at o_n o_ws p1_present_nodes_count p1_present_nodes_mode p1_present_nodes_degree p1_present_nodes_ws p1_present_nodes_xs p1_present_nodes_ys p1_present_weights) H → va_D A (wL_areInProportion g q_o q_o_ws q_p1 q_p1_present q_p1_present_nodes q_p1_present_nodes_ws q_p1_present_nodes_xs q_p1_present_nodes_ys q_p1_present_weights q_o_choices q_o_xs q_o_ys q_p1_text q_p1_trial q_p1_history q_p1_output q_p1_answer q_p1_best q_p1_present_order q_p1_present_sorted q_p1_present_numerator q_p1_present_denominator q_p1_present_product o_at o_n o_ws p1_present_nodes_count p1_present_nodes_mode p1_present_nodes_degree p1_present_nodes_ws p1_present_nodes_xs p1_present_nodes_ys p1_present_weights) → va_S A s.heap H locs → lv_has ls 7 [] → W p l e (rmF 3 66) s m args below meth c H locs 0 0 Q (F0 m 102 ls [])) → (¬ R9 = 0 → ∀ (H : Heap) (locs : List Loc) (ls : Array Slot), va_P D vwCl (wL_areInProportion g q_o q_o_ws q_p1 q_p1_present q_p1_present_nodes q_p1_present_nodes_ws q_p1_present_nodes_xs q_p1_present_nodes_ys q_p1_present_weights q_o_choices q_o_xs q_o_ys q_p1_text q_p1_trial q_p1_history q_p1_output q_p1_answer q_p1_best q_p1_present_order q_p1_present_sorted q_p1_present_numerator q_p1_present_denominator q_p1_present_product o_at o_n o_ws p1_present_nodes_count p1_present_nodes_mode p1_present_nodes_degree p1_present_nodes_ws p1_present_nodes_xs p1_present_nodes_ys p1_present_weights) H → va_D A (wL_areInProportion g q_o q_o_ws q_p1 q_p1_present q_p1_present_nodes q_p1_present_nodes_ws q_p1_present_nodes_xs q_p1_present_nodes_ys q_p1_present_weights q_o_choices q_o_xs q_o_ys q_p1_text q_p1_trial q_p1_history q_p1_output q_p1_answer q_p1_best q_p1_present_order q_p1_present_sorted q_p1_present_numerator q_p1_present_denominator q_p1_present_product o_at o_n o_ws p1_present_nodes_count p1_present_nodes_mode p1_present_nodes_degree p1_present_nodes_ws p1_present_nodes_xs p1_present_nodes_ys p1_present_weights) → va_S A s.heap H locs → lv_has ls 7 [(1, .ref q_p1), (2, .int r8)] → W p l e (rmF 3 66) s m args below meth c H locs 0 0 Q (F0 m 110 ls [])) → W p l e (rmF 3 66) s m args below meth c H locs 0 0 Q (F0 m 60 ls []) := by
    intro n
    induction n with
    | zero =>
      intro v9_3 R9 h
      have h : none = some R9 := h
      cases h
    | succ n ih9 =>
      intro v9_3 R9 h H locs hP hD hS ls hl K9_0 K9_1
      have h : (if o_n ≤ v9_3 then some (1 : Nat) else (mX6_weight p1_present_nodes_count p1_present_weights v9_3).bind fun r11 => if r11.1 = 0 then if v9_3 < 0 ∨ 5 ≤ Int32.toNatClampNeg v9_3 then none else if (r11.2 * (Int32.toInt64 r8)) = (Int32.toInt64 (o_ws (Int32.toNatClampNeg v9_3))) then (mX6_point p1_present_nodes_count p1_present_nodes_ws p1_present_nodes_xs p1_present_nodes_ys v9_3 2).bind fun r15 => if r15.1 = 0 then if v9_3 < 0 ∨ 5 ≤ Int32.toNatClampNeg v9_3 then none else if r15.2 = (o_ws (Int32.toNatClampNeg v9_3)) then lL_areInProportion_60 r8 o_n o_ws p1_present_nodes_count p1_present_nodes_ws p1_present_nodes_xs p1_present_nodes_ys p1_present_weights n (v9_3 + 1) else some (0 : Nat) else none else some (0 : Nat) else none : Option (Nat)) = some R9 := h
      refine lv_iload_n hx hb dL_areInProportion_60 rfl (lv_at hl 3 rfl) ?_
      refine lv_aload_n hx hb dL_areInProportion_61 rfl (lv_at hl 0 rfl) ?_
      refine mget X fl_L_64 hP 0 rfl rfl dL_areInProportion_62 ?_
      refine lv_icmp_ge (tgt := 110) hx hb dL_areInProportion_65 (by decide) (fun b10 => ?_) (fun b10 => ?_)
      · have h := o_t b10 h
        cases h
        exact K9_1 (show ¬ (1 : Nat) = 0 from by decide) _ _ _ hP hD hS (lv_sub hl [1, 2] rfl)
      · have h := o_f b10 h
        refine lv_aload_n hx hb dL_areInProportion_68 rfl (lv_at hl 1 rfl) ?_
        refine lv_iload_n hx hb dL_areInProportion_69 rfl (lv_at hl 3 rfl) ?_
        obtain ⟨r11, c11, h⟩ := o_b h
        by_cases t12 : r11.1 = 0
        · have h := o_t t12 h
          refine mcallV X (As := [.int v9_3]) (rest := []) (ws1 := wL_areInProportion g q_o q_o_ws q_p1 q_p1_present q_p1_present_nodes q_p1_present_nodes_ws q_p1_present_nodes_xs q_p1_present_nodes_ys q_p1_present_weights q_o_choices q_o_xs q_o_ys q_p1_text q_p1_trial q_p1_history q_p1_output q_p1_answer q_p1_best q_p1_present_order q_p1_present_sorted q_p1_present_numerator q_p1_present_denominator q_p1_present_product o_at o_n o_ws p1_present_nodes_count p1_present_nodes_mode p1_present_nodes_degree p1_present_nodes_ws p1_present_nodes_xs p1_present_nodes_ys p1_present_weights) (st1 := [.long r11.2]) (nX6_weight D g x l q_p1 q_p1_present q_p1_present_nodes q_p1_present_weights q_p1_text q_p1_trial q_p1_history q_p1_output q_p1_answer q_p1_best q_p1_present_order q_p1_present_sorted q_p1_present_numerator q_p1_present_denominator q_p1_present_product q_p1_present_nodes_xs q_p1_present_nodes_ys q_p1_present_nodes_ws p1_present_nodes_count p1_present_nodes_mode p1_present_nodes_degree p1_present_weights v9_3 r11 c11 t12) mw_X6_weight ml_L_190 ⟨Nat.le_of_ble_eq_true rfl, Nat.le_of_ble_eq_true rfl⟩ hP hD hS [2, 3, 4, 8] (by decide +kernel) rfl rfl 2 rfl rfl rfl hl.1 rfl (Nat.le_of_ble_eq_true rfl) dL_areInProportion_70 ⟨Nat.le_refl _, Nat.le_refl _⟩ rfl rfl (fun H locs hP hD hS => ?_)
          refine lv_iload_n hx hb dL_areInProportion_73 rfl (lv_at hl 2 rfl) ?_
          refine lv_i2l (v := Int32.toInt64 r8) hx hb dL_areInProportion_74 rfl ?_
          refine lv_lmul hx hb dL_areInProportion_75 ?_
          refine lv_aload_n hx hb dL_areInProportion_76 rfl (lv_at hl 0 rfl) ?_
          refine mget X fl_L_19 hP 0 rfl rfl dL_areInProportion_77 ?_
          refine lv_iload_n hx hb dL_areInProportion_80 rfl (lv_at hl 3 rfl) ?_
          obtain ⟨b13, h⟩ := o_no h
          refine mild X hP 1 rfl b13 dL_areInProportion_81 ?_
          refine lv_i2l (v := Int32.toInt64 (o_ws (Int32.toNatClampNeg v9_3))) hx hb dL_areInProportion_82 rfl ?_
          refine W.lcmp hx hb dL_areInProportion_83 ?_
          refine lv_if_ne (tgt := 102) hx hb dL_areInProportion_84 (by decide) (fun b14 => ?_) (fun b14 => ?_)
          · have b14 := mt (lg_cmp_eq _ _).mpr b14
            have h := o_f b14 h
            cases h
            exact K9_0 rfl _ _ _ hP hD hS (lv_sub hl [] rfl)
          · have b14 := (lg_cmp_eq _ _).mp b14
            have h := o_t b14 h
            refine lv_aload_n hx hb dL_areInProportion_87 rfl (lv_at hl 1 rfl) ?_
            refine lv_iload_n hx hb dL_areInProportion_88 rfl (lv_at hl 3 rfl) ?_
            refine lv_iconst (v := 2) hx hb dL_areInProportion_89 (by decide) ?_
            obtain ⟨r15, c15, h⟩ := o_b h
            by_cases t16 : r15.1 = 0
            · have h := o_t t16 h
              refine mcallV X (As := [.int v9_3, .int 2]) (rest := []) (ws1 := wL_areInProportion g q_o q_o_ws q_p1 q_p1_present q_p1_present_nodes q_p1_present_nodes_ws q_p1_present_nodes_xs q_p1_present_nodes_ys q_p1_present_weights q_o_choices q_o_xs q_o_ys q_p1_text q_p1_trial q_p1_history q_p1_output q_p1_answer q_p1_best q_p1_present_order q_p1_present_sorted q_p1_present_numerator q_p1_present_denominator q_p1_present_product o_at o_n o_ws p1_present_nodes_count p1_present_nodes_mode p1_present_nodes_degree p1_present_nodes_ws p1_present_nodes_xs p1_present_nodes_ys p1_present_weights) (st1 := [.int r15.2]) (nX6_point D g x l q_p1 q_p1_present q_p1_present_nodes q_p1_present_nodes_ws q_p1_present_nodes_xs q_p1_present_nodes_ys q_p1_text q_p1_trial q_p1_history q_p1_output q_p1_answer q_p1_best q_p1_present_order q_p1_present_sorted q_p1_present_weights q_p1_present_numerator q_p1_present_denominator q_p1_present_product p1_present_nodes_count p1_present_nodes_mode p1_present_nodes_degree p1_present_nodes_ws p1_present_nodes_xs p1_present_nodes_ys v9_3 2 r15 c15 t16) mw_X6_point ml_L_113 ⟨Nat.le_of_ble_eq_true rfl, Nat.le_of_ble_eq_true rfl⟩ hP hD hS [2, 3, 4, 5, 6, 7] (by decide +kernel) rfl rfl 2 rfl rfl rfl hl.1 rfl (Nat.le_of_ble_eq_true rfl) dL_areInProportion_90 ⟨Nat.le_refl _, Nat.le_refl _⟩ rfl rfl (fun H locs hP hD hS => ?_)
              refine lv_aload_n hx hb dL_areInProportion_93 rfl (lv_at hl 0 rfl) ?_
              refine mget X fl_L_19 hP 0 rfl rfl dL_areInProportion_94 ?_
              refine lv_iload_n hx hb dL_areInProportion_97 rfl (lv_at hl 3 rfl) ?_
              obtain ⟨b17, h⟩ := o_no h
              refine mild X hP 1 rfl b17 dL_areInProportion_98 ?_
              refine lv_icmp_eq (tgt := 104) hx hb dL_areInProportion_99 (by decide) (fun b18 => ?_) (fun b18 => ?_)
              · have h := o_t b18 h
                refine lv_iinc (v := v9_3 + 1) (lv' := [(3, .int (v9_3 + 1)), (0, .ref q_o), (1, .ref q_p1), (2, .int r8)]) hx hb dL_areInProportion_104 hl (k := 3) rfl rfl (by decide) rfl (fun ls hl => ?_)
                refine lv_goto (tgt := 60) hx hb dL_areInProportion_107 (by decide) ?_
                exact ih9 (v9_3 + 1) _ h _ _ hP hD hS _ (lv_sub hl [1, 2, 3, 0] rfl) K9_0 K9_1
              · have h := o_f b18 h
                cases h
                exact K9_0 rfl _ _ _ hP hD hS (lv_sub hl [] rfl)
            · have h := o_f t16 h
              cases h
        · have h := o_f t12 h
          cases h
  obtain ⟨r19, c19, h⟩ := o_b h
  refine lp9 FU 0 r19 c19 _ _ hP hD hS _ (lv_sub hl [1, 2, 3, 0] rfl) (fun t9_0 H locs ls hP hD hS hl => ?_) (fun t9_0 H locs ls hP hD hS hl => ?_)
  · have h := o_t t9_0 h
    refine lv_iconst (v := 0) hx hb dL_areInProportion_102 (by decide) ?_
    cases h
    exact fin _ _ _ _ (nar_z (Or.inl rfl)) hP hS dL_areInProportion_103
  · have h := o_f t9_0 h
    refine lv_iload_n hx hb dL_areInProportion_110 rfl (lv_at hl 1 rfl) ?_
    refine lv_if_gt (tgt := 123) hx hb dL_areInProportion_111 (by decide) (fun b20 => ?_) (fun b20 => ?_)
    · have h := o_t b20 h
      refine lv_iconst (v := 1) hx hb dL_areInProportion_123 (by decide) ?_
      refine lv_goto (tgt := 128) hx hb dL_areInProportion_124 (by decide) ?_
      cases h
      exact fin _ _ _ _ (nar_z (Or.inr rfl)) hP hS dL_areInProportion_128
    · have h := o_f b20 h
      refine lv_aload_n hx hb dL_areInProportion_114 rfl (lv_at hl 0 rfl) ?_
      obtain ⟨r21, c21, h⟩ := o_b h
      refine mcallV X (As := []) (rest := []) (ws1 := wL_areInProportion g q_o q_o_ws q_p1 q_p1_present q_p1_present_nodes q_p1_present_nodes_ws q_p1_present_nodes_xs q_p1_present_nodes_ys q_p1_present_weights q_o_choices q_o_xs q_o_ys q_p1_text q_p1_trial q_p1_history q_p1_output q_p1_answer q_p1_best q_p1_present_order q_p1_present_sorted q_p1_present_numerator q_p1_present_denominator q_p1_present_product o_at o_n o_ws p1_present_nodes_count p1_present_nodes_mode p1_present_nodes_degree p1_present_nodes_ws p1_present_nodes_xs p1_present_nodes_ys p1_present_weights) (st1 := [.long r21]) (kX6_weightSum D g x l q_p1 q_p1_present q_p1_present_nodes q_p1_present_weights q_p1_text q_p1_trial q_p1_history q_p1_output q_p1_answer q_p1_best q_p1_present_order q_p1_present_sorted q_p1_present_numerator q_p1_present_denominator q_p1_present_product q_p1_present_nodes_xs q_p1_present_nodes_ys q_p1_present_nodes_ws p1_present_nodes_count p1_present_nodes_mode p1_present_nodes_degree p1_present_weights  r21 c21) mw_X6_weightSum ml_L_194 ⟨Nat.le_of_ble_eq_true rfl, Nat.le_of_ble_eq_true rfl⟩ hP hD hS [2, 3, 4, 8] (by decide +kernel) rfl rfl 2 rfl rfl rfl hl.1 rfl (Nat.le_of_ble_eq_true rfl) dL_areInProportion_115 ⟨Nat.le_refl _, Nat.le_refl _⟩ rfl rfl (fun H locs hP hD hS => ?_)
      refine lv_lconst (v := 0) hx hb dL_areInProportion_118 (by decide) ?_
      refine W.lcmp hx hb dL_areInProportion_119 ?_
      refine lv_if_ne (tgt := 127) hx hb dL_areInProportion_120 (by decide) (fun b22 => ?_) (fun b22 => ?_)
      · have b22 := mt (lg_cmp_eq _ _).mpr b22
        have h := o_f b22 h
        refine lv_iconst (v := 0) hx hb dL_areInProportion_127 (by decide) ?_
        cases h
        exact fin _ _ _ _ (nar_z (Or.inl rfl)) hP hS dL_areInProportion_128
      · have b22 := (lg_cmp_eq _ _).mp b22
        have h := o_t b22 h
        refine lv_iconst (v := 1) hx hb dL_areInProportion_123 (by decide) ?_
        refine lv_goto (tgt := 128) hx hb dL_areInProportion_124 (by decide) ?_
        cases h
        exact fin _ _ _ _ (nar_z (Or.inr rfl)) hP hS dL_areInProportion_128
abbrev wL_isSum (g : Nat → ClassId) (q_o q_o_xs q_o_ys q_p1 q_p1_answer q_p1_present q_p1_present_denominator q_p1_present_nodes q_p1_present_numerator q_p1_present_weights q_o_choices q_o_ws q_p1_text q_p1_trial q_p1_history q_p1_output q_p1_best q_p1_present_order q_p1_present_sorted q_p1_present_product q_p1_present_nodes_xs q_p1_present_nodes_ys q_p1_present_nodes_ws : Nat)  (o_at : Int32) (o_n : Int32) (o_xs : Nat → Int32) (o_ys : Nat → Int32) (p1_answer_top : Int64) (p1_answer_bottom : Int64) (p1_present_denominator : Nat → Int64) (p1_present_nodes_count : Int32) (p1_present_nodes_mode : Int32) (p1_present_nodes_degree : Int32) (p1_present_numerator : Nat → Int64) (p1_present_weights : Nat → Int64) : va_W := [(q_o, .inr (9, [.ref q_o_choices, .int o_at, .int o_n, .ref q_o_xs, .ref q_o_ys, .ref q_o_ws])), (q_o_xs, .inl (g 0, 5, .inl o_xs)), (q_o_ys, .inl (g 0, 5, .inl o_ys)), (q_p1, .inr (6, [.ref q_p1_text, .ref q_p1_present, .ref q_p1_trial, .ref q_p1_history, .ref q_p1_output, .ref q_p1_answer, .ref q_p1_best])), (q_p1_answer, .inr (1, [.long p1_answer_top, .long p1_answer_bottom])), (q_p1_present, .inr (0, [.ref q_p1_present_nodes, .ref q_p1_present_order, .ref q_p1_present_sorted, .ref q_p1_present_weights, .ref q_p1_present_numerator, .ref q_p1_present_denominator, .ref q_p1_present_product])), (q_p1_present_denominator, .inl (g 1, 5, .inr (.inl p1_present_denominator))), (q_p1_present_nodes, .inr (3, [.ref q_p1_present_nodes_xs, .ref q_p1_present_nodes_ys, .ref q_p1_present_nodes_ws, .int p1_present_nodes_count, .int p1_present_nodes_mode, .int p1_present_nodes_degree])), (q_p1_present_numerator, .inl (g 1, 5, .inr (.inl p1_present_numerator))), (q_p1_present_weights, .inl (g 1, 5, .inr (.inl p1_present_weights)))]
set_option maxHeartbeats 4000000 in
set_option maxRecDepth 100000 in
theorem kL_isSum (D : va_G) (g : Nat → ClassId) (x : Xd) (l : Launch) (q_o q_o_xs q_o_ys q_p1 q_p1_answer q_p1_present q_p1_present_denominator q_p1_present_nodes q_p1_present_numerator q_p1_present_weights q_o_choices q_o_ws q_p1_text q_p1_trial q_p1_history q_p1_output q_p1_best q_p1_present_order q_p1_present_sorted q_p1_present_product q_p1_present_nodes_xs q_p1_present_nodes_ys q_p1_present_nodes_ws : Nat)  (o_at : Int32) (o_n : Int32) (o_xs : Nat → Int32) (o_ys : Nat → Int32) (p1_answer_top : Int64) (p1_answer_bottom : Int64) (p1_present_denominator : Nat → Int64) (p1_present_nodes_count : Int32) (p1_present_nodes_mode : Int32) (p1_present_nodes_degree : Int32) (p1_present_numerator : Nat → Int64) (p1_present_weights : Nat → Int64) (p2 : Int32) (R : Int32 × Int64 × Int64) (h : mL_isSum o_n o_xs o_ys p1_answer_bottom p1_answer_top p1_present_denominator p1_present_nodes_count p1_present_numerator p1_present_weights p2 = some R) : Cn D g x l yL_isSum cL_isSum 15 (some .boolean) 6 155 [.ref q_o, .ref q_p1, .int p2] (wL_isSum g q_o q_o_xs q_o_ys q_p1 q_p1_answer q_p1_present q_p1_present_denominator q_p1_present_nodes q_p1_present_numerator q_p1_present_weights q_o_choices q_o_ws q_p1_text q_p1_trial q_p1_history q_p1_output q_p1_best q_p1_present_order q_p1_present_sorted q_p1_present_product q_p1_present_nodes_xs q_p1_present_nodes_ys q_p1_present_nodes_ws o_at o_n o_xs o_ys p1_answer_top p1_answer_bottom p1_present_denominator p1_present_nodes_count p1_present_nodes_mode p1_present_nodes_degree p1_present_numerator p1_present_weights) (wL_isSum g q_o q_o_xs q_o_ys q_p1 q_p1_answer q_p1_present q_p1_present_denominator q_p1_present_nodes q_p1_present_numerator q_p1_present_weights q_o_choices q_o_ws q_p1_text q_p1_trial q_p1_history q_p1_output q_p1_best q_p1_present_order q_p1_present_sorted q_p1_present_product q_p1_present_nodes_xs q_p1_present_nodes_ys q_p1_present_nodes_ws o_at o_n o_xs o_ys R.2.2 R.2.1 p1_present_denominator p1_present_nodes_count p1_present_nodes_mode p1_present_nodes_degree p1_present_numerator p1_present_weights) (some (.int R.1)) := by
  refine CnI (by decide +kernel) (Nat.le_of_ble_eq_true rfl) (fun p e s m args below meth c A Q ls X hD hP hS fin hl => ?_)
  obtain ⟨hx, hb, hml, -, -, hown, hts, hK, hA, hE⟩ := id X
  unfold mL_isSum at h
  have hl : lv_has ls 15 [(0, .ref q_o), (1, .ref q_p1), (2, .int p2)] := hl
  refine lv_lconst (v := 0) hx hb dL_isSum_0 (by decide) ?_
  refine lv_lstore_n (lv' := [(3, .long 0), (0, .ref q_o), (1, .ref q_p1), (2, .int p2)]) hx hb dL_isSum_1 rfl hl (by decide) rfl (fun ls hl => ?_)
  refine lv_lconst (v := 0) hx hb dL_isSum_2 (by decide) ?_
  refine lv_lstore (lv' := [(5, .long 0), (3, .long 0), (0, .ref q_o), (1, .ref q_p1), (2, .int p2)]) hx hb dL_isSum_3 hl (by decide) rfl (fun ls hl => ?_)
  refine lv_lconst (v := 0) hx hb dL_isSum_5 (by decide) ?_
  refine lv_lstore (lv' := [(7, .long 0), (5, .long 0), (3, .long 0), (0, .ref q_o), (1, .ref q_p1), (2, .int p2)]) hx hb dL_isSum_6 hl (by decide) rfl (fun ls hl => ?_)
  refine lv_lconst (v := 0) hx hb dL_isSum_8 (by decide) ?_
  refine lv_lstore (lv' := [(9, .long 0), (7, .long 0), (5, .long 0), (3, .long 0), (0, .ref q_o), (1, .ref q_p1), (2, .int p2)]) hx hb dL_isSum_9 hl (by decide) rfl (fun ls hl => ?_)
  refine lv_iconst (v := 0) hx hb dL_isSum_11 (by decide) ?_
  refine lv_istore (lv' := [(11, .int 0), (9, .long 0), (7, .long 0), (5, .long 0), (3, .long 0), (0, .ref q_o), (1, .ref q_p1), (2, .int p2)]) hx hb dL_isSum_12 hl (by decide) rfl (fun ls hl => ?_)
  have lp1 : ∀ (n : Nat) (v1_3 : Int64) (v1_5 : Int64) (v1_11 : Int32) (R1 : Int64 × Int64) (h : lL_isSum_14 p2 o_n o_xs o_ys p1_present_nodes_count p1_present_weights n v1_3 v1_5 v1_11 = some R1) (H : Heap) (locs : List Loc), va_P D vwCl (wL_isSum g q_o q_o_xs q_o_ys q_p1 q_p1_answer q_p1_present q_p1_present_denominator q_p1_present_nodes q_p1_present_numerator q_p1_present_weights q_o_choices q_o_ws q_p1_text q_p1_trial q_p1_history q_p1_output q_p1_best q_p1_present_order q_p1_present_sorted q_p1_present_product q_p1_present_nodes_xs q_p1_present_nodes_ys q_p1_present_nodes_ws o_at o_n o_xs o_ys p1_answer_top p1_answer_bottom p1_present_denominator p1_present_nodes_count p1_present_nodes_mode p1_present_nodes_degree p1_present_numerator p1_present_weights) H → va_D A (wL_isSum g q_o q_o_xs q_o_ys q_p1 q_p1_answer q_p1_present q_p1_present_denominator q_p1_present_nodes q_p1_present_numerator q_p1_present_weights q_o_choices q_o_ws q_p1_text q_p1_trial q_p1_history q_p1_output q_p1_best q_p1_present_order q_p1_present_sorted q_p1_present_product q_p1_present_nodes_xs q_p1_present_nodes_ys q_p1_present_nodes_ws o_at o_n o_xs o_ys p1_answer_top p1_answer_bottom p1_present_denominator p1_present_nodes_count p1_present_nodes_mode p1_present_nodes_degree p1_present_numerator p1_present_weights) → va_S A s.heap H locs → ∀ (ls : Array Slot), lv_has ls 15 [(0, .ref q_o), (1, .ref q_p1), (2, .int p2), (3, .long v1_3), (5, .long v1_5), (7, .long 0), (9, .long 0), (11, .int v1_11)] → (∀ (H : Heap) (locs : List Loc) (ls : Array Slot), va_P D vwCl (wL_isSum g q_o q_o_xs q_o_ys q_p1 q_p1_answer q_p1_present q_p1_present_denominator q_p1_present_nodes q_p1_present_numerator q_p1_present_weights q_o_choices q_o_ws q_p1_text q_p1_trial q_p1_history q_p1_output q_p1_best q_p1_present_order q_p1_present_sorted q_p1_present_product q_p1_present_nodes_xs q_p1_present_nodes_ys q_p1_present_nodes_ws o_at o_n o_xs o_ys p1_answer_top p1_answer_bottom p1_present_denominator p1_present_nodes_count p1_present_nodes_mode p1_present_nodes_degree p1_present_numerator p1_present_weights) H → va_D A (wL_isSum g q_o q_o_xs q_o_ys q_p1 q_p1_answer q_p1_present q_p1_present_denominator q_p1_present_nodes q_p1_present_numerator q_p1_present_weights q_o_choices q_o_ws q_p1_text q_p1_trial q_p1_history q_p1_output q_p1_best q_p1_present_order q_p1_present_sorted q_p1_present_product q_p1_present_nodes_xs q_p1_present_nodes_ys q_p1_present_nodes_ws o_at o_n o_xs o_ys p1_answer_top p1_answer_bottom p1_present_denominator p1_present_nodes_count p1_present_nodes_mode p1_present_nodes_degree p1_present_numerator p1_present_weights) → va_S A s.heap H locs → lv_has ls 15 [(1, .ref q_p1), (2, .int p2), (3, .long R1.1), (5, .long R1.2), (7, .long 0), (9, .long 0)] → W p l e (rmF 6 155) s m args below meth c H locs 0 0 Q (F0 m 102 ls [])) → W p l e (rmF 6 155) s m args below meth c H locs 0 0 Q (F0 m 14 ls []) := by
    intro n
    induction n with
    | zero =>
      intro v1_3 v1_5 v1_11 R1 h
      have h : none = some R1 := h
      cases h
    | succ n ih1 =>
      intro v1_3 v1_5 v1_11 R1 h H locs hP hD hS ls hl K1_0
      have h : (if o_n ≤ v1_11 then some (v1_3, v1_5) else (mX6_weight p1_present_nodes_count p1_present_weights v1_11).bind fun r3 => if r3.1 = 0 then (lL_isSum_34 p2 v1_11 o_n o_xs FU r3.2 0).bind fun r9 => if v1_11 < 0 ∨ 5 ≤ Int32.toNatClampNeg v1_11 then none else lL_isSum_14 p2 o_n o_xs o_ys p1_present_nodes_count p1_present_weights n (v1_3 + (r9 * (Int32.toInt64 (o_ys (Int32.toNatClampNeg v1_11))))) (v1_5 + r9) (v1_11 + 1) else none : Option (Int64 × Int64)) = some R1 := h
      refine lv_iload hx hb dL_isSum_14 (lv_at hl 7 rfl) ?_
      refine lv_aload_n hx hb dL_isSum_16 rfl (lv_at hl 0 rfl) ?_
      refine mget X fl_L_64 hP 0 rfl rfl dL_isSum_17 ?_
      refine lv_icmp_ge (tgt := 102) hx hb dL_isSum_20 (by decide) (fun b2 => ?_) (fun b2 => ?_)
      · have h := o_t b2 h
        cases h
        exact K1_0  _ _ _ hP hD hS (lv_sub hl [1, 2, 3, 4, 5, 6] rfl)
      · have h := o_f b2 h
        refine lv_aload_n hx hb dL_isSum_23 rfl (lv_at hl 1 rfl) ?_
        refine lv_iload hx hb dL_isSum_24 (lv_at hl 7 rfl) ?_
        obtain ⟨r3, c3, h⟩ := o_b h
        by_cases t4 : r3.1 = 0
        · have h := o_t t4 h
          refine mcallV X (As := [.int v1_11]) (rest := []) (ws1 := wL_isSum g q_o q_o_xs q_o_ys q_p1 q_p1_answer q_p1_present q_p1_present_denominator q_p1_present_nodes q_p1_present_numerator q_p1_present_weights q_o_choices q_o_ws q_p1_text q_p1_trial q_p1_history q_p1_output q_p1_best q_p1_present_order q_p1_present_sorted q_p1_present_product q_p1_present_nodes_xs q_p1_present_nodes_ys q_p1_present_nodes_ws o_at o_n o_xs o_ys p1_answer_top p1_answer_bottom p1_present_denominator p1_present_nodes_count p1_present_nodes_mode p1_present_nodes_degree p1_present_numerator p1_present_weights) (st1 := [.long r3.2]) (nX6_weight D g x l q_p1 q_p1_present q_p1_present_nodes q_p1_present_weights q_p1_text q_p1_trial q_p1_history q_p1_output q_p1_answer q_p1_best q_p1_present_order q_p1_present_sorted q_p1_present_numerator q_p1_present_denominator q_p1_present_product q_p1_present_nodes_xs q_p1_present_nodes_ys q_p1_present_nodes_ws p1_present_nodes_count p1_present_nodes_mode p1_present_nodes_degree p1_present_weights v1_11 r3 c3 t4) mw_X6_weight ml_L_190 ⟨Nat.le_of_ble_eq_true rfl, Nat.le_of_ble_eq_true rfl⟩ hP hD hS [3, 5, 7, 9] (by decide +kernel) rfl rfl 3 rfl rfl rfl hl.1 rfl (Nat.le_of_ble_eq_true rfl) dL_isSum_26 ⟨Nat.le_refl _, Nat.le_refl _⟩ rfl rfl (fun H locs hP hD hS => ?_)
          refine lv_lstore (lv' := [(12, .long r3.2), (0, .ref q_o), (1, .ref q_p1), (2, .int p2), (3, .long v1_3), (5, .long v1_5), (7, .long 0), (9, .long 0), (11, .int v1_11)]) hx hb dL_isSum_29 hl (by decide) rfl (fun ls hl => ?_)
          refine lv_iconst (v := 0) hx hb dL_isSum_31 (by decide) ?_
          refine lv_istore (lv' := [(14, .int 0), (12, .long r3.2), (0, .ref q_o), (1, .ref q_p1), (2, .int p2), (3, .long v1_3), (5, .long v1_5), (7, .long 0), (9, .long 0), (11, .int v1_11)]) hx hb dL_isSum_32 hl (by decide) rfl (fun ls hl => ?_)
          have lp5 : ∀ (n : Nat) (v5_12 : Int64) (v5_14 : Int32) (R5 : Int64) (h : lL_isSum_34 p2 v1_11 o_n o_xs n v5_12 v5_14 = some R5) (H : Heap) (locs : List Loc), va_P D vwCl (wL_isSum g q_o q_o_xs q_o_ys q_p1 q_p1_answer q_p1_present q_p1_present_denominator q_p1_present_nodes q_p1_present_numerator q_p1_present_weights q_o_choices q_o_ws q_p1_text q_p1_trial q_p1_history q_p1_output q_p1_best q_p1_present_order q_p1_present_sorted q_p1_present_product q_p1_present_nodes_xs q_p1_present_nodes_ys q_p1_present_nodes_ws o_at o_n o_xs o_ys p1_answer_top p1_answer_bottom p1_present_denominator p1_present_nodes_count p1_present_nodes_mode p1_present_nodes_degree p1_present_numerator p1_present_weights) H → va_D A (wL_isSum g q_o q_o_xs q_o_ys q_p1 q_p1_answer q_p1_present q_p1_present_denominator q_p1_present_nodes q_p1_present_numerator q_p1_present_weights q_o_choices q_o_ws q_p1_text q_p1_trial q_p1_history q_p1_output q_p1_best q_p1_present_order q_p1_present_sorted q_p1_present_product q_p1_present_nodes_xs q_p1_present_nodes_ys q_p1_present_nodes_ws o_at o_n o_xs o_ys p1_answer_top p1_answer_bottom p1_present_denominator p1_present_nodes_count p1_present_nodes_mode p1_present_nodes_degree p1_present_numerator p1_present_weights) → va_S A s.heap H locs → ∀ (ls : Array Slot), lv_has ls 15 [(0, .ref q_o), (1, .ref q_p1), (2, .int p2), (3, .long v1_3), (5, .long v1_5), (7, .long 0), (9, .long 0), (11, .int v1_11), (12, .long v5_12), (14, .int v5_14)] → (∀ (H : Heap) (locs : List Loc) (ls : Array Slot), va_P D vwCl (wL_isSum g q_o q_o_xs q_o_ys q_p1 q_p1_answer q_p1_present q_p1_present_denominator q_p1_present_nodes q_p1_present_numerator q_p1_present_weights q_o_choices q_o_ws q_p1_text q_p1_trial q_p1_history q_p1_output q_p1_best q_p1_present_order q_p1_present_sorted q_p1_present_product q_p1_present_nodes_xs q_p1_present_nodes_ys q_p1_present_nodes_ws o_at o_n o_xs o_ys p1_answer_top p1_answer_bottom p1_present_denominator p1_present_nodes_count p1_present_nodes_mode p1_present_nodes_degree p1_present_numerator p1_present_weights) H → va_D A (wL_isSum g q_o q_o_xs q_o_ys q_p1 q_p1_answer q_p1_present q_p1_present_denominator q_p1_present_nodes q_p1_present_numerator q_p1_present_weights q_o_choices q_o_ws q_p1_text q_p1_trial q_p1_history q_p1_output q_p1_best q_p1_present_order q_p1_present_sorted q_p1_present_product q_p1_present_nodes_xs q_p1_present_nodes_ys q_p1_present_nodes_ws o_at o_n o_xs o_ys p1_answer_top p1_answer_bottom p1_present_denominator p1_present_nodes_count p1_present_nodes_mode p1_present_nodes_degree p1_present_numerator p1_present_weights) → va_S A s.heap H locs → lv_has ls 15 [(0, .ref q_o), (1, .ref q_p1), (2, .int p2), (3, .long v1_3), (5, .long v1_5), (7, .long 0), (9, .long 0), (11, .int v1_11), (12, .long R5)] → W p l e (rmF 6 155) s m args below meth c H locs 0 0 Q (F0 m 75 ls [])) → W p l e (rmF 6 155) s m args below meth c H locs 0 0 Q (F0 m 34 ls []) := by
            intro n
            induction n with
            | zero =>
              intro v5_12 v5_14 R5 h
              have h : none = some R5 := h
              cases h
            | succ n ih5 =>
              intro v5_12 v5_14 R5 h H locs hP hD hS ls hl K5_0
              have h : (if o_n ≤ v5_14 then some v5_12 else if v5_14 = v1_11 then lL_isSum_34 p2 v1_11 o_n o_xs n (v5_12 * 1) (v5_14 + 1) else if v5_14 < 0 ∨ 5 ≤ Int32.toNatClampNeg v5_14 then none else lL_isSum_34 p2 v1_11 o_n o_xs n (v5_12 * (Int32.toInt64 (p2 - (o_xs (Int32.toNatClampNeg v5_14))))) (v5_14 + 1) : Option (Int64)) = some R5 := h
              refine lv_iload hx hb dL_isSum_34 (lv_at hl 9 rfl) ?_
              refine lv_aload_n hx hb dL_isSum_36 rfl (lv_at hl 0 rfl) ?_
              refine mget X fl_L_64 hP 0 rfl rfl dL_isSum_37 ?_
              refine lv_icmp_ge (tgt := 75) hx hb dL_isSum_40 (by decide) (fun b6 => ?_) (fun b6 => ?_)
              · have h := o_t b6 h
                cases h
                exact K5_0  _ _ _ hP hD hS (lv_sub hl [0, 1, 2, 3, 4, 5, 6, 7, 8] rfl)
              · have h := o_f b6 h
                refine lv_lload hx hb dL_isSum_43 (lv_at hl 8 rfl) ?_
                refine lv_iload hx hb dL_isSum_45 (lv_at hl 9 rfl) ?_
                refine lv_iload hx hb dL_isSum_47 (lv_at hl 7 rfl) ?_
                refine lv_icmp_ne (tgt := 56) hx hb dL_isSum_49 (by decide) (fun b7 => ?_) (fun b7 => ?_)
                · have h := o_f b7 h
                  refine lv_iload_n hx hb dL_isSum_56 rfl (lv_at hl 2 rfl) ?_
                  refine lv_aload_n hx hb dL_isSum_57 rfl (lv_at hl 0 rfl) ?_
                  refine mget X fl_L_13 hP 0 rfl rfl dL_isSum_58 ?_
                  refine lv_iload hx hb dL_isSum_61 (lv_at hl 9 rfl) ?_
                  obtain ⟨b8, h⟩ := o_no h
                  refine mild X hP 1 rfl b8 dL_isSum_63 ?_
                  refine lv_isub hx hb dL_isSum_64 ?_
                  refine lv_i2l (v := Int32.toInt64 (p2 - (o_xs (Int32.toNatClampNeg v5_14)))) hx hb dL_isSum_65 rfl ?_
                  refine lv_lmul hx hb dL_isSum_66 ?_
                  refine lv_lstore (lv' := [(12, .long (v5_12 * (Int32.toInt64 (p2 - (o_xs (Int32.toNatClampNeg v5_14)))))), (0, .ref q_o), (1, .ref q_p1), (2, .int p2), (3, .long v1_3), (5, .long v1_5), (7, .long 0), (9, .long 0), (11, .int v1_11), (14, .int v5_14)]) hx hb dL_isSum_67 hl (by decide) rfl (fun ls hl => ?_)
                  refine lv_iinc (v := v5_14 + 1) (lv' := [(14, .int (v5_14 + 1)), (12, .long (v5_12 * (Int32.toInt64 (p2 - (o_xs (Int32.toNatClampNeg v5_14)))))), (0, .ref q_o), (1, .ref q_p1), (2, .int p2), (3, .long v1_3), (5, .long v1_5), (7, .long 0), (9, .long 0), (11, .int v1_11)]) hx hb dL_isSum_69 hl (k := 9) rfl rfl (by decide) rfl (fun ls hl => ?_)
                  refine lv_goto (tgt := 34) hx hb dL_isSum_72 (by decide) ?_
                  exact ih5 (v5_12 * (Int32.toInt64 (p2 - (o_xs (Int32.toNatClampNeg v5_14))))) (v5_14 + 1) _ h _ _ hP hD hS _ (lv_sub hl [2, 3, 4, 5, 6, 7, 8, 9, 1, 0] rfl) K5_0
                · have h := o_t b7 h
                  refine lv_lconst (v := 1) hx hb dL_isSum_52 (by decide) ?_
                  refine lv_goto (tgt := 66) hx hb dL_isSum_53 (by decide) ?_
                  refine lv_lmul hx hb dL_isSum_66 ?_
                  refine lv_lstore (lv' := [(12, .long (v5_12 * 1)), (0, .ref q_o), (1, .ref q_p1), (2, .int p2), (3, .long v1_3), (5, .long v1_5), (7, .long 0), (9, .long 0), (11, .int v1_11), (14, .int v5_14)]) hx hb dL_isSum_67 hl (by decide) rfl (fun ls hl => ?_)
                  refine lv_iinc (v := v5_14 + 1) (lv' := [(14, .int (v5_14 + 1)), (12, .long (v5_12 * 1)), (0, .ref q_o), (1, .ref q_p1), (2, .int p2), (3, .long v1_3), (5, .long v1_5), (7, .long 0), (9, .long 0), (11, .int v1_11)]) hx hb dL_isSum_69 hl (k := 9) rfl rfl (by decide) rfl (fun ls hl => ?_)
                  refine lv_goto (tgt := 34) hx hb dL_isSum_72 (by decide) ?_
                  exact ih5 (v5_12 * 1) (v5_14 + 1) _ h _ _ hP hD hS _ (lv_sub hl [2, 3, 4, 5, 6, 7, 8, 9, 1, 0] rfl) K5_0
          obtain ⟨r9, c9, h⟩ := o_b h
          refine lp5 FU r3.2 0 r9 c9 _ _ hP hD hS _ (lv_sub hl [2, 3, 4, 5, 6, 7, 8, 9, 1, 0] rfl) (fun H locs ls hP hD hS hl => ?_)
          refine lv_lload_n hx hb dL_isSum_75 rfl (lv_at hl 3 rfl) ?_
          refine lv_lload hx hb dL_isSum_76 (lv_at hl 8 rfl) ?_
          refine lv_aload_n hx hb dL_isSum_78 rfl (lv_at hl 0 rfl) ?_
          refine mget X fl_L_16 hP 0 rfl rfl dL_isSum_79 ?_
          refine lv_iload hx hb dL_isSum_82 (lv_at hl 7 rfl) ?_
          obtain ⟨b10, h⟩ := o_no h
          refine mild X hP 2 rfl b10 dL_isSum_84 ?_
          refine lv_i2l (v := Int32.toInt64 (o_ys (Int32.toNatClampNeg v1_11))) hx hb dL_isSum_85 rfl ?_
          refine lv_lmul hx hb dL_isSum_86 ?_
          refine lv_ladd hx hb dL_isSum_87 ?_
          refine lv_lstore_n (lv' := [(3, .long (v1_3 + (r9 * (Int32.toInt64 (o_ys (Int32.toNatClampNeg v1_11)))))), (0, .ref q_o), (1, .ref q_p1), (2, .int p2), (5, .long v1_5), (7, .long 0), (9, .long 0), (11, .int v1_11), (12, .long r9)]) hx hb dL_isSum_88 rfl hl (by decide) rfl (fun ls hl => ?_)
          refine lv_lload hx hb dL_isSum_89 (lv_at hl 4 rfl) ?_
          refine lv_lload hx hb dL_isSum_91 (lv_at hl 8 rfl) ?_
          refine lv_ladd hx hb dL_isSum_93 ?_
          refine lv_lstore (lv' := [(5, .long (v1_5 + r9)), (3, .long (v1_3 + (r9 * (Int32.toInt64 (o_ys (Int32.toNatClampNeg v1_11)))))), (0, .ref q_o), (1, .ref q_p1), (2, .int p2), (7, .long 0), (9, .long 0), (11, .int v1_11), (12, .long r9)]) hx hb dL_isSum_94 hl (by decide) rfl (fun ls hl => ?_)
          refine lv_iinc (v := v1_11 + 1) (lv' := [(11, .int (v1_11 + 1)), (5, .long (v1_5 + r9)), (3, .long (v1_3 + (r9 * (Int32.toInt64 (o_ys (Int32.toNatClampNeg v1_11)))))), (0, .ref q_o), (1, .ref q_p1), (2, .int p2), (7, .long 0), (9, .long 0), (12, .long r9)]) hx hb dL_isSum_96 hl (k := 7) rfl rfl (by decide) rfl (fun ls hl => ?_)
          refine lv_goto (tgt := 14) hx hb dL_isSum_99 (by decide) ?_
          exact ih1 (v1_3 + (r9 * (Int32.toInt64 (o_ys (Int32.toNatClampNeg v1_11))))) (v1_5 + r9) (v1_11 + 1) _ h _ _ hP hD hS _ (lv_sub hl [3, 4, 5, 2, 1, 6, 7, 0] rfl) K1_0
        · have h := o_f t4 h
          cases h
  obtain ⟨r11, c11, h⟩ := o_b h
  refine lp1 FU 0 0 0 r11 c11 _ _ hP hD hS _ (lv_sub hl [5, 6, 7, 4, 3, 2, 1, 0] rfl) (fun H locs ls hP hD hS hl => ?_)
  refine lv_lconst (v := 1) hx hb dL_isSum_102 (by decide) ?_
  refine lv_lstore (lv' := [(11, .long 1), (1, .ref q_p1), (2, .int p2), (3, .long r11.1), (5, .long r11.2), (7, .long 0), (9, .long 0)]) hx hb dL_isSum_103 hl (by decide) rfl (fun ls hl => ?_)
  refine lv_iconst (v := 0) hx hb dL_isSum_105 (by decide) ?_
  refine lv_istore (lv' := [(13, .int 0), (11, .long 1), (1, .ref q_p1), (2, .int p2), (3, .long r11.1), (5, .long r11.2), (7, .long 0), (9, .long 0)]) hx hb dL_isSum_106 hl (by decide) rfl (fun ls hl => ?_)
  have lp12 : ∀ (n : Nat) (v12_7 : Int64) (v12_9 : Int64) (v12_11 : Int64) (v12_13 : Int32) (R12 : Int64 × Int64) (h : lL_isSum_108 p2 p1_present_denominator p1_present_numerator n v12_7 v12_9 v12_11 v12_13 = some R12) (H : Heap) (locs : List Loc), va_P D vwCl (wL_isSum g q_o q_o_xs q_o_ys q_p1 q_p1_answer q_p1_present q_p1_present_denominator q_p1_present_nodes q_p1_present_numerator q_p1_present_weights q_o_choices q_o_ws q_p1_text q_p1_trial q_p1_history q_p1_output q_p1_best q_p1_present_order q_p1_present_sorted q_p1_present_product q_p1_present_nodes_xs q_p1_present_nodes_ys q_p1_present_nodes_ws o_at o_n o_xs o_ys p1_answer_top p1_answer_bottom p1_present_denominator p1_present_nodes_count p1_present_nodes_mode p1_present_nodes_degree p1_present_numerator p1_present_weights) H → va_D A (wL_isSum g q_o q_o_xs q_o_ys q_p1 q_p1_answer q_p1_present q_p1_present_denominator q_p1_present_nodes q_p1_present_numerator q_p1_present_weights q_o_choices q_o_ws q_p1_text q_p1_trial q_p1_history q_p1_output q_p1_best q_p1_present_order q_p1_present_sorted q_p1_present_product q_p1_present_nodes_xs q_p1_present_nodes_ys q_p1_present_nodes_ws o_at o_n o_xs o_ys p1_answer_top p1_answer_bottom p1_present_denominator p1_present_nodes_count p1_present_nodes_mode p1_present_nodes_degree p1_present_numerator p1_present_weights) → va_S A s.heap H locs → ∀ (ls : Array Slot), lv_has ls 15 [(1, .ref q_p1), (2, .int p2), (3, .long r11.1), (5, .long r11.2), (7, .long v12_7), (9, .long v12_9), (11, .long v12_11), (13, .int v12_13)] → (∀ (H : Heap) (locs : List Loc) (ls : Array Slot), va_P D vwCl (wL_isSum g q_o q_o_xs q_o_ys q_p1 q_p1_answer q_p1_present q_p1_present_denominator q_p1_present_nodes q_p1_present_numerator q_p1_present_weights q_o_choices q_o_ws q_p1_text q_p1_trial q_p1_history q_p1_output q_p1_best q_p1_present_order q_p1_present_sorted q_p1_present_product q_p1_present_nodes_xs q_p1_present_nodes_ys q_p1_present_nodes_ws o_at o_n o_xs o_ys p1_answer_top p1_answer_bottom p1_present_denominator p1_present_nodes_count p1_present_nodes_mode p1_present_nodes_degree p1_present_numerator p1_present_weights) H → va_D A (wL_isSum g q_o q_o_xs q_o_ys q_p1 q_p1_answer q_p1_present q_p1_present_denominator q_p1_present_nodes q_p1_present_numerator q_p1_present_weights q_o_choices q_o_ws q_p1_text q_p1_trial q_p1_history q_p1_output q_p1_best q_p1_present_order q_p1_present_sorted q_p1_present_product q_p1_present_nodes_xs q_p1_present_nodes_ys q_p1_present_nodes_ws o_at o_n o_xs o_ys p1_answer_top p1_answer_bottom p1_present_denominator p1_present_nodes_count p1_present_nodes_mode p1_present_nodes_degree p1_present_numerator p1_present_weights) → va_S A s.heap H locs → lv_has ls 15 [(1, .ref q_p1), (2, .int p2), (3, .long r11.1), (5, .long r11.2), (7, .long R12.1), (9, .long R12.2)] → W p l e (rmF 6 155) s m args below meth c H locs 0 0 Q (F0 m 157 ls [])) → W p l e (rmF 6 155) s m args below meth c H locs 0 0 Q (F0 m 108 ls []) := by
    intro n
    induction n with
    | zero =>
      intro v12_7 v12_9 v12_11 v12_13 R12 h
      have h : none = some R12 := h
      cases h
    | succ n ih12 =>
      intro v12_7 v12_9 v12_11 v12_13 R12 h H locs hP hD hS ls hl K12_0
      have h : (if 5 ≤ v12_13 then some (v12_7, v12_9) else (mX6_coefficient p1_present_denominator p1_present_numerator 0 v12_13).bind fun r14 => if r14.1 = 0 then (mX6_coefficient p1_present_denominator p1_present_numerator 1 v12_13).bind fun r16 => if r16.1 = 0 then lL_isSum_108 p2 p1_present_denominator p1_present_numerator n (v12_7 + (v12_11 * r14.2)) (v12_9 + (v12_11 * r16.2)) (v12_11 * (Int32.toInt64 p2)) (v12_13 + 1) else none else none : Option (Int64 × Int64)) = some R12 := h
      refine lv_iload hx hb dL_isSum_108 (lv_at hl 7 rfl) ?_
      refine lv_iconst (v := 5) hx hb dL_isSum_110 (by decide) ?_
      refine lv_icmp_ge (tgt := 157) hx hb dL_isSum_111 (by decide) (fun b13 => ?_) (fun b13 => ?_)
      · have h := o_t b13 h
        cases h
        exact K12_0  _ _ _ hP hD hS (lv_sub hl [0, 1, 2, 3, 4, 5] rfl)
      · have h := o_f b13 h
        refine lv_lload hx hb dL_isSum_114 (lv_at hl 4 rfl) ?_
        refine lv_lload hx hb dL_isSum_116 (lv_at hl 6 rfl) ?_
        refine lv_aload_n hx hb dL_isSum_118 rfl (lv_at hl 0 rfl) ?_
        refine lv_iconst (v := 0) hx hb dL_isSum_119 (by decide) ?_
        refine lv_iload hx hb dL_isSum_120 (lv_at hl 7 rfl) ?_
        obtain ⟨r14, c14, h⟩ := o_b h
        by_cases t15 : r14.1 = 0
        · have h := o_t t15 h
          refine mcallV X (As := [.int 0, .int v12_13]) (rest := [.long v12_11, .long v12_7]) (ws1 := wL_isSum g q_o q_o_xs q_o_ys q_p1 q_p1_answer q_p1_present q_p1_present_denominator q_p1_present_nodes q_p1_present_numerator q_p1_present_weights q_o_choices q_o_ws q_p1_text q_p1_trial q_p1_history q_p1_output q_p1_best q_p1_present_order q_p1_present_sorted q_p1_present_product q_p1_present_nodes_xs q_p1_present_nodes_ys q_p1_present_nodes_ws o_at o_n o_xs o_ys p1_answer_top p1_answer_bottom p1_present_denominator p1_present_nodes_count p1_present_nodes_mode p1_present_nodes_degree p1_present_numerator p1_present_weights) (st1 := [.long r14.2, .long v12_11, .long v12_7]) (nX6_coefficient D g x l q_p1 q_p1_present q_p1_present_denominator q_p1_present_numerator q_p1_text q_p1_trial q_p1_history q_p1_output q_p1_answer q_p1_best q_p1_present_nodes q_p1_present_order q_p1_present_sorted q_p1_present_weights q_p1_present_product p1_present_denominator p1_present_numerator 0 v12_13 r14 c14 t15) mw_X6_coefficient ml_L_198 ⟨Nat.le_of_ble_eq_true rfl, Nat.le_of_ble_eq_true rfl⟩ hP hD hS [3, 5, 6, 8] (by decide +kernel) rfl rfl 3 rfl rfl rfl hl.1 rfl (Nat.le_of_ble_eq_true rfl) dL_isSum_122 ⟨Nat.le_refl _, Nat.le_refl _⟩ rfl rfl (fun H locs hP hD hS => ?_)
          refine lv_lmul hx hb dL_isSum_125 ?_
          refine lv_ladd hx hb dL_isSum_126 ?_
          refine lv_lstore (lv' := [(7, .long (v12_7 + (v12_11 * r14.2))), (1, .ref q_p1), (2, .int p2), (3, .long r11.1), (5, .long r11.2), (9, .long v12_9), (11, .long v12_11), (13, .int v12_13)]) hx hb dL_isSum_127 hl (by decide) rfl (fun ls hl => ?_)
          refine lv_lload hx hb dL_isSum_129 (lv_at hl 5 rfl) ?_
          refine lv_lload hx hb dL_isSum_131 (lv_at hl 6 rfl) ?_
          refine lv_aload_n hx hb dL_isSum_133 rfl (lv_at hl 1 rfl) ?_
          refine lv_iconst (v := 1) hx hb dL_isSum_134 (by decide) ?_
          refine lv_iload hx hb dL_isSum_135 (lv_at hl 7 rfl) ?_
          obtain ⟨r16, c16, h⟩ := o_b h
          by_cases t17 : r16.1 = 0
          · have h := o_t t17 h
            refine mcallV X (As := [.int 1, .int v12_13]) (rest := [.long v12_11, .long v12_9]) (ws1 := wL_isSum g q_o q_o_xs q_o_ys q_p1 q_p1_answer q_p1_present q_p1_present_denominator q_p1_present_nodes q_p1_present_numerator q_p1_present_weights q_o_choices q_o_ws q_p1_text q_p1_trial q_p1_history q_p1_output q_p1_best q_p1_present_order q_p1_present_sorted q_p1_present_product q_p1_present_nodes_xs q_p1_present_nodes_ys q_p1_present_nodes_ws o_at o_n o_xs o_ys p1_answer_top p1_answer_bottom p1_present_denominator p1_present_nodes_count p1_present_nodes_mode p1_present_nodes_degree p1_present_numerator p1_present_weights) (st1 := [.long r16.2, .long v12_11, .long v12_9]) (nX6_coefficient D g x l q_p1 q_p1_present q_p1_present_denominator q_p1_present_numerator q_p1_text q_p1_trial q_p1_history q_p1_output q_p1_answer q_p1_best q_p1_present_nodes q_p1_present_order q_p1_present_sorted q_p1_present_weights q_p1_present_product p1_present_denominator p1_present_numerator 1 v12_13 r16 c16 t17) mw_X6_coefficient ml_L_198 ⟨Nat.le_of_ble_eq_true rfl, Nat.le_of_ble_eq_true rfl⟩ hP hD hS [3, 5, 6, 8] (by decide +kernel) rfl rfl 3 rfl rfl rfl hl.1 rfl (Nat.le_of_ble_eq_true rfl) dL_isSum_137 ⟨Nat.le_refl _, Nat.le_refl _⟩ rfl rfl (fun H locs hP hD hS => ?_)
            refine lv_lmul hx hb dL_isSum_140 ?_
            refine lv_ladd hx hb dL_isSum_141 ?_
            refine lv_lstore (lv' := [(9, .long (v12_9 + (v12_11 * r16.2))), (7, .long (v12_7 + (v12_11 * r14.2))), (1, .ref q_p1), (2, .int p2), (3, .long r11.1), (5, .long r11.2), (11, .long v12_11), (13, .int v12_13)]) hx hb dL_isSum_142 hl (by decide) rfl (fun ls hl => ?_)
            refine lv_lload hx hb dL_isSum_144 (lv_at hl 6 rfl) ?_
            refine lv_iload_n hx hb dL_isSum_146 rfl (lv_at hl 3 rfl) ?_
            refine lv_i2l (v := Int32.toInt64 p2) hx hb dL_isSum_147 rfl ?_
            refine lv_lmul hx hb dL_isSum_148 ?_
            refine lv_lstore (lv' := [(11, .long (v12_11 * (Int32.toInt64 p2))), (9, .long (v12_9 + (v12_11 * r16.2))), (7, .long (v12_7 + (v12_11 * r14.2))), (1, .ref q_p1), (2, .int p2), (3, .long r11.1), (5, .long r11.2), (13, .int v12_13)]) hx hb dL_isSum_149 hl (by decide) rfl (fun ls hl => ?_)
            refine lv_iinc (v := v12_13 + 1) (lv' := [(13, .int (v12_13 + 1)), (11, .long (v12_11 * (Int32.toInt64 p2))), (9, .long (v12_9 + (v12_11 * r16.2))), (7, .long (v12_7 + (v12_11 * r14.2))), (1, .ref q_p1), (2, .int p2), (3, .long r11.1), (5, .long r11.2)]) hx hb dL_isSum_151 hl (k := 7) rfl rfl (by decide) rfl (fun ls hl => ?_)
            refine lv_goto (tgt := 108) hx hb dL_isSum_154 (by decide) ?_
            exact ih12 (v12_7 + (v12_11 * r14.2)) (v12_9 + (v12_11 * r16.2)) (v12_11 * (Int32.toInt64 p2)) (v12_13 + 1) _ h _ _ hP hD hS _ (lv_sub hl [4, 5, 6, 7, 3, 2, 1, 0] rfl) K12_0
          · have h := o_f t17 h
            cases h
        · have h := o_f t15 h
          cases h
  obtain ⟨r18, c18, h⟩ := o_b h
  refine lp12 FU 0 0 1 0 r18 c18 _ _ hP hD hS _ (lv_sub hl [2, 3, 4, 5, 6, 7, 1, 0] rfl) (fun H locs ls hP hD hS hl => ?_)
  refine lv_lload_n hx hb dL_isSum_157 rfl (lv_at hl 2 rfl) ?_
  refine lv_lload hx hb dL_isSum_158 (lv_at hl 4 rfl) ?_
  refine W.lcmp hx hb dL_isSum_160 ?_
  refine lv_if_ne (tgt := 172) hx hb dL_isSum_161 (by decide) (fun b19 => ?_) (fun b19 => ?_)
  · have b19 := mt (lg_cmp_eq _ _).mpr b19
    have h := o_f b19 h
    refine lv_iconst (v := 0) hx hb dL_isSum_172 (by decide) ?_
    cases h
    exact fin _ _ _ _ (nar_z (Or.inl rfl)) hP hS dL_isSum_173
  · have b19 := (lg_cmp_eq _ _).mp b19
    have h := o_t b19 h
    refine lv_lload hx hb dL_isSum_164 (lv_at hl 3 rfl) ?_
    refine lv_lload hx hb dL_isSum_166 (lv_at hl 5 rfl) ?_
    refine W.lcmp hx hb dL_isSum_168 ?_
    refine lv_if_eq (tgt := 174) hx hb dL_isSum_169 (by decide) (fun b20 => ?_) (fun b20 => ?_)
    · have b20 := (lg_cmp_eq _ _).mp b20
      have h := o_t b20 h
      refine lv_aload_n hx hb dL_isSum_174 rfl (lv_at hl 0 rfl) ?_
      refine lv_iload_n hx hb dL_isSum_175 rfl (lv_at hl 1 rfl) ?_
      obtain ⟨r21, c21, h⟩ := o_b h
      by_cases t22 : r21.1 = 0
      · have h := o_t t22 h
        refine mcallV X (As := [.int p2]) (rest := []) (ws1 := wL_isSum g q_o q_o_xs q_o_ys q_p1 q_p1_answer q_p1_present q_p1_present_denominator q_p1_present_nodes q_p1_present_numerator q_p1_present_weights q_o_choices q_o_ws q_p1_text q_p1_trial q_p1_history q_p1_output q_p1_best q_p1_present_order q_p1_present_sorted q_p1_present_product q_p1_present_nodes_xs q_p1_present_nodes_ys q_p1_present_nodes_ws o_at o_n o_xs o_ys p1_answer_top p1_answer_bottom p1_present_denominator p1_present_nodes_count p1_present_nodes_mode p1_present_nodes_degree p1_present_numerator p1_present_weights) (st1 := [.int r21.2]) (nX6_kindAt D g x l q_p1 q_p1_present q_p1_present_denominator q_p1_present_numerator q_p1_text q_p1_trial q_p1_history q_p1_output q_p1_answer q_p1_best q_p1_present_nodes q_p1_present_order q_p1_present_sorted q_p1_present_weights q_p1_present_product p1_present_denominator p1_present_numerator p2 r21 c21 t22) mw_X6_kindAt ml_L_202 ⟨Nat.le_of_ble_eq_true rfl, Nat.le_of_ble_eq_true rfl⟩ hP hD hS [3, 5, 6, 8] (by decide +kernel) rfl rfl 3 rfl rfl rfl hl.1 rfl (Nat.le_of_ble_eq_true rfl) dL_isSum_176 ⟨Nat.le_refl _, Nat.le_refl _⟩ rfl rfl (fun H locs hP hD hS => ?_)
        refine lv_istore (lv' := [(13, .int r21.2), (1, .ref q_p1), (2, .int p2), (3, .long r11.1), (5, .long r11.2), (7, .long r18.1), (9, .long r18.2)]) hx hb dL_isSum_179 hl (by decide) rfl (fun ls hl => ?_)
        refine lv_lload hx hb dL_isSum_181 (lv_at hl 4 rfl) ?_
        refine lv_lconst (v := 0) hx hb dL_isSum_183 (by decide) ?_
        refine W.lcmp hx hb dL_isSum_184 ?_
        refine lv_if_eq (tgt := 220) hx hb dL_isSum_185 (by decide) (fun b23 => ?_) (fun b23 => ?_)
        · have b23 := (lg_cmp_eq _ _).mp b23
          have h := o_t b23 h
          refine lv_lload_n hx hb dL_isSum_220 rfl (lv_at hl 3 rfl) ?_
          refine lv_lconst (v := 0) hx hb dL_isSum_221 (by decide) ?_
          refine W.lcmp hx hb dL_isSum_222 ?_
          refine lv_if_eq (tgt := 240) hx hb dL_isSum_223 (by decide) (fun b24 => ?_) (fun b24 => ?_)
          · have b24 := (lg_cmp_eq _ _).mp b24
            have h := o_t b24 h
            refine lv_iload hx hb dL_isSum_240 (lv_at hl 0 rfl) ?_
            refine lv_iconst (v := 1) hx hb dL_isSum_242 (by decide) ?_
            refine lv_icmp_eq (tgt := 252) hx hb dL_isSum_243 (by decide) (fun b25 => ?_) (fun b25 => ?_)
            · have h := o_t b25 h
              refine lv_iconst (v := 1) hx hb dL_isSum_252 (by decide) ?_
              refine lv_goto (tgt := 257) hx hb dL_isSum_253 (by decide) ?_
              cases h
              exact fin _ _ _ _ (nar_z (Or.inr rfl)) hP hS dL_isSum_257
            · have h := o_f b25 h
              refine lv_iload hx hb dL_isSum_246 (lv_at hl 0 rfl) ?_
              refine lv_iconst (v := 3) hx hb dL_isSum_248 (by decide) ?_
              refine lv_icmp_ne (tgt := 256) hx hb dL_isSum_249 (by decide) (fun b26 => ?_) (fun b26 => ?_)
              · have h := o_f b26 h
                refine lv_iconst (v := 0) hx hb dL_isSum_256 (by decide) ?_
                cases h
                exact fin _ _ _ _ (nar_z (Or.inl rfl)) hP hS dL_isSum_257
              · have h := o_t b26 h
                refine lv_iconst (v := 1) hx hb dL_isSum_252 (by decide) ?_
                refine lv_goto (tgt := 257) hx hb dL_isSum_253 (by decide) ?_
                cases h
                exact fin _ _ _ _ (nar_z (Or.inr rfl)) hP hS dL_isSum_257
          · have b24 := mt (lg_cmp_eq _ _).mpr b24
            have h := o_f b24 h
            refine lv_iload hx hb dL_isSum_226 (lv_at hl 0 rfl) ?_
            refine lv_iconst (v := 2) hx hb dL_isSum_228 (by decide) ?_
            refine lv_icmp_ne (tgt := 236) hx hb dL_isSum_229 (by decide) (fun b27 => ?_) (fun b27 => ?_)
            · have h := o_f b27 h
              refine lv_iconst (v := 0) hx hb dL_isSum_236 (by decide) ?_
              refine lv_goto (tgt := 257) hx hb dL_isSum_237 (by decide) ?_
              cases h
              exact fin _ _ _ _ (nar_z (Or.inl rfl)) hP hS dL_isSum_257
            · have h := o_t b27 h
              refine lv_iconst (v := 1) hx hb dL_isSum_232 (by decide) ?_
              refine lv_goto (tgt := 257) hx hb dL_isSum_233 (by decide) ?_
              cases h
              exact fin _ _ _ _ (nar_z (Or.inr rfl)) hP hS dL_isSum_257
        · have b23 := mt (lg_cmp_eq _ _).mpr b23
          have h := o_f b23 h
          refine lv_iload hx hb dL_isSum_188 (lv_at hl 0 rfl) ?_
          refine lv_if_ne (tgt := 218) hx hb dL_isSum_190 (by decide) (fun b28 => ?_) (fun b28 => ?_)
          · have h := o_f b28 h
            refine lv_iconst (v := 0) hx hb dL_isSum_218 (by decide) ?_
            cases h
            exact fin _ _ _ _ (nar_z (Or.inl rfl)) hP hS dL_isSum_219
          · have h := o_t b28 h
            refine lv_aload_n hx hb dL_isSum_193 rfl (lv_at hl 1 rfl) ?_
            refine lv_iload_n hx hb dL_isSum_194 rfl (lv_at hl 2 rfl) ?_
            refine lv_iconst (v := 0) hx hb dL_isSum_195 (by decide) ?_
            obtain ⟨r29, c29, h⟩ := o_b h
            by_cases t30 : r29.1 = 0
            · have h := o_t t30 h
              refine mcallV X (As := [.int p2, .int 0]) (rest := []) (ws1 := wL_isSum g q_o q_o_xs q_o_ys q_p1 q_p1_answer q_p1_present q_p1_present_denominator q_p1_present_nodes q_p1_present_numerator q_p1_present_weights q_o_choices q_o_ws q_p1_text q_p1_trial q_p1_history q_p1_output q_p1_best q_p1_present_order q_p1_present_sorted q_p1_present_product q_p1_present_nodes_xs q_p1_present_nodes_ys q_p1_present_nodes_ws o_at o_n o_xs o_ys r29.2.2.2 r29.2.2.1 p1_present_denominator p1_present_nodes_count p1_present_nodes_mode p1_present_nodes_degree p1_present_numerator p1_present_weights) (st1 := [.long r29.2.1]) (nX6_value D g x l q_p1 q_p1_answer q_p1_present q_p1_present_denominator q_p1_present_numerator q_p1_text q_p1_trial q_p1_history q_p1_output q_p1_best q_p1_present_nodes q_p1_present_order q_p1_present_sorted q_p1_present_weights q_p1_present_product p1_answer_top p1_answer_bottom p1_present_denominator p1_present_numerator p2 0 r29 c29 t30) mw_X6_value ml_L_171 ⟨Nat.le_of_ble_eq_true rfl, Nat.le_of_ble_eq_true rfl⟩ hP hD hS [3, 4, 5, 6, 8] (by decide +kernel) rfl rfl 3 rfl rfl rfl hl.1 rfl (Nat.le_of_ble_eq_true rfl) dL_isSum_196 ⟨Nat.le_refl _, Nat.le_refl _⟩ rfl rfl (fun H locs hP hD hS => ?_)
              refine lv_lload hx hb dL_isSum_199 (lv_at hl 4 rfl) ?_
              refine lv_lmul hx hb dL_isSum_201 ?_
              refine lv_aload_n hx hb dL_isSum_202 rfl (lv_at hl 1 rfl) ?_
              refine lv_iload_n hx hb dL_isSum_203 rfl (lv_at hl 2 rfl) ?_
              refine lv_iconst (v := 1) hx hb dL_isSum_204 (by decide) ?_
              obtain ⟨r31, c31, h⟩ := o_b h
              by_cases t32 : r31.1 = 0
              · have h := o_t t32 h
                refine mcallV X (As := [.int p2, .int 1]) (rest := [.long (r29.2.1 * r11.2)]) (ws1 := wL_isSum g q_o q_o_xs q_o_ys q_p1 q_p1_answer q_p1_present q_p1_present_denominator q_p1_present_nodes q_p1_present_numerator q_p1_present_weights q_o_choices q_o_ws q_p1_text q_p1_trial q_p1_history q_p1_output q_p1_best q_p1_present_order q_p1_present_sorted q_p1_present_product q_p1_present_nodes_xs q_p1_present_nodes_ys q_p1_present_nodes_ws o_at o_n o_xs o_ys r31.2.2.2 r31.2.2.1 p1_present_denominator p1_present_nodes_count p1_present_nodes_mode p1_present_nodes_degree p1_present_numerator p1_present_weights) (st1 := [.long r31.2.1, .long (r29.2.1 * r11.2)]) (nX6_value D g x l q_p1 q_p1_answer q_p1_present q_p1_present_denominator q_p1_present_numerator q_p1_text q_p1_trial q_p1_history q_p1_output q_p1_best q_p1_present_nodes q_p1_present_order q_p1_present_sorted q_p1_present_weights q_p1_present_product r29.2.2.2 r29.2.2.1 p1_present_denominator p1_present_numerator p2 1 r31 c31 t32) mw_X6_value ml_L_171 ⟨Nat.le_of_ble_eq_true rfl, Nat.le_of_ble_eq_true rfl⟩ hP hD hS [3, 4, 5, 6, 8] (by decide +kernel) rfl rfl 3 rfl rfl rfl hl.1 rfl (Nat.le_of_ble_eq_true rfl) dL_isSum_205 ⟨Nat.le_refl _, Nat.le_refl _⟩ rfl rfl (fun H locs hP hD hS => ?_)
                refine lv_lload_n hx hb dL_isSum_208 rfl (lv_at hl 3 rfl) ?_
                refine lv_lmul hx hb dL_isSum_209 ?_
                refine W.lcmp hx hb dL_isSum_210 ?_
                refine lv_if_ne (tgt := 218) hx hb dL_isSum_211 (by decide) (fun b33 => ?_) (fun b33 => ?_)
                · have b33 := mt (lg_cmp_eq _ _).mpr b33
                  have h := o_f b33 h
                  refine lv_iconst (v := 0) hx hb dL_isSum_218 (by decide) ?_
                  cases h
                  exact fin _ _ _ _ (nar_z (Or.inl rfl)) hP hS dL_isSum_219
                · have b33 := (lg_cmp_eq _ _).mp b33
                  have h := o_t b33 h
                  refine lv_iconst (v := 1) hx hb dL_isSum_214 (by decide) ?_
                  refine lv_goto (tgt := 219) hx hb dL_isSum_215 (by decide) ?_
                  cases h
                  exact fin _ _ _ _ (nar_z (Or.inr rfl)) hP hS dL_isSum_219
              · have h := o_f t32 h
                cases h
            · have h := o_f t30 h
              cases h
      · have h := o_f t22 h
        cases h
    · have b20 := mt (lg_cmp_eq _ _).mpr b20
      have h := o_f b20 h
      refine lv_iconst (v := 0) hx hb dL_isSum_172 (by decide) ?_
      cases h
      exact fin _ _ _ _ (nar_z (Or.inl rfl)) hP hS dL_isSum_173
