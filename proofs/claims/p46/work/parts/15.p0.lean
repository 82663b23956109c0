abbrev wX0_sort (g : Nat → ClassId) (q_o q_o_nodes q_o_nodes_xs q_o_order q_o_sorted q_o_weights q_o_numerator q_o_denominator q_o_product q_o_nodes_ys q_o_nodes_ws : Nat)  (o_nodes_count : Int32) (o_nodes_mode : Int32) (o_nodes_degree : Int32) (o_nodes_xs : Nat → Int32) (o_order : Nat → Int32) (o_sorted : Nat → Int32) : va_W := [(q_o, .inr (0, [.ref q_o_nodes, .ref q_o_order, .ref q_o_sorted, .ref q_o_weights, .ref q_o_numerator, .ref q_o_denominator, .ref q_o_product])), (q_o_nodes, .inr (3, [.ref q_o_nodes_xs, .ref q_o_nodes_ys, .ref q_o_nodes_ws, .int o_nodes_count, .int o_nodes_mode, .int o_nodes_degree])), (q_o_nodes_xs, .inl (g 0, 5, .inl o_nodes_xs)), (q_o_order, .inl (g 0, 5, .inl o_order)), (q_o_sorted, .inl (g 0, 5, .inl o_sorted))]
set_option maxHeartbeats 4000000 in
set_option maxRecDepth 100000 in
theorem kX0_sort (D : va_G) (g : Nat → ClassId) (x : Xd) (l : Launch) (q_o q_o_nodes q_o_nodes_xs q_o_order q_o_sorted q_o_weights q_o_numerator q_o_denominator q_o_product q_o_nodes_ys q_o_nodes_ws : Nat)  (o_nodes_count : Int32) (o_nodes_mode : Int32) (o_nodes_degree : Int32) (o_nodes_xs : Nat → Int32) (o_order : Nat → Int32) (o_sorted : Nat → Int32) (R : (Nat → Int32) × (Nat → Int32)) (h : mX0_sort o_nodes_count o_nodes_xs o_order o_sorted = some R) : Cn D g x l yX0_sort cX0_sort 3 none 2 44 [.ref q_o] (wX0_sort g q_o q_o_nodes q_o_nodes_xs q_o_order q_o_sorted q_o_weights q_o_numerator q_o_denominator q_o_product q_o_nodes_ys q_o_nodes_ws o_nodes_count o_nodes_mode o_nodes_degree o_nodes_xs o_order o_sorted) (wX0_sort g q_o q_o_nodes q_o_nodes_xs q_o_order q_o_sorted q_o_weights q_o_numerator q_o_denominator q_o_product q_o_nodes_ys q_o_nodes_ws o_nodes_count o_nodes_mode o_nodes_degree o_nodes_xs R.1 R.2) none := by
  refine CnV (by decide +kernel) (Nat.le_of_ble_eq_true rfl) (fun p e s m args below meth c A Q ls X hD hP hS fin hl => ?_)
  obtain ⟨hx, hb, hml, -, -, hown, hts, hK, hA, hE⟩ := id X
  unfold mX0_sort at h
  have hl : lv_has ls 3 [(0, .ref q_o)] := hl
  refine lv_iconst (v := 0) hx hb dX0_sort_0 (by decide) ?_
  refine lv_istore_n (lv' := [(1, .int 0), (0, .ref q_o)]) hx hb dX0_sort_1 rfl hl (by decide) rfl (fun ls hl => ?_)
  have lp1 : ∀ (n : Nat) (v1_1 : Int32) (u1_o_order : Nat → Int32) (u1_o_sorted : Nat → Int32) (R1 : (Nat → Int32) × (Nat → Int32)) (h : lX0_sort_2 o_nodes_count o_nodes_xs n v1_1 u1_o_order u1_o_sorted = some R1) (H : Heap) (locs : List Loc), va_P D vwCl (wX0_sort g q_o q_o_nodes q_o_nodes_xs q_o_order q_o_sorted q_o_weights q_o_numerator q_o_denominator q_o_product q_o_nodes_ys q_o_nodes_ws o_nodes_count o_nodes_mode o_nodes_degree o_nodes_xs u1_o_order u1_o_sorted) H → va_D A (wX0_sort g q_o q_o_nodes q_o_nodes_xs q_o_order q_o_sorted q_o_weights q_o_numerator q_o_denominator q_o_product q_o_nodes_ys q_o_nodes_ws o_nodes_count o_nodes_mode o_nodes_degree o_nodes_xs u1_o_order u1_o_sorted) → va_S A s.heap H locs → ∀ (ls : Array Slot), lv_has ls 3 [(0, .ref q_o), (1, .int v1_1)] → (∀ (H : Heap) (locs : List Loc) (ls : Array Slot), va_P D vwCl (wX0_sort g q_o q_o_nodes q_o_nodes_xs q_o_order q_o_sorted q_o_weights q_o_numerator q_o_denominator q_o_product q_o_nodes_ys q_o_nodes_ws o_nodes_count o_nodes_mode o_nodes_degree o_nodes_xs R1.1 R1.2) H → va_D A (wX0_sort g q_o q_o_nodes q_o_nodes_xs q_o_order q_o_sorted q_o_weights q_o_numerator q_o_denominator q_o_product q_o_nodes_ys q_o_nodes_ws o_nodes_count o_nodes_mode o_nodes_degree o_nodes_xs R1.1 R1.2) → va_S A s.heap H locs → lv_has ls 3 [] → W p l e (rmF 2 44) s m args below meth c H locs 0 0 Q (F0 m 54 ls [])) → W p l e (rmF 2 44) s m args below meth c H locs 0 0 Q (F0 m 2 ls []) := by
    intro n
    induction n with
    | zero =>
      intro v1_1 u1_o_order u1_o_sorted R1 h
      have h : none = some R1 := h
      cases h
    | succ n ih1 =>
      intro v1_1 u1_o_order u1_o_sorted R1 h H locs hP hD hS ls hl K1_0
      have h : ((mX3_size o_nodes_count).bind fun r2 => if r2 ≤ v1_1 then some (u1_o_order, u1_o_sorted) else (mX3_placeOf o_nodes_count o_nodes_xs v1_1).bind fun r4 => if 5 ≤ r4 then lX0_sort_2 o_nodes_count o_nodes_xs n (v1_1 + 1) u1_o_order u1_o_sorted else if r4 < 0 ∨ 5 ≤ Int32.toNatClampNeg r4 then none else (mX3_xOf o_nodes_xs v1_1).bind fun r7 => if r4 < 0 ∨ 5 ≤ Int32.toNatClampNeg r4 then none else lX0_sort_2 o_nodes_count o_nodes_xs n (v1_1 + 1) (upd u1_o_order (Int32.toNatClampNeg r4) v1_1) (upd u1_o_sorted (Int32.toNatClampNeg r4) r7) : Option ((Nat → Int32) × (Nat → Int32))) = some R1 := h
      refine lv_iload_n hx hb dX0_sort_2 rfl (lv_at hl 1 rfl) ?_
      refine lv_aload_n hx hb dX0_sort_3 rfl (lv_at hl 0 rfl) ?_
      refine mget X fl_X0_12 hP 0 rfl rfl dX0_sort_4 ?_
      obtain ⟨r2, c2, h⟩ := o_b h
      refine mcallV X (As := []) (rest := [.int v1_1]) (ws1 := wX0_sort g q_o q_o_nodes q_o_nodes_xs q_o_order q_o_sorted q_o_weights q_o_numerator q_o_denominator q_o_product q_o_nodes_ys q_o_nodes_ws o_nodes_count o_nodes_mode o_nodes_degree o_nodes_xs u1_o_order u1_o_sorted) (st1 := [.int r2, .int v1_1]) (kX3_size D g x l q_o_nodes q_o_nodes_xs q_o_nodes_ys q_o_nodes_ws o_nodes_count o_nodes_mode o_nodes_degree  r2 c2) mw_X3_size ml_X0_47 ⟨Nat.le_of_ble_eq_true rfl, Nat.le_of_ble_eq_true rfl⟩ hP hD hS [1] (by decide +kernel) rfl rfl 1 rfl rfl rfl hl.1 rfl (Nat.le_of_ble_eq_true rfl) dX0_sort_7 ⟨Nat.le_refl _, Nat.le_refl _⟩ rfl rfl (fun H locs hP hD hS => ?_)
      refine lv_icmp_ge (tgt := 54) hx hb dX0_sort_10 (by decide) (fun b3 => ?_) (fun b3 => ?_)
      · have h := o_t b3 h
        cases h
        exact K1_0  _ _ _ hP hD hS (lv_sub hl [] rfl)
      · have h := o_f b3 h
        refine lv_aload_n hx hb dX0_sort_13 rfl (lv_at hl 0 rfl) ?_
        refine mget X fl_X0_12 hP 0 rfl rfl dX0_sort_14 ?_
        refine lv_iload_n hx hb dX0_sort_17 rfl (lv_at hl 1 rfl) ?_
        obtain ⟨r4, c4, h⟩ := o_b h
        refine mcallV X (As := [.int v1_1]) (rest := []) (ws1 := wX0_sort g q_o q_o_nodes q_o_nodes_xs q_o_order q_o_sorted q_o_weights q_o_numerator q_o_denominator q_o_product q_o_nodes_ys q_o_nodes_ws o_nodes_count o_nodes_mode o_nodes_degree o_nodes_xs u1_o_order u1_o_sorted) (st1 := [.int r4]) (kX3_placeOf D g x l q_o_nodes q_o_nodes_xs q_o_nodes_ys q_o_nodes_ws o_nodes_count o_nodes_mode o_nodes_degree o_nodes_xs v1_1 r4 c4) mw_X3_placeOf ml_X0_51 ⟨Nat.le_of_ble_eq_true rfl, Nat.le_of_ble_eq_true rfl⟩ hP hD hS [1, 2] (by decide +kernel) rfl rfl 1 rfl rfl rfl hl.1 rfl (Nat.le_of_ble_eq_true rfl) dX0_sort_18 ⟨Nat.le_refl _, Nat.le_refl _⟩ rfl rfl (fun H locs hP hD hS => ?_)
        refine lv_istore_n (lv' := [(2, .int r4), (0, .ref q_o), (1, .int v1_1)]) hx hb dX0_sort_21 rfl hl (by decide) rfl (fun ls hl => ?_)
        refine lv_iload_n hx hb dX0_sort_22 rfl (lv_at hl 0 rfl) ?_
        refine lv_iconst (v := 5) hx hb dX0_sort_23 (by decide) ?_
        refine lv_icmp_ge (tgt := 48) hx hb dX0_sort_24 (by decide) (fun b5 => ?_) (fun b5 => ?_)
        · have h := o_t b5 h
          refine lv_iinc (v := v1_1 + 1) (lv' := [(1, .int (v1_1 + 1)), (2, .int r4), (0, .ref q_o)]) hx hb dX0_sort_48 hl (k := 2) rfl rfl (by decide) rfl (fun ls hl => ?_)
          refine lv_goto (tgt := 2) hx hb dX0_sort_51 (by decide) ?_
          exact ih1 (v1_1 + 1) u1_o_order u1_o_sorted _ h _ _ hP hD hS _ (lv_sub hl [2, 0] rfl) K1_0
        · have h := o_f b5 h
          refine lv_aload_n hx hb dX0_sort_27 rfl (lv_at hl 1 rfl) ?_
          refine mget X fl_X0_18 hP 0 rfl rfl dX0_sort_28 ?_
          refine lv_iload_n hx hb dX0_sort_31 rfl (lv_at hl 0 rfl) ?_
          refine lv_iload_n hx hb dX0_sort_32 rfl (lv_at hl 2 rfl) ?_
          obtain ⟨b6, h⟩ := o_no h
          refine mist X (ws1 := wX0_sort g q_o q_o_nodes q_o_nodes_xs q_o_order q_o_sorted q_o_weights q_o_numerator q_o_denominator q_o_product q_o_nodes_ys q_o_nodes_ws o_nodes_count o_nodes_mode o_nodes_degree o_nodes_xs (upd u1_o_order (Int32.toNatClampNeg r4) v1_1) u1_o_sorted) hP hD hS 3 rfl b6 dX0_sort_33 rfl (fun H locs hP hD hS => ?_)
          refine lv_aload_n hx hb dX0_sort_34 rfl (lv_at hl 1 rfl) ?_
          refine mget X fl_X0_22 hP 0 rfl rfl dX0_sort_35 ?_
          refine lv_iload_n hx hb dX0_sort_38 rfl (lv_at hl 0 rfl) ?_
          refine lv_aload_n hx hb dX0_sort_39 rfl (lv_at hl 1 rfl) ?_
          refine mget X fl_X0_12 hP 0 rfl rfl dX0_sort_40 ?_
          refine lv_iload_n hx hb dX0_sort_43 rfl (lv_at hl 2 rfl) ?_
          obtain ⟨r7, c7, h⟩ := o_b h
          refine mcallV X (As := [.int v1_1]) (rest := [.int r4, .ref q_o_sorted]) (ws1 := wX0_sort g q_o q_o_nodes q_o_nodes_xs q_o_order q_o_sorted q_o_weights q_o_numerator q_o_denominator q_o_product q_o_nodes_ys q_o_nodes_ws o_nodes_count o_nodes_mode o_nodes_degree o_nodes_xs (upd u1_o_order (Int32.toNatClampNeg r4) v1_1) u1_o_sorted) (st1 := [.int r7, .int r4, .ref q_o_sorted]) (kX3_xOf D g x l q_o_nodes q_o_nodes_xs q_o_nodes_ys q_o_nodes_ws o_nodes_count o_nodes_mode o_nodes_degree o_nodes_xs v1_1 r7 c7) mw_X3_xOf ml_X0_55 ⟨Nat.le_of_ble_eq_true rfl, Nat.le_of_ble_eq_true rfl⟩ hP hD hS [1, 2] (by decide +kernel) rfl rfl 1 rfl rfl rfl hl.1 rfl (Nat.le_of_ble_eq_true rfl) dX0_sort_44 ⟨Nat.le_refl _, Nat.le_refl _⟩ rfl rfl (fun H locs hP hD hS => ?_)
          obtain ⟨b8, h⟩ := o_no h
          refine mist X (ws1 := wX0_sort g q_o q_o_nodes q_o_nodes_xs q_o_order q_o_sorted q_o_weights q_o_numerator q_o_denominator q_o_product q_o_nodes_ys q_o_nodes_ws o_nodes_count o_nodes_mode o_nodes_degree o_nodes_xs (upd u1_o_order (Int32.toNatClampNeg r4) v1_1) (upd u1_o_sorted (Int32.toNatClampNeg r4) r7)) hP hD hS 4 rfl b8 dX0_sort_47 rfl (fun H locs hP hD hS => ?_)
          refine lv_iinc (v := v1_1 + 1) (lv' := [(1, .int (v1_1 + 1)), (2, .int r4), (0, .ref q_o)]) hx hb dX0_sort_48 hl (k := 2) rfl rfl (by decide) rfl (fun ls hl => ?_)
          refine lv_goto (tgt := 2) hx hb dX0_sort_51 (by decide) ?_
          exact ih1 (v1_1 + 1) (upd u1_o_order (Int32.toNatClampNeg r4) v1_1) (upd u1_o_sorted (Int32.toNatClampNeg r4) r7) _ h _ _ hP hD hS _ (lv_sub hl [2, 0] rfl) K1_0
  obtain ⟨r9, c9, h⟩ := o_b h
  refine lp1 FU 0 o_order o_sorted r9 c9 _ _ hP hD hS _ (lv_sub hl [1, 0] rfl) (fun H locs ls hP hD hS hl => ?_)
  cases h
  exact fin _ _ _ _ hP hS dX0_sort_54
abbrev wX0_pairProduct (g : Nat → ClassId) (q_o q_o_nodes q_o_sorted q_o_order q_o_weights q_o_numerator q_o_denominator q_o_product q_o_nodes_xs q_o_nodes_ys q_o_nodes_ws : Nat)  (o_nodes_count : Int32) (o_nodes_mode : Int32) (o_nodes_degree : Int32) (o_sorted : Nat → Int32) : va_W := [(q_o, .inr (0, [.ref q_o_nodes, .ref q_o_order, .ref q_o_sorted, .ref q_o_weights, .ref q_o_numerator, .ref q_o_denominator, .ref q_o_product])), (q_o_nodes, .inr (3, [.ref q_o_nodes_xs, .ref q_o_nodes_ys, .ref q_o_nodes_ws, .int o_nodes_count, .int o_nodes_mode, .int o_nodes_degree])), (q_o_sorted, .inl (g 0, 5, .inl o_sorted))]
set_option maxHeartbeats 4000000 in
set_option maxRecDepth 100000 in
theorem kX0_pairProduct (D : va_G) (g : Nat → ClassId) (x : Xd) (l : Launch) (q_o q_o_nodes q_o_sorted q_o_order q_o_weights q_o_numerator q_o_denominator q_o_product q_o_nodes_xs q_o_nodes_ys q_o_nodes_ws : Nat)  (o_nodes_count : Int32) (o_nodes_mode : Int32) (o_nodes_degree : Int32) (o_sorted : Nat → Int32) (R : Int64) (h : mX0_pairProduct o_nodes_count o_sorted = some R) : Cn D g x l yX0_pairProduct cX0_pairProduct 5 (some .long) 1 20 [.ref q_o] (wX0_pairProduct g q_o q_o_nodes q_o_sorted q_o_order q_o_weights q_o_numerator q_o_denominator q_o_product q_o_nodes_xs q_o_nodes_ys q_o_nodes_ws o_nodes_count o_nodes_mode o_nodes_degree o_sorted) (wX0_pairProduct g q_o q_o_nodes q_o_sorted q_o_order q_o_weights q_o_numerator q_o_denominator q_o_product q_o_nodes_xs q_o_nodes_ys q_o_nodes_ws o_nodes_count o_nodes_mode o_nodes_degree o_sorted) (some (.long R)) := by
  refine CnL (by decide +kernel) (Nat.le_of_ble_eq_true rfl) (fun p e s m args below meth c A Q ls X hD hP hS fin hl => ?_)
  obtain ⟨hx, hb, hml, -, -, hown, hts, hK, hA, hE⟩ := id X
  unfold mX0_pairProduct at h
  have hl : lv_has ls 5 [(0, .ref q_o)] := hl
  refine lv_lconst (v := 1) hx hb dX0_pairProduct_0 (by decide) ?_
  refine lv_lstore_n (lv' := [(1, .long 1), (0, .ref q_o)]) hx hb dX0_pairProduct_1 rfl hl (by decide) rfl (fun ls hl => ?_)
  refine lv_iconst (v := 1) hx hb dX0_pairProduct_2 (by decide) ?_
  refine lv_istore_n (lv' := [(3, .int 1), (1, .long 1), (0, .ref q_o)]) hx hb dX0_pairProduct_3 rfl hl (by decide) rfl (fun ls hl => ?_)
  have lp1 : ∀ (n : Nat) (v1_1 : Int64) (v1_3 : Int32) (R1 : Int64) (h : lX0_pairProduct_4 o_nodes_count o_sorted n v1_1 v1_3 = some R1) (H : Heap) (locs : List Loc), va_P D vwCl (wX0_pairProduct g q_o q_o_nodes q_o_sorted q_o_order q_o_weights q_o_numerator q_o_denominator q_o_product q_o_nodes_xs q_o_nodes_ys q_o_nodes_ws o_nodes_count o_nodes_mode o_nodes_degree o_sorted) H → va_D A (wX0_pairProduct g q_o q_o_nodes q_o_sorted q_o_order q_o_weights q_o_numerator q_o_denominator q_o_product q_o_nodes_xs q_o_nodes_ys q_o_nodes_ws o_nodes_count o_nodes_mode o_nodes_degree o_sorted) → va_S A s.heap H locs → ∀ (ls : Array Slot), lv_has ls 5 [(0, .ref q_o), (1, .long v1_1), (3, .int v1_3)] → (∀ (H : Heap) (locs : List Loc) (ls : Array Slot), va_P D vwCl (wX0_pairProduct g q_o q_o_nodes q_o_sorted q_o_order q_o_weights q_o_numerator q_o_denominator q_o_product q_o_nodes_xs q_o_nodes_ys q_o_nodes_ws o_nodes_count o_nodes_mode o_nodes_degree o_sorted) H → va_D A (wX0_pairProduct g q_o q_o_nodes q_o_sorted q_o_order q_o_weights q_o_numerator q_o_denominator q_o_product q_o_nodes_xs q_o_nodes_ys q_o_nodes_ws o_nodes_count o_nodes_mode o_nodes_degree o_sorted) → va_S A s.heap H locs → lv_has ls 5 [(1, .long R1)] → W p l e (rmF 1 20) s m args below meth c H locs 0 0 Q (F0 m 59 ls [])) → W p l e (rmF 1 20) s m args below meth c H locs 0 0 Q (F0 m 4 ls []) := by
    intro n
    induction n with
    | zero =>
      intro v1_1 v1_3 R1 h
      have h : none = some R1 := h
      cases h
    | succ n ih1 =>
      intro v1_1 v1_3 R1 h H locs hP hD hS ls hl K1_0
      have h : ((mX3_size o_nodes_count).bind fun r2 => if r2 ≤ v1_3 then some v1_1 else if 5 ≤ v1_3 then some v1_1 else (lX0_pairProduct_23 v1_3 o_sorted FU v1_1 0).bind fun r9 => lX0_pairProduct_4 o_nodes_count o_sorted n r9 (v1_3 + 1) : Option (Int64)) = some R1 := h
      refine lv_iload_n hx hb dX0_pairProduct_4 rfl (lv_at hl 2 rfl) ?_
      refine lv_aload_n hx hb dX0_pairProduct_5 rfl (lv_at hl 0 rfl) ?_
      refine mget X fl_X0_12 hP 0 rfl rfl dX0_pairProduct_6 ?_
      obtain ⟨r2, c2, h⟩ := o_b h
      refine mcallV X (As := []) (rest := [.int v1_3]) (ws1 := wX0_pairProduct g q_o q_o_nodes q_o_sorted q_o_order q_o_weights q_o_numerator q_o_denominator q_o_product q_o_nodes_xs q_o_nodes_ys q_o_nodes_ws o_nodes_count o_nodes_mode o_nodes_degree o_sorted) (st1 := [.int r2, .int v1_3]) (kX3_size D g x l q_o_nodes q_o_nodes_xs q_o_nodes_ys q_o_nodes_ws o_nodes_count o_nodes_mode o_nodes_degree  r2 c2) mw_X3_size ml_X0_47 ⟨Nat.le_of_ble_eq_true rfl, Nat.le_of_ble_eq_true rfl⟩ hP hD hS [1] (by decide +kernel) rfl rfl 1 rfl rfl rfl hl.1 rfl (Nat.le_of_ble_eq_true rfl) dX0_pairProduct_9 ⟨Nat.le_refl _, Nat.le_refl _⟩ rfl rfl (fun H locs hP hD hS => ?_)
      refine lv_icmp_ge (tgt := 59) hx hb dX0_pairProduct_12 (by decide) (fun b3 => ?_) (fun b3 => ?_)
      · have h := o_t b3 h
        cases h
        exact K1_0  _ _ _ hP hD hS (lv_sub hl [1] rfl)
      · have h := o_f b3 h
        refine lv_iload_n hx hb dX0_pairProduct_15 rfl (lv_at hl 2 rfl) ?_
        refine lv_iconst (v := 5) hx hb dX0_pairProduct_16 (by decide) ?_
        refine lv_icmp_ge (tgt := 59) hx hb dX0_pairProduct_17 (by decide) (fun b4 => ?_) (fun b4 => ?_)
        · have h := o_t b4 h
          cases h
          exact K1_0  _ _ _ hP hD hS (lv_sub hl [1] rfl)
        · have h := o_f b4 h
          refine lv_iconst (v := 0) hx hb dX0_pairProduct_20 (by decide) ?_
          refine lv_istore (lv' := [(4, .int 0), (0, .ref q_o), (1, .long v1_1), (3, .int v1_3)]) hx hb dX0_pairProduct_21 hl (by decide) rfl (fun ls hl => ?_)
          have lp5 : ∀ (n : Nat) (v5_1 : Int64) (v5_4 : Int32) (R5 : Int64) (h : lX0_pairProduct_23 v1_3 o_sorted n v5_1 v5_4 = some R5) (H : Heap) (locs : List Loc), va_P D vwCl (wX0_pairProduct g q_o q_o_nodes q_o_sorted q_o_order q_o_weights q_o_numerator q_o_denominator q_o_product q_o_nodes_xs q_o_nodes_ys q_o_nodes_ws o_nodes_count o_nodes_mode o_nodes_degree o_sorted) H → va_D A (wX0_pairProduct g q_o q_o_nodes q_o_sorted q_o_order q_o_weights q_o_numerator q_o_denominator q_o_product q_o_nodes_xs q_o_nodes_ys q_o_nodes_ws o_nodes_count o_nodes_mode o_nodes_degree o_sorted) → va_S A s.heap H locs → ∀ (ls : Array Slot), lv_has ls 5 [(0, .ref q_o), (1, .long v5_1), (3, .int v1_3), (4, .int v5_4)] → (∀ (H : Heap) (locs : List Loc) (ls : Array Slot), va_P D vwCl (wX0_pairProduct g q_o q_o_nodes q_o_sorted q_o_order q_o_weights q_o_numerator q_o_denominator q_o_product q_o_nodes_xs q_o_nodes_ys q_o_nodes_ws o_nodes_count o_nodes_mode o_nodes_degree o_sorted) H → va_D A (wX0_pairProduct g q_o q_o_nodes q_o_sorted q_o_order q_o_weights q_o_numerator q_o_denominator q_o_product q_o_nodes_xs q_o_nodes_ys q_o_nodes_ws o_nodes_count o_nodes_mode o_nodes_degree o_sorted) → va_S A s.heap H locs → lv_has ls 5 [(0, .ref q_o), (1, .long R5), (3, .int v1_3)] → W p l e (rmF 1 20) s m args below meth c H locs 0 0 Q (F0 m 53 ls [])) → W p l e (rmF 1 20) s m args below meth c H locs 0 0 Q (F0 m 23 ls []) := by
            intro n
            induction n with
            | zero =>
              intro v5_1 v5_4 R5 h
              have h : none = some R5 := h
              cases h
            | succ n ih5 =>
              intro v5_1 v5_4 R5 h H locs hP hD hS ls hl K5_0
              have h : (if v1_3 ≤ v5_4 then some v5_1 else if v1_3 < 0 ∨ 5 ≤ Int32.toNatClampNeg v1_3 then none else if v5_4 < 0 ∨ 5 ≤ Int32.toNatClampNeg v5_4 then none else lX0_pairProduct_23 v1_3 o_sorted n (v5_1 * (Int32.toInt64 ((o_sorted (Int32.toNatClampNeg v1_3)) - (o_sorted (Int32.toNatClampNeg v5_4))))) (v5_4 + 1) : Option (Int64)) = some R5 := h
              refine lv_iload hx hb dX0_pairProduct_23 (lv_at hl 3 rfl) ?_
              refine lv_iload_n hx hb dX0_pairProduct_25 rfl (lv_at hl 2 rfl) ?_
              refine lv_icmp_ge (tgt := 53) hx hb dX0_pairProduct_26 (by decide) (fun b6 => ?_) (fun b6 => ?_)
              · have h := o_t b6 h
                cases h
                exact K5_0  _ _ _ hP hD hS (lv_sub hl [0, 1, 2] rfl)
              · have h := o_f b6 h
                refine lv_lload_n hx hb dX0_pairProduct_29 rfl (lv_at hl 1 rfl) ?_
                refine lv_aload_n hx hb dX0_pairProduct_30 rfl (lv_at hl 0 rfl) ?_
                refine mget X fl_X0_22 hP 0 rfl rfl dX0_pairProduct_31 ?_
                refine lv_iload_n hx hb dX0_pairProduct_34 rfl (lv_at hl 2 rfl) ?_
                obtain ⟨b7, h⟩ := o_no h
                refine mild X hP 2 rfl b7 dX0_pairProduct_35 ?_
                refine lv_aload_n hx hb dX0_pairProduct_36 rfl (lv_at hl 0 rfl) ?_
                refine mget X fl_X0_22 hP 0 rfl rfl dX0_pairProduct_37 ?_
                refine lv_iload hx hb dX0_pairProduct_40 (lv_at hl 3 rfl) ?_
                obtain ⟨b8, h⟩ := o_no h
                refine mild X hP 2 rfl b8 dX0_pairProduct_42 ?_
                refine lv_isub hx hb dX0_pairProduct_43 ?_
                refine lv_i2l (v := Int32.toInt64 ((o_sorted (Int32.toNatClampNeg v1_3)) - (o_sorted (Int32.toNatClampNeg v5_4)))) hx hb dX0_pairProduct_44 rfl ?_
                refine lv_lmul hx hb dX0_pairProduct_45 ?_
                refine lv_lstore_n (lv' := [(1, .long (v5_1 * (Int32.toInt64 ((o_sorted (Int32.toNatClampNeg v1_3)) - (o_sorted (Int32.toNatClampNeg v5_4)))))), (0, .ref q_o), (3, .int v1_3), (4, .int v5_4)]) hx hb dX0_pairProduct_46 rfl hl (by decide) rfl (fun ls hl => ?_)
                refine lv_iinc (v := v5_4 + 1) (lv' := [(4, .int (v5_4 + 1)), (1, .long (v5_1 * (Int32.toInt64 ((o_sorted (Int32.toNatClampNeg v1_3)) - (o_sorted (Int32.toNatClampNeg v5_4)))))), (0, .ref q_o), (3, .int v1_3)]) hx hb dX0_pairProduct_47 hl (k := 3) rfl rfl (by decide) rfl (fun ls hl => ?_)
                refine lv_goto (tgt := 23) hx hb dX0_pairProduct_50 (by decide) ?_
                exact ih5 (v5_1 * (Int32.toInt64 ((o_sorted (Int32.toNatClampNeg v1_3)) - (o_sorted (Int32.toNatClampNeg v5_4))))) (v5_4 + 1) _ h _ _ hP hD hS _ (lv_sub hl [2, 1, 3, 0] rfl) K5_0
          obtain ⟨r9, c9, h⟩ := o_b h
          refine lp5 FU v1_1 0 r9 c9 _ _ hP hD hS _ (lv_sub hl [1, 2, 3, 0] rfl) (fun H locs ls hP hD hS hl => ?_)
          refine lv_iinc (v := v1_3 + 1) (lv' := [(3, .int (v1_3 + 1)), (0, .ref q_o), (1, .long r9)]) hx hb dX0_pairProduct_53 hl (k := 2) rfl rfl (by decide) rfl (fun ls hl => ?_)
          refine lv_goto (tgt := 4) hx hb dX0_pairProduct_56 (by decide) ?_
          exact ih1 r9 (v1_3 + 1) _ h _ _ hP hD hS _ (lv_sub hl [1, 2, 0] rfl) K1_0
  obtain ⟨r10, c10, h⟩ := o_b h
  refine lp1 FU 1 1 r10 c10 _ _ hP hD hS _ (lv_sub hl [2, 1, 0] rfl) (fun H locs ls hP hD hS hl => ?_)
  refine lv_lload_n hx hb dX0_pairProduct_59 rfl (lv_at hl 0 rfl) ?_
  cases h
  exact fin _ _ _ _ hP hS dX0_pairProduct_60
abbrev wX0_scaledWeight (g : Nat → ClassId) (q_o q_o_nodes q_o_nodes_xs q_o_sorted q_o_order q_o_weights q_o_numerator q_o_denominator q_o_product q_o_nodes_ys q_o_nodes_ws : Nat)  (o_nodes_count : Int32) (o_nodes_mode : Int32) (o_nodes_degree : Int32) (o_nodes_xs : Nat → Int32) (o_sorted : Nat → Int32) : va_W := [(q_o, .inr (0, [.ref q_o_nodes, .ref q_o_order, .ref q_o_sorted, .ref q_o_weights, .ref q_o_numerator, .ref q_o_denominator, .ref q_o_product])), (q_o_nodes, .inr (3, [.ref q_o_nodes_xs, .ref q_o_nodes_ys, .ref q_o_nodes_ws, .int o_nodes_count, .int o_nodes_mode, .int o_nodes_degree])), (q_o_nodes_xs, .inl (g 0, 5, .inl o_nodes_xs)), (q_o_sorted, .inl (g 0, 5, .inl o_sorted))]
set_option maxHeartbeats 4000000 in
set_option maxRecDepth 100000 in
theorem kX0_scaledWeight (D : va_G) (g : Nat → ClassId) (x : Xd) (l : Launch) (q_o q_o_nodes q_o_nodes_xs q_o_sorted q_o_order q_o_weights q_o_numerator q_o_denominator q_o_product q_o_nodes_ys q_o_nodes_ws : Nat)  (o_nodes_count : Int32) (o_nodes_mode : Int32) (o_nodes_degree : Int32) (o_nodes_xs : Nat → Int32) (o_sorted : Nat → Int32) (p1 : Int32) (p2 : Int64) (R : Int64) (h : mX0_scaledWeight o_nodes_count o_nodes_degree o_nodes_mode o_nodes_xs o_sorted p1 p2 = some R) : Cn D g x l yX0_scaledWeight cX0_scaledWeight 14 (some .long) 2 44 [.ref q_o, .int p1, .long p2] (wX0_scaledWeight g q_o q_o_nodes q_o_nodes_xs q_o_sorted q_o_order q_o_weights q_o_numerator q_o_denominator q_o_product q_o_nodes_ys q_o_nodes_ws o_nodes_count o_nodes_mode o_nodes_degree o_nodes_xs o_sorted) (wX0_scaledWeight g q_o q_o_nodes q_o_nodes_xs q_o_sorted q_o_order q_o_weights q_o_numerator q_o_denominator q_o_product q_o_nodes_ys q_o_nodes_ws o_nodes_count o_nodes_mode o_nodes_degree o_nodes_xs o_sorted) (some (.long R)) := by
  refine CnL (by decide +kernel) (Nat.le_of_ble_eq_true rfl) (fun p e s m args below meth c A Q ls X hD hP hS fin hl => ?_)
  obtain ⟨hx, hb, hml, -, -, hown, hts, hK, hA, hE⟩ := id X
  unfold mX0_scaledWeight at h
  have hl : lv_has ls 14 [(0, .ref q_o), (1, .int p1), (2, .long p2)] := hl
  refine lv_aload_n hx hb dX0_scaledWeight_0 rfl (lv_at hl 0 rfl) ?_
  refine mget X fl_X0_12 hP 0 rfl rfl dX0_scaledWeight_1 ?_
  obtain ⟨r1, c1, h⟩ := o_b h
  refine mcallV X (As := []) (rest := []) (ws1 := wX0_scaledWeight g q_o q_o_nodes q_o_nodes_xs q_o_sorted q_o_order q_o_weights q_o_numerator q_o_denominator q_o_product q_o_nodes_ys q_o_nodes_ws o_nodes_count o_nodes_mode o_nodes_degree o_nodes_xs o_sorted) (st1 := [.int r1]) (kX3_size D g x l q_o_nodes q_o_nodes_xs q_o_nodes_ys q_o_nodes_ws o_nodes_count o_nodes_mode o_nodes_degree  r1 c1) mw_X3_size ml_X0_47 ⟨Nat.le_of_ble_eq_true rfl, Nat.le_of_ble_eq_true rfl⟩ hP hD hS [1] (by decide +kernel) rfl rfl 1 rfl rfl rfl hl.1 rfl (Nat.le_of_ble_eq_true rfl) dX0_scaledWeight_4 ⟨Nat.le_refl _, Nat.le_refl _⟩ rfl rfl (fun H locs hP hD hS => ?_)
  refine lv_iconst (v := 1) hx hb dX0_scaledWeight_7 (by decide) ?_
  refine lv_isub hx hb dX0_scaledWeight_8 ?_
  refine lv_istore (lv' := [(4, .int (r1 - 1)), (0, .ref q_o), (1, .int p1), (2, .long p2)]) hx hb dX0_scaledWeight_9 hl (by decide) rfl (fun ls hl => ?_)
  refine lv_aload_n hx hb dX0_scaledWeight_11 rfl (lv_at hl 1 rfl) ?_
  refine mget X fl_X0_12 hP 0 rfl rfl dX0_scaledWeight_12 ?_
  refine mget X fl_X0_62 hP 1 rfl rfl dX0_scaledWeight_15 ?_
  refine lv_if_ne (tgt := 26) hx hb dX0_scaledWeight_18 (by decide) (fun b2 => ?_) (fun b2 => ?_)
  · have h := o_f b2 h
    refine lv_aload_n hx hb dX0_scaledWeight_26 rfl (lv_at hl 1 rfl) ?_
    refine mget X fl_X0_12 hP 0 rfl rfl dX0_scaledWeight_27 ?_
    refine mget X fl_X0_79 hP 1 rfl rfl dX0_scaledWeight_30 ?_
    refine lv_iload hx hb dX0_scaledWeight_33 (lv_at hl 0 rfl) ?_
    refine mmini X ml_X0_82 hl.1 (Nat.le_of_ble_eq_true rfl) (Nat.le_of_ble_eq_true rfl) dX0_scaledWeight_35 ?_
    refine lv_istore (lv' := [(5, .int (mmini_v o_nodes_degree (r1 - 1))), (4, .int (r1 - 1)), (0, .ref q_o), (1, .int p1), (2, .long p2)]) hx hb dX0_scaledWeight_38 hl (by decide) rfl (fun ls hl => ?_)
    refine lv_aload_n hx hb dX0_scaledWeight_40 rfl (lv_at hl 2 rfl) ?_
    refine mget X fl_X0_12 hP 0 rfl rfl dX0_scaledWeight_41 ?_
    refine lv_iload_n hx hb dX0_scaledWeight_44 rfl (lv_at hl 3 rfl) ?_
    obtain ⟨r3, c3, h⟩ := o_b h
    refine mcallV X (As := [.int p1]) (rest := []) (ws1 := wX0_scaledWeight g q_o q_o_nodes q_o_nodes_xs q_o_sorted q_o_order q_o_weights q_o_numerator q_o_denominator q_o_product q_o_nodes_ys q_o_nodes_ws o_nodes_count o_nodes_mode o_nodes_degree o_nodes_xs o_sorted) (st1 := [.int r3]) (kX3_placeOf D g x l q_o_nodes q_o_nodes_xs q_o_nodes_ys q_o_nodes_ws o_nodes_count o_nodes_mode o_nodes_degree o_nodes_xs p1 r3 c3) mw_X3_placeOf ml_X0_51 ⟨Nat.le_of_ble_eq_true rfl, Nat.le_of_ble_eq_true rfl⟩ hP hD hS [1, 2] (by decide +kernel) rfl rfl 1 rfl rfl rfl hl.1 rfl (Nat.le_of_ble_eq_true rfl) dX0_scaledWeight_45 ⟨Nat.le_refl _, Nat.le_refl _⟩ rfl rfl (fun H locs hP hD hS => ?_)
    refine lv_istore (lv' := [(6, .int r3), (5, .int (mmini_v o_nodes_degree (r1 - 1))), (4, .int (r1 - 1)), (0, .ref q_o), (1, .int p1), (2, .long p2)]) hx hb dX0_scaledWeight_48 hl (by decide) rfl (fun ls hl => ?_)
    refine lv_iload hx hb dX0_scaledWeight_50 (lv_at hl 0 rfl) ?_
    refine lv_iload hx hb dX0_scaledWeight_52 (lv_at hl 2 rfl) ?_
    refine lv_iload hx hb dX0_scaledWeight_54 (lv_at hl 1 rfl) ?_
    refine lv_isub hx hb dX0_scaledWeight_56 ?_
    refine mmini X ml_X0_82 hl.1 (Nat.le_of_ble_eq_true rfl) (Nat.le_of_ble_eq_true rfl) dX0_scaledWeight_57 ?_
    refine lv_istore (lv' := [(7, .int (mmini_v r3 ((r1 - 1) - (mmini_v o_nodes_degree (r1 - 1))))), (6, .int r3), (5, .int (mmini_v o_nodes_degree (r1 - 1))), (4, .int (r1 - 1)), (0, .ref q_o), (1, .int p1), (2, .long p2)]) hx hb dX0_scaledWeight_60 hl (by decide) rfl (fun ls hl => ?_)
    refine lv_lconst (v := 0) hx hb dX0_scaledWeight_62 (by decide) ?_
    refine lv_lstore (lv' := [(8, .long 0), (7, .int (mmini_v r3 ((r1 - 1) - (mmini_v o_nodes_degree (r1 - 1))))), (6, .int r3), (5, .int (mmini_v o_nodes_degree (r1 - 1))), (4, .int (r1 - 1)), (0, .ref q_o), (1, .int p1), (2, .long p2)]) hx hb dX0_scaledWeight_63 hl (by decide) rfl (fun ls hl => ?_)
    refine lv_iconst (v := 0) hx hb dX0_scaledWeight_65 (by decide) ?_
    refine lv_iload hx hb dX0_scaledWeight_66 (lv_at hl 2 rfl) ?_
    refine lv_iload hx hb dX0_scaledWeight_68 (lv_at hl 3 rfl) ?_
    refine lv_isub hx hb dX0_scaledWeight_70 ?_
    refine mmaxi X ml_X0_88 hl.1 (Nat.le_of_ble_eq_true rfl) (Nat.le_of_ble_eq_true rfl) dX0_scaledWeight_71 ?_
    refine lv_istore (lv' := [(10, .int (mmaxi_v 0 (r3 - (mmini_v o_nodes_degree (r1 - 1))))), (8, .long 0), (7, .int (mmini_v r3 ((r1 - 1) - (mmini_v o_nodes_degree (r1 - 1))))), (6, .int r3), (5, .int (mmini_v o_nodes_degree (r1 - 1))), (4, .int (r1 - 1)), (0, .ref q_o), (1, .int p1), (2, .long p2)]) hx hb dX0_scaledWeight_74 hl (by decide) rfl (fun ls hl => ?_)
    have lp4 : ∀ (n : Nat) (v4_8 : Int64) (v4_10 : Int32) (R4 : Int64) (h : lX0_scaledWeight_76 p1 p2 (mmini_v o_nodes_degree (r1 - 1)) r3 (mmini_v r3 ((r1 - 1) - (mmini_v o_nodes_degree (r1 - 1)))) o_nodes_xs o_sorted n v4_8 v4_10 = some R4) (H : Heap) (locs : List Loc), va_P D vwCl (wX0_scaledWeight g q_o q_o_nodes q_o_nodes_xs q_o_sorted q_o_order q_o_weights q_o_numerator q_o_denominator q_o_product q_o_nodes_ys q_o_nodes_ws o_nodes_count o_nodes_mode o_nodes_degree o_nodes_xs o_sorted) H → va_D A (wX0_scaledWeight g q_o q_o_nodes q_o_nodes_xs q_o_sorted q_o_order q_o_weights q_o_numerator q_o_denominator q_o_product q_o_nodes_ys q_o_nodes_ws o_nodes_count o_nodes_mode o_nodes_degree o_nodes_xs o_sorted) → va_S A s.heap H locs → ∀ (ls : Array Slot), lv_has ls 14 [(0, .ref q_o), (1, .int p1), (2, .long p2), (5, .int (mmini_v o_nodes_degree (r1 - 1))), (6, .int r3), (7, .int (mmini_v r3 ((r1 - 1) - (mmini_v o_nodes_degree (r1 - 1))))), (8, .long v4_8), (10, .int v4_10)] → (∀ (H : Heap) (locs : List Loc) (ls : Array Slot), va_P D vwCl (wX0_scaledWeight g q_o q_o_nodes q_o_nodes_xs q_o_sorted q_o_order q_o_weights q_o_numerator q_o_denominator q_o_product q_o_nodes_ys q_o_nodes_ws o_nodes_count o_nodes_mode o_nodes_degree o_nodes_xs o_sorted) H → va_D A (wX0_scaledWeight g q_o q_o_nodes q_o_nodes_xs q_o_sorted q_o_order q_o_weights q_o_numerator q_o_denominator q_o_product q_o_nodes_ys q_o_nodes_ws o_nodes_count o_nodes_mode o_nodes_degree o_nodes_xs o_sorted) → va_S A s.heap H locs → lv_has ls 14 [(8, .long R4)] → W p l e (rmF 2 44) s m args below meth c H locs 0 0 Q (F0 m 179 ls [])) → W p l e (rmF 2 44) s m args below meth c H locs 0 0 Q (F0 m 76 ls []) := by
      intro n
      induction n with
      | zero =>
        intro v4_8 v4_10 R4 h
        have h : none = some R4 := h
        cases h
      | succ n ih4 =>
        intro v4_8 v4_10 R4 h H locs hP hD hS ls hl K4_0
        have h : (if (mmini_v r3 ((r1 - 1) - (mmini_v o_nodes_degree (r1 - 1)))) < v4_10 then some v4_8 else (lX0_scaledWeight_90 p1 (mmini_v o_nodes_degree (r1 - 1)) r3 v4_10 o_nodes_xs o_sorted FU 1 v4_10).bind fun r12 => if r12 = 0 then lX0_scaledWeight_76 p1 p2 (mmini_v o_nodes_degree (r1 - 1)) r3 (mmini_v r3 ((r1 - 1) - (mmini_v o_nodes_degree (r1 - 1)))) o_nodes_xs o_sorted n v4_8 (v4_10 + 1) else if (v4_10 - v4_10 / 2 * 2) = 0 then if r12 = 0 then none else lX0_scaledWeight_76 p1 p2 (mmini_v o_nodes_degree (r1 - 1)) r3 (mmini_v r3 ((r1 - 1) - (mmini_v o_nodes_degree (r1 - 1)))) o_nodes_xs o_sorted n (v4_8 + (p2 / r12)) (v4_10 + 1) else if r12 = 0 then none else lX0_scaledWeight_76 p1 p2 (mmini_v o_nodes_degree (r1 - 1)) r3 (mmini_v r3 ((r1 - 1) - (mmini_v o_nodes_degree (r1 - 1)))) o_nodes_xs o_sorted n (v4_8 + ((-p2) / r12)) (v4_10 + 1) : Option (Int64)) = some R4 := h
        refine lv_iload hx hb dX0_scaledWeight_76 (lv_at hl 7 rfl) ?_
        refine lv_iload hx hb dX0_scaledWeight_78 (lv_at hl 5 rfl) ?_
        refine lv_icmp_gt (tgt := 179) hx hb dX0_scaledWeight_80 (by decide) (fun b5 => ?_) (fun b5 => ?_)
        · have h := o_t b5 h
          cases h
          exact K4_0  _ _ _ hP hD hS (lv_sub hl [6] rfl)
        · have h := o_f b5 h
          refine lv_lconst (v := 1) hx hb dX0_scaledWeight_83 (by decide) ?_
          refine lv_lstore (lv' := [(11, .long 1), (0, .ref q_o), (1, .int p1), (2, .long p2), (5, .int (mmini_v o_nodes_degree (r1 - 1))), (6, .int r3), (7, .int (mmini_v r3 ((r1 - 1) - (mmini_v o_nodes_degree (r1 - 1))))), (8, .long v4_8), (10, .int v4_10)]) hx hb dX0_scaledWeight_84 hl (by decide) rfl (fun ls hl => ?_)
          refine lv_iload hx hb dX0_scaledWeight_86 (lv_at hl 8 rfl) ?_
          refine lv_istore (lv' := [(13, .int v4_10), (11, .long 1), (0, .ref q_o), (1, .int p1), (2, .long p2), (5, .int (mmini_v o_nodes_degree (r1 - 1))), (6, .int r3), (7, .int (mmini_v r3 ((r1 - 1) - (mmini_v o_nodes_degree (r1 - 1))))), (8, .long v4_8), (10, .int v4_10)]) hx hb dX0_scaledWeight_88 hl (by decide) rfl (fun ls hl => ?_)
          have lp6 : ∀ (n : Nat) (v6_11 : Int64) (v6_13 : Int32) (R6 : Int64) (h : lX0_scaledWeight_90 p1 (mmini_v o_nodes_degree (r1 - 1)) r3 v4_10 o_nodes_xs o_sorted n v6_11 v6_13 = some R6) (H : Heap) (locs : List Loc), va_P D vwCl (wX0_scaledWeight g q_o q_o_nodes q_o_nodes_xs q_o_sorted q_o_order q_o_weights q_o_numerator q_o_denominator q_o_product q_o_nodes_ys q_o_nodes_ws o_nodes_count o_nodes_mode o_nodes_degree o_nodes_xs o_sorted) H → va_D A (wX0_scaledWeight g q_o q_o_nodes q_o_nodes_xs q_o_sorted q_o_order q_o_weights q_o_numerator q_o_denominator q_o_product q_o_nodes_ys q_o_nodes_ws o_nodes_count o_nodes_mode o_nodes_degree o_nodes_xs o_sorted) → va_S A s.heap H locs → ∀ (ls : Array Slot), lv_has ls 14 [(0, .ref q_o), (1, .int p1), (2, .long p2), (5, .int (mmini_v o_nodes_degree (r1 - 1))), (6, .int r3), (7, .int (mmini_v r3 ((r1 - 1) - (mmini_v o_nodes_degree (r1 - 1))))), (8, .long v4_8), (10, .int v4_10), (11, .long v6_11), (13, .int v6_13)] → (∀ (H : Heap) (locs : List Loc) (ls : Array Slot), va_P D vwCl (wX0_scaledWeight g q_o q_o_nodes q_o_nodes_xs q_o_sorted q_o_order q_o_weights q_o_numerator q_o_denominator q_o_product q_o_nodes_ys q_o_nodes_ws o_nodes_count o_nodes_mode o_nodes_degree o_nodes_xs o_sorted) H → va_D A (wX0_scaledWeight g q_o q_o_nodes q_o_nodes_xs q_o_sorted q_o_order q_o_weights q_o_numerator q_o_denominator q_o_product q_o_nodes_ys q_o_nodes_ws o_nodes_count o_nodes_mode o_nodes_degree o_nodes_xs o_sorted) → va_S A s.heap H locs → lv_has ls 14 [(0, .ref q_o), (1, .int p1), (2, .long p2), (5, .int (mmini_v o_nodes_degree (r1 - 1))), (6, .int r3), (7, .int (mmini_v r3 ((r1 - 1) - (mmini_v o_nodes_degree (r1 - 1))))), (8, .long v4_8), (10, .int v4_10), (11, .long R6)] → W p l e (rmF 2 44) s m args below meth c H locs 0 0 Q (F0 m 145 ls [])) → W p l e (rmF 2 44) s m args below meth c H locs 0 0 Q (F0 m 90 ls []) := by
            intro n
            induction n with
            | zero =>
              intro v6_11 v6_13 R6 h
              have h : none = some R6 := h
              cases h
            | succ n ih6 =>
              intro v6_11 v6_13 R6 h H locs hP hD hS ls hl K6_0
              have h : (if (v4_10 + (mmini_v o_nodes_degree (r1 - 1))) < v6_13 then some v6_11 else if 5 ≤ v6_13 then some v6_11 else if v6_13 = r3 then lX0_scaledWeight_90 p1 (mmini_v o_nodes_degree (r1 - 1)) r3 v4_10 o_nodes_xs o_sorted n (v6_11 * 1) (v6_13 + 1) else (mX3_xOf o_nodes_xs p1).bind fun r10 => if v6_13 < 0 ∨ 5 ≤ Int32.toNatClampNeg v6_13 then none else lX0_scaledWeight_90 p1 (mmini_v o_nodes_degree (r1 - 1)) r3 v4_10 o_nodes_xs o_sorted n (v6_11 * (Int32.toInt64 (r10 - (o_sorted (Int32.toNatClampNeg v6_13))))) (v6_13 + 1) : Option (Int64)) = some R6 := h
              refine lv_iload hx hb dX0_scaledWeight_90 (lv_at hl 9 rfl) ?_
              refine lv_iload hx hb dX0_scaledWeight_92 (lv_at hl 7 rfl) ?_
              refine lv_iload hx hb dX0_scaledWeight_94 (lv_at hl 3 rfl) ?_
              refine lv_iadd hx hb dX0_scaledWeight_96 ?_
              refine lv_icmp_gt (tgt := 145) hx hb dX0_scaledWeight_97 (by decide) (fun b7 => ?_) (fun b7 => ?_)
              · have h := o_t b7 h
                cases h
                exact K6_0  _ _ _ hP hD hS (lv_sub hl [0, 1, 2, 3, 4, 5, 6, 7, 8] rfl)
              · have h := o_f b7 h
                refine lv_iload hx hb dX0_scaledWeight_100 (lv_at hl 9 rfl) ?_
                refine lv_iconst (v := 5) hx hb dX0_scaledWeight_102 (by decide) ?_
                refine lv_icmp_ge (tgt := 145) hx hb dX0_scaledWeight_103 (by decide) (fun b8 => ?_) (fun b8 => ?_)
                · have h := o_t b8 h
                  cases h
                  exact K6_0  _ _ _ hP hD hS (lv_sub hl [0, 1, 2, 3, 4, 5, 6, 7, 8] rfl)
                · have h := o_f b8 h
                  refine lv_lload hx hb dX0_scaledWeight_106 (lv_at hl 8 rfl) ?_
                  refine lv_iload hx hb dX0_scaledWeight_108 (lv_at hl 9 rfl) ?_
                  refine lv_iload hx hb dX0_scaledWeight_110 (lv_at hl 4 rfl) ?_
                  refine lv_icmp_ne (tgt := 119) hx hb dX0_scaledWeight_112 (by decide) (fun b9 => ?_) (fun b9 => ?_)
                  · have h := o_f b9 h
                    refine lv_aload_n hx hb dX0_scaledWeight_119 rfl (lv_at hl 0 rfl) ?_
                    refine mget X fl_X0_12 hP 0 rfl rfl dX0_scaledWeight_120 ?_
                    refine lv_iload_n hx hb dX0_scaledWeight_123 rfl (lv_at hl 1 rfl) ?_
                    obtain ⟨r10, c10, h⟩ := o_b h
                    refine mcallV X (As := [.int p1]) (rest := [.long v6_11]) (ws1 := wX0_scaledWeight g q_o q_o_nodes q_o_nodes_xs q_o_sorted q_o_order q_o_weights q_o_numerator q_o_denominator q_o_product q_o_nodes_ys q_o_nodes_ws o_nodes_count o_nodes_mode o_nodes_degree o_nodes_xs o_sorted) (st1 := [.int r10, .long v6_11]) (kX3_xOf D g x l q_o_nodes q_o_nodes_xs q_o_nodes_ys q_o_nodes_ws o_nodes_count o_nodes_mode o_nodes_degree o_nodes_xs p1 r10 c10) mw_X3_xOf ml_X0_55 ⟨Nat.le_of_ble_eq_true rfl, Nat.le_of_ble_eq_true rfl⟩ hP hD hS [1, 2] (by decide +kernel) rfl rfl 1 rfl rfl rfl hl.1 rfl (Nat.le_of_ble_eq_true rfl) dX0_scaledWeight_124 ⟨Nat.le_refl _, Nat.le_refl _⟩ rfl rfl (fun H locs hP hD hS => ?_)
                    refine lv_aload_n hx hb dX0_scaledWeight_127 rfl (lv_at hl 0 rfl) ?_
                    refine mget X fl_X0_22 hP 0 rfl rfl dX0_scaledWeight_128 ?_
                    refine lv_iload hx hb dX0_scaledWeight_131 (lv_at hl 9 rfl) ?_
                    obtain ⟨b11, h⟩ := o_no h
                    refine mild X hP 3 rfl b11 dX0_scaledWeight_133 ?_
                    refine lv_isub hx hb dX0_scaledWeight_134 ?_
                    refine lv_i2l (v := Int32.toInt64 (r10 - (o_sorted (Int32.toNatClampNeg v6_13)))) hx hb dX0_scaledWeight_135 rfl ?_
                    refine lv_lmul hx hb dX0_scaledWeight_136 ?_
                    refine lv_lstore (lv' := [(11, .long (v6_11 * (Int32.toInt64 (r10 - (o_sorted (Int32.toNatClampNeg v6_13)))))), (0, .ref q_o), (1, .int p1), (2, .long p2), (5, .int (mmini_v o_nodes_degree (r1 - 1))), (6, .int r3), (7, .int (mmini_v r3 ((r1 - 1) - (mmini_v o_nodes_degree (r1 - 1))))), (8, .long v4_8), (10, .int v4_10), (13, .int v6_13)]) hx hb dX0_scaledWeight_137 hl (by decide) rfl (fun ls hl => ?_)
                    refine lv_iinc (v := v6_13 + 1) (lv' := [(13, .int (v6_13 + 1)), (11, .long (v6_11 * (Int32.toInt64 (r10 - (o_sorted (Int32.toNatClampNeg v6_13)))))), (0, .ref q_o), (1, .int p1), (2, .long p2), (5, .int (mmini_v o_nodes_degree (r1 - 1))), (6, .int r3), (7, .int (mmini_v r3 ((r1 - 1) - (mmini_v o_nodes_degree (r1 - 1))))), (8, .long v4_8), (10, .int v4_10)]) hx hb dX0_scaledWeight_139 hl (k := 9) rfl rfl (by decide) rfl (fun ls hl => ?_)
                    refine lv_goto (tgt := 90) hx hb dX0_scaledWeight_142 (by decide) ?_
                    exact ih6 (v6_11 * (Int32.toInt64 (r10 - (o_sorted (Int32.toNatClampNeg v6_13))))) (v6_13 + 1) _ h _ _ hP hD hS _ (lv_sub hl [2, 3, 4, 5, 6, 7, 8, 9, 1, 0] rfl) K6_0
                  · have h := o_t b9 h
                    refine lv_lconst (v := 1) hx hb dX0_scaledWeight_115 (by decide) ?_
                    refine lv_goto (tgt := 136) hx hb dX0_scaledWeight_116 (by decide) ?_
                    refine lv_lmul hx hb dX0_scaledWeight_136 ?_
                    refine lv_lstore (lv' := [(11, .long (v6_11 * 1)), (0, .ref q_o), (1, .int p1), (2, .long p2), (5, .int (mmini_v o_nodes_degree (r1 - 1))), (6, .int r3), (7, .int (mmini_v r3 ((r1 - 1) - (mmini_v o_nodes_degree (r1 - 1))))), (8, .long v4_8), (10, .int v4_10), (13, .int v6_13)]) hx hb dX0_scaledWeight_137 hl (by decide) rfl (fun ls hl => ?_)
                    refine lv_iinc (v := v6_13 + 1) (lv' := [(13, .int (v6_13 + 1)), (11, .long (v6_11 * 1)), (0, .ref q_o), (1, .int p1), (2, .long p2), (5, .int (mmini_v o_nodes_degree (r1 - 1))), (6, .int r3), (7, .int (mmini_v r3 ((r1 - 1) - (mmini_v o_nodes_degree (r1 - 1))))), (8, .long v4_8), (10, .int v4_10)]) hx hb dX0_scaledWeight_139 hl (k := 9) rfl rfl (by decide) rfl (fun ls hl => ?_)
                    refine lv_goto (tgt := 90) hx hb dX0_scaledWeight_142 (by decide) ?_
                    exact ih6 (v6_11 * 1) (v6_13 + 1) _ h _ _ hP hD hS _ (lv_sub hl [2, 3, 4, 5, 6, 7, 8, 9, 1, 0] rfl) K6_0
          obtain ⟨r12, c12, h⟩ := o_b h
          refine lp6 FU 1 v4_10 r12 c12 _ _ hP hD hS _ (lv_sub hl [2, 3, 4, 5, 6, 7, 8, 9, 1, 0] rfl) (fun H locs ls hP hD hS hl => ?_)
          refine lv_lload hx hb dX0_scaledWeight_145 (lv_at hl 8 rfl) ?_
          refine lv_lconst (v := 0) hx hb dX0_scaledWeight_147 (by decide) ?_
          refine W.lcmp hx hb dX0_scaledWeight_148 ?_
          refine lv_if_eq (tgt := 173) hx hb dX0_scaledWeight_149 (by decide) (fun b13 => ?_) (fun b13 => ?_)
          · have b13 := (lg_cmp_eq _ _).mp b13
            have h := o_t b13 h
            refine lv_iinc (v := v4_10 + 1) (lv' := [(10, .int (v4_10 + 1)), (0, .ref q_o), (1, .int p1), (2, .long p2), (5, .int (mmini_v o_nodes_degree (r1 - 1))), (6, .int r3), (7, .int (mmini_v r3 ((r1 - 1) - (mmini_v o_nodes_degree (r1 - 1))))), (8, .long v4_8), (11, .long r12)]) hx hb dX0_scaledWeight_173 hl (k := 7) rfl rfl (by decide) rfl (fun ls hl => ?_)
            refine lv_goto (tgt := 76) hx hb dX0_scaledWeight_176 (by decide) ?_
            exact ih4 v4_8 (v4_10 + 1) _ h _ _ hP hD hS _ (lv_sub hl [1, 2, 3, 4, 5, 6, 7, 0] rfl) K4_0
          · have b13 := mt (lg_cmp_eq _ _).mpr b13
            have h := o_f b13 h
            refine lv_lload hx hb dX0_scaledWeight_152 (lv_at hl 6 rfl) ?_
            refine lv_iload hx hb dX0_scaledWeight_154 (lv_at hl 7 rfl) ?_
            refine lv_iconst (v := 2) hx hb dX0_scaledWeight_156 (by decide) ?_
            refine lv_irem (x := v4_10) (y := 2) hx hb dX0_scaledWeight_157 (by decide) ?_
            refine lv_if_ne (tgt := 165) hx hb dX0_scaledWeight_158 (by decide) (fun b14 => ?_) (fun b14 => ?_)
            · have h := o_f b14 h
              refine lv_lload_n hx hb dX0_scaledWeight_165 rfl (lv_at hl 2 rfl) ?_
              refine lv_lneg hx hb dX0_scaledWeight_166 ?_
              refine lv_lload hx hb dX0_scaledWeight_167 (lv_at hl 8 rfl) ?_
              obtain ⟨b15, h⟩ := o_no h
              refine lv_ldiv (x := (-p2)) (y := r12) hx hb dX0_scaledWeight_169 b15 ?_
              refine lv_ladd hx hb dX0_scaledWeight_170 ?_
              refine lv_lstore (lv' := [(8, .long (v4_8 + ((-p2) / r12))), (0, .ref q_o), (1, .int p1), (2, .long p2), (5, .int (mmini_v o_nodes_degree (r1 - 1))), (6, .int r3), (7, .int (mmini_v r3 ((r1 - 1) - (mmini_v o_nodes_degree (r1 - 1))))), (10, .int v4_10), (11, .long r12)]) hx hb dX0_scaledWeight_171 hl (by decide) rfl (fun ls hl => ?_)
              refine lv_iinc (v := v4_10 + 1) (lv' := [(10, .int (v4_10 + 1)), (8, .long (v4_8 + ((-p2) / r12))), (0, .ref q_o), (1, .int p1), (2, .long p2), (5, .int (mmini_v o_nodes_degree (r1 - 1))), (6, .int r3), (7, .int (mmini_v r3 ((r1 - 1) - (mmini_v o_nodes_degree (r1 - 1))))), (11, .long r12)]) hx hb dX0_scaledWeight_173 hl (k := 7) rfl rfl (by decide) rfl (fun ls hl => ?_)
              refine lv_goto (tgt := 76) hx hb dX0_scaledWeight_176 (by decide) ?_
              exact ih4 (v4_8 + ((-p2) / r12)) (v4_10 + 1) _ h _ _ hP hD hS _ (lv_sub hl [2, 3, 4, 5, 6, 7, 1, 0] rfl) K4_0
            · have h := o_t b14 h
              refine lv_lload_n hx hb dX0_scaledWeight_161 rfl (lv_at hl 2 rfl) ?_
              refine lv_goto (tgt := 167) hx hb dX0_scaledWeight_162 (by decide) ?_
              refine lv_lload hx hb dX0_scaledWeight_167 (lv_at hl 8 rfl) ?_
              obtain ⟨b16, h⟩ := o_no h
              refine lv_ldiv (x := p2) (y := r12) hx hb dX0_scaledWeight_169 b16 ?_
              refine lv_ladd hx hb dX0_scaledWeight_170 ?_
              refine lv_lstore (lv' := [(8, .long (v4_8 + (p2 / r12))), (0, .ref q_o), (1, .int p1), (2, .long p2), (5, .int (mmini_v o_nodes_degree (r1 - 1))), (6, .int r3), (7, .int (mmini_v r3 ((r1 - 1) - (mmini_v o_nodes_degree (r1 - 1))))), (10, .int v4_10), (11, .long r12)]) hx hb dX0_scaledWeight_171 hl (by decide) rfl (fun ls hl => ?_)
              refine lv_iinc (v := v4_10 + 1) (lv' := [(10, .int (v4_10 + 1)), (8, .long (v4_8 + (p2 / r12))), (0, .ref q_o), (1, .int p1), (2, .long p2), (5, .int (mmini_v o_nodes_degree (r1 - 1))), (6, .int r3), (7, .int (mmini_v r3 ((r1 - 1) - (mmini_v o_nodes_degree (r1 - 1))))), (11, .long r12)]) hx hb dX0_scaledWeight_173 hl (k := 7) rfl rfl (by decide) rfl (fun ls hl => ?_)
              refine lv_goto (tgt := 76) hx hb dX0_scaledWeight_176 (by decide) ?_
              exact ih4 (v4_8 + (p2 / r12)) (v4_10 + 1) _ h _ _ hP hD hS _ (lv_sub hl [2, 3, 4, 5, 6, 7, 1, 0] rfl) K4_0
    obtain ⟨r17, c17, h⟩ := o_b h
    refine lp4 FU 0 (mmaxi_v 0 (r3 - (mmini_v o_nodes_degree (r1 - 1)))) r17 c17 _ _ hP hD hS _ (lv_sub hl [6, 7, 8, 4, 3, 2, 1, 0] rfl) (fun H locs ls hP hD hS hl => ?_)
    refine lv_lload hx hb dX0_scaledWeight_179 (lv_at hl 0 rfl) ?_
    cases h
    exact fin _ _ _ _ hP hS dX0_scaledWeight_181
  · have h := o_t b2 h
    refine lv_iload hx hb dX0_scaledWeight_21 (lv_at hl 0 rfl) ?_
    refine lv_goto (tgt := 38) hx hb dX0_scaledWeight_23 (by decide) ?_
    refine lv_istore (lv' := [(5, .int (r1 - 1)), (4, .int (r1 - 1)), (0, .ref q_o), (1, .int p1), (2, .long p2)]) hx hb dX0_scaledWeight_38 hl (by decide) rfl (fun ls hl => ?_)
    refine lv_aload_n hx hb dX0_scaledWeight_40 rfl (lv_at hl 2 rfl) ?_
    refine mget X fl_X0_12 hP 0 rfl rfl dX0_scaledWeight_41 ?_
    refine lv_iload_n hx hb dX0_scaledWeight_44 rfl (lv_at hl 3 rfl) ?_
    obtain ⟨r18, c18, h⟩ := o_b h
    refine mcallV X (As := [.int p1]) (rest := []) (ws1 := wX0_scaledWeight g q_o q_o_nodes q_o_nodes_xs q_o_sorted q_o_order q_o_weights q_o_numerator q_o_denominator q_o_product q_o_nodes_ys q_o_nodes_ws o_nodes_count o_nodes_mode o_nodes_degree o_nodes_xs o_sorted) (st1 := [.int r18]) (kX3_placeOf D g x l q_o_nodes q_o_nodes_xs q_o_nodes_ys q_o_nodes_ws o_nodes_count o_nodes_mode o_nodes_degree o_nodes_xs p1 r18 c18) mw_X3_placeOf ml_X0_51 ⟨Nat.le_of_ble_eq_true rfl, Nat.le_of_ble_eq_true rfl⟩ hP hD hS [1, 2] (by decide +kernel) rfl rfl 1 rfl rfl rfl hl.1 rfl (Nat.le_of_ble_eq_true rfl) dX0_scaledWeight_45 ⟨Nat.le_refl _, Nat.le_refl _⟩ rfl rfl (fun H locs hP hD hS => ?_)
    refine lv_istore (lv' := [(6, .int r18), (5, .int (r1 - 1)), (4, .int (r1 - 1)), (0, .ref q_o), (1, .int p1), (2, .long p2)]) hx hb dX0_scaledWeight_48 hl (by decide) rfl (fun ls hl => ?_)
    refine lv_iload hx hb dX0_scaledWeight_50 (lv_at hl 0 rfl) ?_
    refine lv_iload hx hb dX0_scaledWeight_52 (lv_at hl 2 rfl) ?_
    refine lv_iload hx hb dX0_scaledWeight_54 (lv_at hl 1 rfl) ?_
    refine lv_isub hx hb dX0_scaledWeight_56 ?_
    refine mmini X ml_X0_82 hl.1 (Nat.le_of_ble_eq_true rfl) (Nat.le_of_ble_eq_true rfl) dX0_scaledWeight_57 ?_
    refine lv_istore (lv' := [(7, .int (mmini_v r18 ((r1 - 1) - (r1 - 1)))), (6, .int r18), (5, .int (r1 - 1)), (4, .int (r1 - 1)), (0, .ref q_o), (1, .int p1), (2, .long p2)]) hx hb dX0_scaledWeight_60 hl (by decide) rfl (fun ls hl => ?_)
    refine lv_lconst (v := 0) hx hb dX0_scaledWeight_62 (by decide) ?_
    refine lv_lstore (lv' := [(8, .long 0), (7, .int (mmini_v r18 ((r1 - 1) - (r1 - 1)))), (6, .int r18), (5, .int (r1 - 1)), (4, .int (r1 - 1)), (0, .ref q_o), (1, .int p1), (2, .long p2)]) hx hb dX0_scaledWeight_63 hl (by decide) rfl (fun ls hl => ?_)
    refine lv_iconst (v := 0) hx hb dX0_scaledWeight_65 (by decide) ?_
    refine lv_iload hx hb dX0_scaledWeight_66 (lv_at hl 2 rfl) ?_
    refine lv_iload hx hb dX0_scaledWeight_68 (lv_at hl 3 rfl) ?_
    refine lv_isub hx hb dX0_scaledWeight_70 ?_
    refine mmaxi X ml_X0_88 hl.1 (Nat.le_of_ble_eq_true rfl) (Nat.le_of_ble_eq_true rfl) dX0_scaledWeight_71 ?_
    refine lv_istore (lv' := [(10, .int (mmaxi_v 0 (r18 - (r1 - 1)))), (8, .long 0), (7, .int (mmini_v r18 ((r1 - 1) - (r1 - 1)))), (6, .int r18), (5, .int (r1 - 1)), (4, .int (r1 - 1)), (0, .ref q_o), (1, .int p1), (2, .long p2)]) hx hb dX0_scaledWeight_74 hl (by decide) rfl (fun ls hl => ?_)
    have lp19 : ∀ (n : Nat) (v19_8 : Int64) (v19_10 : Int32) (R19 : Int64) (h : lX0_scaledWeight_76 p1 p2 (r1 - 1) r18 (mmini_v r18 ((r1 - 1) - (r1 - 1))) o_nodes_xs o_sorted n v19_8 v19_10 = some R19) (H : Heap) (locs : List Loc), va_P D vwCl (wX0_scaledWeight g q_o q_o_nodes q_o_nodes_xs q_o_sorted q_o_order q_o_weights q_o_numerator q_o_denominator q_o_product q_o_nodes_ys q_o_nodes_ws o_nodes_count o_nodes_mode o_nodes_degree o_nodes_xs o_sorted) H → va_D A (wX0_scaledWeight g q_o q_o_nodes q_o_nodes_xs q_o_sorted q_o_order q_o_weights q_o_numerator q_o_denominator q_o_product q_o_nodes_ys q_o_nodes_ws o_nodes_count o_nodes_mode o_nodes_degree o_nodes_xs o_sorted) → va_S A s.heap H locs → ∀ (ls : Array Slot), lv_has ls 14 [(0, .ref q_o), (1, .int p1), (2, .long p2), (5, .int (r1 - 1)), (6, .int r18), (7, .int (mmini_v r18 ((r1 - 1) - (r1 - 1)))), (8, .long v19_8), (10, .int v19_10)] → (∀ (H : Heap) (locs : List Loc) (ls : Array Slot), va_P D vwCl (wX0_scaledWeight g q_o q_o_nodes q_o_nodes_xs q_o_sorted q_o_order q_o_weights q_o_numerator q_o_denominator q_o_product q_o_nodes_ys q_o_nodes_ws o_nodes_count o_nodes_mode o_nodes_degree o_nodes_xs o_sorted) H → va_D A (wX0_scaledWeight g q_o q_o_nodes q_o_nodes_xs q_o_sorted q_o_order q_o_weights q_o_numerator q_o_denominator q_o_product q_o_nodes_ys q_o_nodes_ws o_nodes_count o_nodes_mode o_nodes_degree o_nodes_xs o_sorted) → va_S A s.heap H locs → lv_has ls 14 [(8, .long R19)] → W p l e (rmF 2 44) s m args below meth c H locs 0 0 Q (F0 m 179 ls [])) → W p l e (rmF 2 44) s m args below meth c H locs 0 0 Q (F0 m 76 ls []) := by
      intro n
      induction n with
      | zero =>
        intro v19_8 v19_10 R19 h
        have h : none = some R19 := h
        cases h
      | succ n ih19 =>
        intro v19_8 v19_10 R19 h H locs hP hD hS ls hl K19_0
        have h : (if (mmini_v r18 ((r1 - 1) - (r1 - 1))) < v19_10 then some v19_8 else (lX0_scaledWeight_90 p1 (r1 - 1) r18 v19_10 o_nodes_xs o_sorted FU 1 v19_10).bind fun r27 => if r27 = 0 then lX0_scaledWeight_76 p1 p2 (r1 - 1) r18 (mmini_v r18 ((r1 - 1) - (r1 - 1))) o_nodes_xs o_sorted n v19_8 (v19_10 + 1) else if (v19_10 - v19_10 / 2 * 2) = 0 then if r27 = 0 then none else lX0_scaledWeight_76 p1 p2 (r1 - 1) r18 (mmini_v r18 ((r1 - 1) - (r1 - 1))) o_nodes_xs o_sorted n (v19_8 + (p2 / r27)) (v19_10 + 1) else if r27 = 0 then none else lX0_scaledWeight_76 p1 p2 (r1 - 1) r18 (mmini_v r18 ((r1 - 1) - (r1 - 1))) o_nodes_xs o_sorted n (v19_8 + ((-p2) / r27)) (v19_10 + 1) : Option (Int64)) = some R19 := h
        refine lv_iload hx hb dX0_scaledWeight_76 (lv_at hl 7 rfl) ?_
        refine lv_iload hx hb dX0_scaledWeight_78 (lv_at hl 5 rfl) ?_
        refine lv_icmp_gt (tgt := 179) hx hb dX0_scaledWeight_80 (by decide) (fun b20 => ?_) (fun b20 => ?_)
        · have h := o_t b20 h
          cases h
          exact K19_0  _ _ _ hP hD hS (lv_sub hl [6] rfl)
        · have h := o_f b20 h
          refine lv_lconst (v := 1) hx hb dX0_scaledWeight_83 (by decide) ?_
          refine lv_lstore (lv' := [(11, .long 1), (0, .ref q_o), (1, .int p1), (2, .long p2), (5, .int (r1 - 1)), (6, .int r18), (7, .int (mmini_v r18 ((r1 - 1) - (r1 - 1)))), (8, .long v19_8), (10, .int v19_10)]) hx hb dX0_scaledWeight_84 hl (by decide) rfl (fun ls hl => ?_)
          refine lv_iload hx hb dX0_scaledWeight_86 (lv_at hl 8 rfl) ?_
          refine lv_istore (lv' := [(13, .int v19_10), (11, .long 1), (0, .ref q_o), (1, .int p1), (2, .long p2), (5, .int (r1 - 1)), (6, .int r18), (7, .int (mmini_v r18 ((r1 - 1) - (r1 - 1)))), (8, .long v19_8), (10, .int v19_10)]) hx hb dX0_scaledWeight_88 hl (by decide) rfl (fun ls hl => ?_)
          have lp21 : ∀ (n : Nat) (v21_11 : Int64) (v21_13 : Int32) (R21 : Int64) (h : lX0_scaledWeight_90 p1 (r1 - 1) r18 v19_10 o_nodes_xs o_sorted n v21_11 v21_13 = some R21) (H : Heap) (locs : List Loc), va_P D vwCl (wX0_scaledWeight g q_o q_o_nodes q_o_nodes_xs q_o_sorted q_o_order q_o_weights q_o_numerator q_o_denominator q_o_product q_o_nodes_ys q_o_nodes_ws o_nodes_count o_nodes_mode o_nodes_degree o_nodes_xs o_sorted) H → va_D A (wX0_scaledWeight g q_o q_o_nodes q_o_nodes_xs q_o_sorted q_o_order q_o_weights q_o_numerator q_o_denominator q_o_product q_o_nodes_ys q_o_nodes_ws o_nodes_count o_nodes_mode o_nodes_degree o_nodes_xs o_sorted) → va_S A s.heap H locs → ∀ (ls : Array Slot), lv_has ls 14 [(0, .ref q_o), (1, .int p1), (2, .long p2), (5, .int (r1 - 1)), (6, .int r18), (7, .int (mmini_v r18 ((r1 - 1) - (r1 - 1)))), (8, .long v19_8), (10, .int v19_10), (11, .long v21_11), (13, .int v21_13)] → (∀ (H : Heap) (locs : List Loc) (ls : Array Slot), va_P D vwCl (wX0_scaledWeight g q_o q_o_nodes q_o_nodes_xs q_o_sorted q_o_order q_o_weights q_o_numerator q_o_denominator q_o_product q_o_nodes_ys q_o_nodes_ws o_nodes_count o_nodes_mode o_nodes_degree o_nodes_xs o_sorted) H → va_D A (wX0_scaledWeight g q_o q_o_nodes q_o_nodes_xs q_o_sorted q_o_order q_o_weights q_o_numerator q_o_denominator q_o_product q_o_nodes_ys q_o_nodes_ws o_nodes_count o_nodes_mode o_nodes_degree o_nodes_xs o_sorted) → va_S A s.heap H locs → lv_has ls 14 [(0, .ref q_o), (1, .int p1), (2, .long p2), (5, .int (r1 - 1)), (6, .int r18), (7, .int (mmini_v r18 ((r1 - 1) - (r1 - 1)))), (8, .long v19_8), (10, .int v19_10), (11, .long R21)] → W p l e (rmF 2 44) s m args below meth c H locs 0 0 Q (F0 m 145 ls [])) → W p l e (rmF 2 44) s m args below meth c H locs 0 0 Q (F0 m 90 ls []) := by
            intro n
            induction n with
            | zero =>
              intro v21_11 v21_13 R21 h
              have h : none = some R21 := h
              cases h
            | succ n ih21 =>
              intro v21_11 v21_13 R21 h H locs hP hD hS ls hl K21_0
              have h : (if (v19_10 + (r1 - 1)) < v21_13 then some v21_11 else if 5 ≤ v21_13 then some v21_11 else if v21_13 = r18 then lX0_scaledWeight_90 p1 (r1 - 1) r18 v19_10 o_nodes_xs o_sorted n (v21_11 * 1) (v21_13 + 1) else (mX3_xOf o_nodes_xs p1).bind fun r25 => if v21_13 < 0 ∨ 5 ≤ Int32.toNatClampNeg v21_13 then none else lX0_scaledWeight_90 p1 (r1 - 1) r18 v19_10 o_nodes_xs o_sorted n (v21_11 * (Int32.toInt64 (r25 - (o_sorted (Int32.toNatClampNeg v21_13))))) (v21_13 + 1) : Option (Int64)) = some R21 := h
              refine lv_iload hx hb dX0_scaledWeight_90 (lv_at hl 9 rfl) ?_
              refine lv_iload hx hb dX0_scaledWeight_92 (lv_at hl 7 rfl) ?_
              refine lv_iload hx hb dX0_scaledWeight_94 (lv_at hl 3 rfl) ?_
              refine lv_iadd hx hb dX0_scaledWeight_96 ?_
              refine lv_icmp_gt (tgt := 145) hx hb dX0_scaledWeight_97 (by decide) (fun b22 => ?_) (fun b22 => ?_)
              · have h := o_t b22 h
                cases h
                exact K21_0  _ _ _ hP hD hS (lv_sub hl [0, 1, 2, 3, 4, 5, 6, 7, 8] rfl)
              · have h := o_f b22 h
                refine lv_iload hx hb dX0_scaledWeight_100 (lv_at hl 9 rfl) ?_
                refine lv_iconst (v := 5) hx hb dX0_scaledWeight_102 (by decide) ?_
                refine lv_icmp_ge (tgt := 145) hx hb dX0_scaledWeight_103 (by decide) (fun b23 => ?_) (fun b23 => ?_)
                · have h := o_t b23 h
                  cases h
                  exact K21_0  _ _ _ hP hD hS (lv_sub hl [0, 1, 2, 3, 4, 5, 6, 7, 8] rfl)
                · have h := o_f b23 h
                  refine lv_lload hx hb dX0_scaledWeight_106 (lv_at hl 8 rfl) ?_
                  refine lv_iload hx hb dX0_scaledWeight_108 (lv_at hl 9 rfl) ?_
                  refine lv_iload hx hb dX0_scaledWeight_110 (lv_at hl 4 rfl) ?_
                  refine lv_icmp_ne (tgt := 119) hx hb dX0_scaledWeight_112 (by decide) (fun b24 => ?_) (fun b24 => ?_)
                  · have h := o_f b24 h
                    refine lv_aload_n hx hb dX0_scaledWeight_119 rfl (lv_at hl 0 rfl) ?_
                    refine mget X fl_X0_12 hP 0 rfl rfl dX0_scaledWeight_120 ?_
                    refine lv_iload_n hx hb dX0_scaledWeight_123 rfl (lv_at hl 1 rfl) ?_
                    obtain ⟨r25, c25, h⟩ := o_b h
                    refine mcallV X (As := [.int p1]) (rest := [.long v21_11]) (ws1 := wX0_scaledWeight g q_o q_o_nodes q_o_nodes_xs q_o_sorted q_o_order q_o_weights q_o_numerator q_o_denominator q_o_product q_o_nodes_ys q_o_nodes_ws o_nodes_count o_nodes_mode o_nodes_degree o_nodes_xs o_sorted) (st1 := [.int r25, .long v21_11]) (kX3_xOf D g x l q_o_nodes q_o_nodes_xs q_o_nodes_ys q_o_nodes_ws o_nodes_count o_nodes_mode o_nodes_degree o_nodes_xs p1 r25 c25) mw_X3_xOf ml_X0_55 ⟨Nat.le_of_ble_eq_true rfl, Nat.le_of_ble_eq_true rfl⟩ hP hD hS [1, 2] (by decide +kernel) rfl rfl 1 rfl rfl rfl hl.1 rfl (Nat.le_of_ble_eq_true rfl) dX0_scaledWeight_124 ⟨Nat.le_refl _, Nat.le_refl _⟩ rfl rfl (fun H locs hP hD hS => ?_)
                    refine lv_aload_n hx hb dX0_scaledWeight_127 rfl (lv_at hl 0 rfl) ?_
                    refine mget X fl_X0_22 hP 0 rfl rfl dX0_scaledWeight_128 ?_
                    refine lv_iload hx hb dX0_scaledWeight_131 (lv_at hl 9 rfl) ?_
                    obtain ⟨b26, h⟩ := o_no h
                    refine mild X hP 3 rfl b26 dX0_scaledWeight_133 ?_
                    refine lv_isub hx hb dX0_scaledWeight_134 ?_
                    refine lv_i2l (v := Int32.toInt64 (r25 - (o_sorted (Int32.toNatClampNeg v21_13)))) hx hb dX0_scaledWeight_135 rfl ?_
                    refine lv_lmul hx hb dX0_scaledWeight_136 ?_
                    refine lv_lstore (lv' := [(11, .long (v21_11 * (Int32.toInt64 (r25 - (o_sorted (Int32.toNatClampNeg v21_13)))))), (0, .ref q_o), (1, .int p1), (2, .long p2), (5, .int (r1 - 1)), (6, .int r18), (7, .int (mmini_v r18 ((r1 - 1) - (r1 - 1)))), (8, .long v19_8), (10, .int v19_10), (13, .int v21_13)]) hx hb dX0_scaledWeight_137 hl (by decide) rfl (fun ls hl => ?_)
                    refine lv_iinc (v := v21_13 + 1) (lv' := [(13, .int (v21_13 + 1)), (11, .long (v21_11 * (Int32.toInt64 (r25 - (o_sorted (Int32.toNatClampNeg v21_13)))))), (0, .ref q_o), (1, .int p1), (2, .long p2), (5, .int (r1 - 1)), (6, .int r18), (7, .int (mmini_v r18 ((r1 - 1) - (r1 - 1)))), (8, .long v19_8), (10, .int v19_10)]) hx hb dX0_scaledWeight_139 hl (k := 9) rfl rfl (by decide) rfl (fun ls hl => ?_)
                    refine lv_goto (tgt := 90) hx hb dX0_scaledWeight_142 (by decide) ?_
                    exact ih21 (v21_11 * (Int32.toInt64 (r25 - (o_sorted (Int32.toNatClampNeg v21_13))))) (v21_13 + 1) _ h _ _ hP hD hS _ (lv_sub hl [2, 3, 4, 5, 6, 7, 8, 9, 1, 0] rfl) K21_0
                  · have h := o_t b24 h
                    refine lv_lconst (v := 1) hx hb dX0_scaledWeight_115 (by decide) ?_
                    refine lv_goto (tgt := 136) hx hb dX0_scaledWeight_116 (by decide) ?_
                    refine lv_lmul hx hb dX0_scaledWeight_136 ?_
                    refine lv_lstore (lv' := [(11, .long (v21_11 * 1)), (0, .ref q_o), (1, .int p1), (2, .long p2), (5, .int (r1 - 1)), (6, .int r18), (7, .int (mmini_v r18 ((r1 - 1) - (r1 - 1)))), (8, .long v19_8), (10, .int v19_10), (13, .int v21_13)]) hx hb dX0_scaledWeight_137 hl (by decide) rfl (fun ls hl => ?_)
                    refine lv_iinc (v := v21_13 + 1) (lv' := [(13, .int (v21_13 + 1)), (11, .long (v21_11 * 1)), (0, .ref q_o), (1, .int p1), (2, .long p2), (5, .int (r1 - 1)), (6, .int r18), (7, .int (mmini_v r18 ((r1 - 1) - (r1 - 1)))), (8, .long v19_8), (10, .int v19_10)]) hx hb dX0_scaledWeight_139 hl (k := 9) rfl rfl (by decide) rfl (fun ls hl => ?_)
                    refine lv_goto (tgt := 90) hx hb dX0_scaledWeight_142 (by decide) ?_
                    exact ih21 (v21_11 * 1) (v21_13 + 1) _ h _ _ hP hD hS _ (lv_sub hl [2, 3, 4, 5, 6, 7, 8, 9, 1, 0] rfl) K21_0
          obtain ⟨r27, c27, h⟩ := o_b h
          refine lp21 FU 1 v19_10 r27 c27 _ _ hP hD hS _ (lv_sub hl [2, 3, 4, 5, 6, 7, 8, 9, 1, 0] rfl) (fun H locs ls hP hD hS hl => ?_)
          refine lv_lload hx hb dX0_scaledWeight_145 (lv_at hl 8 rfl) ?_
          refine lv_lconst (v := 0) hx hb dX0_scaledWeight_147 (by decide) ?_
          refine W.lcmp hx hb dX0_scaledWeight_148 ?_
          refine lv_if_eq (tgt := 173) hx hb dX0_scaledWeight_149 (by decide) (fun b28 => ?_) (fun b28 => ?_)
          · have b28 := (lg_cmp_eq _ _).mp b28
            have h := o_t b28 h
            refine lv_iinc (v := v19_10 + 1) (lv' := [(10, .int (v19_10 + 1)), (0, .ref q_o), (1, .int p1), (2, .long p2), (5, .int (r1 - 1)), (6, .int r18), (7, .int (mmini_v r18 ((r1 - 1) - (r1 - 1)))), (8, .long v19_8), (11, .long r27)]) hx hb dX0_scaledWeight_173 hl (k := 7) rfl rfl (by decide) rfl (fun ls hl => ?_)
            refine lv_goto (tgt := 76) hx hb dX0_scaledWeight_176 (by decide) ?_
            exact ih19 v19_8 (v19_10 + 1) _ h _ _ hP hD hS _ (lv_sub hl [1, 2, 3, 4, 5, 6, 7, 0] rfl) K19_0
          · have b28 := mt (lg_cmp_eq _ _).mpr b28
            have h := o_f b28 h
            refine lv_lload hx hb dX0_scaledWeight_152 (lv_at hl 6 rfl) ?_
            refine lv_iload hx hb dX0_scaledWeight_154 (lv_at hl 7 rfl) ?_
            refine lv_iconst (v := 2) hx hb dX0_scaledWeight_156 (by decide) ?_
            refine lv_irem (x := v19_10) (y := 2) hx hb dX0_scaledWeight_157 (by decide) ?_
            refine lv_if_ne (tgt := 165) hx hb dX0_scaledWeight_158 (by decide) (fun b29 => ?_) (fun b29 => ?_)
            · have h := o_f b29 h
              refine lv_lload_n hx hb dX0_scaledWeight_165 rfl (lv_at hl 2 rfl) ?_
              refine lv_lneg hx hb dX0_scaledWeight_166 ?_
              refine lv_lload hx hb dX0_scaledWeight_167 (lv_at hl 8 rfl) ?_
              obtain ⟨b30, h⟩ := o_no h
              refine lv_ldiv (x := (-p2)) (y := r27) hx hb dX0_scaledWeight_169 b30 ?_
              refine lv_ladd hx hb dX0_scaledWeight_170 ?_
              refine lv_lstore (lv' := [(8, .long (v19_8 + ((-p2) / r27))), (0, .ref q_o), (1, .int p1), (2, .long p2), (5, .int (r1 - 1)), (6, .int r18), (7, .int (mmini_v r18 ((r1 - 1) - (r1 - 1)))), (10, .int v19_10), (11, .long r27)]) hx hb dX0_scaledWeight_171 hl (by decide) rfl (fun ls hl => ?_)
              refine lv_iinc (v := v19_10 + 1) (lv' := [(10, .int (v19_10 + 1)), (8, .long (v19_8 + ((-p2) / r27))), (0, .ref q_o), (1, .int p1), (2, .long p2), (5, .int (r1 - 1)), (6, .int r18), (7, .int (mmini_v r18 ((r1 - 1) - (r1 - 1)))), (11, .long r27)]) hx hb dX0_scaledWeight_173 hl (k := 7) rfl rfl (by decide) rfl (fun ls hl => ?_)
              refine lv_goto (tgt := 76) hx hb dX0_scaledWeight_176 (by decide) ?_
              exact ih19 (v19_8 + ((-p2) / r27)) (v19_10 + 1) _ h _ _ hP hD hS _ (lv_sub hl [2, 3, 4, 5, 6, 7, 1, 0] rfl) K19_0
            · have h := o_t b29 h
              refine lv_lload_n hx hb dX0_scaledWeight_161 rfl (lv_at hl 2 rfl) ?_
              refine lv_goto (tgt := 167) hx hb dX0_scaledWeight_162 (by decide) ?_
              refine lv_lload hx hb dX0_scaledWeight_167 (lv_at hl 8 rfl) ?_
              obtain ⟨b31, h⟩ := o_no h
              refine lv_ldiv (x := p2) (y := r27) hx hb dX0_scaledWeight_169 b31 ?_
              refine lv_ladd hx hb dX0_scaledWeight_170 ?_
              refine lv_lstore (lv' := [(8, .long (v19_8 + (p2 / r27))), (0, .ref q_o), (1, .int p1), (2, .long p2), (5, .int (r1 - 1)), (6, .int r18), (7, .int (mmini_v r18 ((r1 - 1) - (r1 - 1)))), (10, .int v19_10), (11, .long r27)]) hx hb dX0_scaledWeight_171 hl (by decide) rfl (fun ls hl => ?_)
              refine lv_iinc (v := v19_10 + 1) (lv' := [(10, .int (v19_10 + 1)), (8, .long (v19_8 + (p2 / r27))), (0, .ref q_o), (1, .int p1), (2, .long p2), (5, .int (r1 - 1)), (6, .int r18), (7, .int (mmini_v r18 ((r1 - 1) - (r1 - 1)))), (11, .long r27)]) hx hb dX0_scaledWeight_173 hl (k := 7) rfl rfl (by decide) rfl (fun ls hl => ?_)
              refine lv_goto (tgt := 76) hx hb dX0_scaledWeight_176 (by decide) ?_
              exact ih19 (v19_8 + (p2 / r27)) (v19_10 + 1) _ h _ _ hP hD hS _ (lv_sub hl [2, 3, 4, 5, 6, 7, 1, 0] rfl) K19_0
    obtain ⟨r32, c32, h⟩ := o_b h
    refine lp19 FU 0 (mmaxi_v 0 (r18 - (r1 - 1))) r32 c32 _ _ hP hD hS _ (lv_sub hl [6, 7, 8, 4, 3, 2, 1, 0] rfl) (fun H locs ls hP hD hS hl => ?_)
    refine lv_lload hx hb dX0_scaledWeight_179 (lv_at hl 0 rfl) ?_
    cases h
    exact fin _ _ _ _ hP hS dX0_scaledWeight_181
abbrev wX0_reckonWeights (g : Nat → ClassId) (q_o q_o_nodes q_o_nodes_ws q_o_nodes_xs q_o_sorted q_o_weights q_o_order q_o_numerator q_o_denominator q_o_product q_o_nodes_ys : Nat)  (o_nodes_count : Int32) (o_nodes_mode : Int32) (o_nodes_degree : Int32) (o_nodes_ws : Nat → Int32) (o_nodes_xs : Nat → Int32) (o_sorted : Nat → Int32) (o_weights : Nat → Int64) : va_W := [(q_o, .inr (0, [.ref q_o_nodes, .ref q_o_order, .ref q_o_sorted, .ref q_o_weights, .ref q_o_numerator, .ref q_o_denominator, .ref q_o_product])), (q_o_nodes, .inr (3, [.ref q_o_nodes_xs, .ref q_o_nodes_ys, .ref q_o_nodes_ws, .int o_nodes_count, .int o_nodes_mode, .int o_nodes_degree])), (q_o_nodes_ws, .inl (g 0, 5, .inl o_nodes_ws)), (q_o_nodes_xs, .inl (g 0, 5, .inl o_nodes_xs)), (q_o_sorted, .inl (g 0, 5, .inl o_sorted)), (q_o_weights, .inl (g 1, 5, .inr (.inl o_weights)))]
set_option maxHeartbeats 4000000 in
set_option maxRecDepth 100000 in
theorem kX0_reckonWeights (D : va_G) (g : Nat → ClassId) (x : Xd) (l : Launch) (q_o q_o_nodes q_o_nodes_ws q_o_nodes_xs q_o_sorted q_o_weights q_o_order q_o_numerator q_o_denominator q_o_product q_o_nodes_ys : Nat)  (o_nodes_count : Int32) (o_nodes_mode : Int32) (o_nodes_degree : Int32) (o_nodes_ws : Nat → Int32) (o_nodes_xs : Nat → Int32) (o_sorted : Nat → Int32) (o_weights : Nat → Int64) (R : Nat → Int64) (h : mX0_reckonWeights o_nodes_count o_nodes_degree o_nodes_mode o_nodes_ws o_nodes_xs o_sorted o_weights = some R) : Cn D g x l yX0_reckonWeights cX0_reckonWeights 6 none 3 77 [.ref q_o] (wX0_reckonWeights g q_o q_o_nodes q_o_nodes_ws q_o_nodes_xs q_o_sorted q_o_weights q_o_order q_o_numerator q_o_denominator q_o_product q_o_nodes_ys o_nodes_count o_nodes_mode o_nodes_degree o_nodes_ws o_nodes_xs o_sorted o_weights) (wX0_reckonWeights g q_o q_o_nodes q_o_nodes_ws q_o_nodes_xs q_o_sorted q_o_weights q_o_order q_o_numerator q_o_denominator q_o_product q_o_nodes_ys o_nodes_count o_nodes_mode o_nodes_degree o_nodes_ws o_nodes_xs o_sorted R) none := by
  refine CnV (by decide +kernel) (Nat.le_of_ble_eq_true rfl) (fun p e s m args below meth c A Q ls X hD hP hS fin hl => ?_)
  obtain ⟨hx, hb, hml, -, -, hown, hts, hK, hA, hE⟩ := id X
  unfold mX0_reckonWeights at h
  have hl : lv_has ls 6 [(0, .ref q_o)] := hl
  refine lv_aload_n hx hb dX0_reckonWeights_0 rfl (lv_at hl 0 rfl) ?_
  obtain ⟨r1, c1, h⟩ := o_b h
  refine mcallV X (As := []) (rest := []) (ws1 := wX0_reckonWeights g q_o q_o_nodes q_o_nodes_ws q_o_nodes_xs q_o_sorted q_o_weights q_o_order q_o_numerator q_o_denominator q_o_product q_o_nodes_ys o_nodes_count o_nodes_mode o_nodes_degree o_nodes_ws o_nodes_xs o_sorted o_weights) (st1 := [.long r1]) (kX0_pairProduct D g x l q_o q_o_nodes q_o_sorted q_o_order q_o_weights q_o_numerator q_o_denominator q_o_product q_o_nodes_xs q_o_nodes_ys q_o_nodes_ws o_nodes_count o_nodes_mode o_nodes_degree o_sorted  r1 c1) mw_X0_pairProduct ml_X0_58 ⟨Nat.le_of_ble_eq_true rfl, Nat.le_of_ble_eq_true rfl⟩ hP hD hS [0, 1, 4] (by decide +kernel) rfl rfl 0 rfl rfl rfl hl.1 rfl (Nat.le_of_ble_eq_true rfl) dX0_reckonWeights_1 ⟨Nat.le_refl _, Nat.le_refl _⟩ rfl rfl (fun H locs hP hD hS => ?_)
  refine lv_lstore_n (lv' := [(1, .long r1), (0, .ref q_o)]) hx hb dX0_reckonWeights_4 rfl hl (by decide) rfl (fun ls hl => ?_)
  refine lv_lconst (v := 0) hx hb dX0_reckonWeights_5 (by decide) ?_
  refine lv_lstore_n (lv' := [(3, .long 0), (1, .long r1), (0, .ref q_o)]) hx hb dX0_reckonWeights_6 rfl hl (by decide) rfl (fun ls hl => ?_)
  refine lv_iconst (v := 0) hx hb dX0_reckonWeights_7 (by decide) ?_
  refine lv_istore (lv' := [(5, .int 0), (3, .long 0), (1, .long r1), (0, .ref q_o)]) hx hb dX0_reckonWeights_8 hl (by decide) rfl (fun ls hl => ?_)
  have lp2 : ∀ (n : Nat) (v2_3 : Int64) (v2_5 : Int32) (u2_o_weights : Nat → Int64) (R2 : Int64 × (Nat → Int64)) (h : lX0_reckonWeights_10 r1 o_nodes_count o_nodes_mode o_nodes_degree o_nodes_ws o_nodes_xs o_sorted n v2_3 v2_5 u2_o_weights = some R2) (H : Heap) (locs : List Loc), va_P D vwCl (wX0_reckonWeights g q_o q_o_nodes q_o_nodes_ws q_o_nodes_xs q_o_sorted q_o_weights q_o_order q_o_numerator q_o_denominator q_o_product q_o_nodes_ys o_nodes_count o_nodes_mode o_nodes_degree o_nodes_ws o_nodes_xs o_sorted u2_o_weights) H → va_D A (wX0_reckonWeights g q_o q_o_nodes q_o_nodes_ws q_o_nodes_xs q_o_sorted q_o_weights q_o_order q_o_numerator q_o_denominator q_o_product q_o_nodes_ys o_nodes_count o_nodes_mode o_nodes_degree o_nodes_ws o_nodes_xs o_sorted u2_o_weights) → va_S A s.heap H locs → ∀ (ls : Array Slot), lv_has ls 6 [(0, .ref q_o), (1, .long r1), (3, .long v2_3), (5, .int v2_5)] → (∀ (H : Heap) (locs : List Loc) (ls : Array Slot), va_P D vwCl (wX0_reckonWeights g q_o q_o_nodes q_o_nodes_ws q_o_nodes_xs q_o_sorted q_o_weights q_o_order q_o_numerator q_o_denominator q_o_product q_o_nodes_ys o_nodes_count o_nodes_mode o_nodes_degree o_nodes_ws o_nodes_xs o_sorted R2.2) H → va_D A (wX0_reckonWeights g q_o q_o_nodes q_o_nodes_ws q_o_nodes_xs q_o_sorted q_o_weights q_o_order q_o_numerator q_o_denominator q_o_product q_o_nodes_ys o_nodes_count o_nodes_mode o_nodes_degree o_nodes_ws o_nodes_xs o_sorted R2.2) → va_S A s.heap H locs → lv_has ls 6 [(0, .ref q_o), (3, .long R2.1)] → W p l e (rmF 3 77) s m args below meth c H locs 0 0 Q (F0 m 84 ls [])) → W p l e (rmF 3 77) s m args below meth c H locs 0 0 Q (F0 m 10 ls []) := by
    intro n
    induction n with
    | zero =>
      intro v2_3 v2_5 u2_o_weights R2 h
      have h : none = some R2 := h
      cases h
    | succ n ih2 =>
      intro v2_3 v2_5 u2_o_weights R2 h H locs hP hD hS ls hl K2_0
      have h : ((mX3_size o_nodes_count).bind fun r3 => if r3 ≤ v2_5 then some (v2_3, u2_o_weights) else if 5 ≤ v2_5 then some (v2_3, u2_o_weights) else if o_nodes_mode = 2 then (mX3_wOf o_nodes_ws v2_5).bind fun r11 => if v2_5 < 0 ∨ 5 ≤ Int32.toNatClampNeg v2_5 then none else if v2_5 < 0 ∨ 5 ≤ Int32.toNatClampNeg v2_5 then none else (mX1_divisor v2_3 ((vp_updL u2_o_weights (Int32.toNatClampNeg v2_5) (Int32.toInt64 r11)) (Int32.toNatClampNeg v2_5))).bind fun r14 => lX0_reckonWeights_10 r1 o_nodes_count o_nodes_mode o_nodes_degree o_nodes_ws o_nodes_xs o_sorted n r14 (v2_5 + 1) (vp_updL u2_o_weights (Int32.toNatClampNeg v2_5) (Int32.toInt64 r11)) else (mX0_scaledWeight o_nodes_count o_nodes_degree o_nodes_mode o_nodes_xs o_sorted v2_5 r1).bind fun r7 => if v2_5 < 0 ∨ 5 ≤ Int32.toNatClampNeg v2_5 then none else if v2_5 < 0 ∨ 5 ≤ Int32.toNatClampNeg v2_5 then none else (mX1_divisor v2_3 ((vp_updL u2_o_weights (Int32.toNatClampNeg v2_5) r7) (Int32.toNatClampNeg v2_5))).bind fun r10 => lX0_reckonWeights_10 r1 o_nodes_count o_nodes_mode o_nodes_degree o_nodes_ws o_nodes_xs o_sorted n r10 (v2_5 + 1) (vp_updL u2_o_weights (Int32.toNatClampNeg v2_5) r7) : Option (Int64 × (Nat → Int64))) = some R2 := h
      refine lv_iload hx hb dX0_reckonWeights_10 (lv_at hl 3 rfl) ?_
      refine lv_aload_n hx hb dX0_reckonWeights_12 rfl (lv_at hl 0 rfl) ?_
      refine mget X fl_X0_12 hP 0 rfl rfl dX0_reckonWeights_13 ?_
      obtain ⟨r3, c3, h⟩ := o_b h
      refine mcallV X (As := []) (rest := [.int v2_5]) (ws1 := wX0_reckonWeights g q_o q_o_nodes q_o_nodes_ws q_o_nodes_xs q_o_sorted q_o_weights q_o_order q_o_numerator q_o_denominator q_o_product q_o_nodes_ys o_nodes_count o_nodes_mode o_nodes_degree o_nodes_ws o_nodes_xs o_sorted u2_o_weights) (st1 := [.int r3, .int v2_5]) (kX3_size D g x l q_o_nodes q_o_nodes_xs q_o_nodes_ys q_o_nodes_ws o_nodes_count o_nodes_mode o_nodes_degree  r3 c3) mw_X3_size ml_X0_47 ⟨Nat.le_of_ble_eq_true rfl, Nat.le_of_ble_eq_true rfl⟩ hP hD hS [1] (by decide +kernel) rfl rfl 1 rfl rfl rfl hl.1 rfl (Nat.le_of_ble_eq_true rfl) dX0_reckonWeights_16 ⟨Nat.le_refl _, Nat.le_refl _⟩ rfl rfl (fun H locs hP hD hS => ?_)
      refine lv_icmp_ge (tgt := 84) hx hb dX0_reckonWeights_19 (by decide) (fun b4 => ?_) (fun b4 => ?_)
      · have h := o_t b4 h
        cases h
        exact K2_0  _ _ _ hP hD hS (lv_sub hl [0, 2] rfl)
      · have h := o_f b4 h
        refine lv_iload hx hb dX0_reckonWeights_22 (lv_at hl 3 rfl) ?_
        refine lv_iconst (v := 5) hx hb dX0_reckonWeights_24 (by decide) ?_
        refine lv_icmp_ge (tgt := 84) hx hb dX0_reckonWeights_25 (by decide) (fun b5 => ?_) (fun b5 => ?_)
        · have h := o_t b5 h
          cases h
          exact K2_0  _ _ _ hP hD hS (lv_sub hl [0, 2] rfl)
        · have h := o_f b5 h
          refine lv_aload_n hx hb dX0_reckonWeights_28 rfl (lv_at hl 0 rfl) ?_
          refine mget X fl_X0_25 hP 0 rfl rfl dX0_reckonWeights_29 ?_
          refine lv_iload hx hb dX0_reckonWeights_32 (lv_at hl 3 rfl) ?_
          refine lv_aload_n hx hb dX0_reckonWeights_34 rfl (lv_at hl 0 rfl) ?_
          refine mget X fl_X0_12 hP 0 rfl rfl dX0_reckonWeights_35 ?_
          refine mget X fl_X0_62 hP 1 rfl rfl dX0_reckonWeights_38 ?_
          refine lv_iconst (v := 2) hx hb dX0_reckonWeights_41 (by decide) ?_
          refine lv_icmp_ne (tgt := 58) hx hb dX0_reckonWeights_42 (by decide) (fun b6 => ?_) (fun b6 => ?_)
          · have h := o_f b6 h
            refine lv_aload_n hx hb dX0_reckonWeights_58 rfl (lv_at hl 0 rfl) ?_
            refine lv_iload hx hb dX0_reckonWeights_59 (lv_at hl 3 rfl) ?_
            refine lv_lload_n hx hb dX0_reckonWeights_61 rfl (lv_at hl 1 rfl) ?_
            obtain ⟨r7, c7, h⟩ := o_b h
            refine mcallV X (As := [.int v2_5, .long r1]) (rest := [.int v2_5, .ref q_o_weights]) (ws1 := wX0_reckonWeights g q_o q_o_nodes q_o_nodes_ws q_o_nodes_xs q_o_sorted q_o_weights q_o_order q_o_numerator q_o_denominator q_o_product q_o_nodes_ys o_nodes_count o_nodes_mode o_nodes_degree o_nodes_ws o_nodes_xs o_sorted u2_o_weights) (st1 := [.long r7, .int v2_5, .ref q_o_weights]) (kX0_scaledWeight D g x l q_o q_o_nodes q_o_nodes_xs q_o_sorted q_o_order q_o_weights q_o_numerator q_o_denominator q_o_product q_o_nodes_ys q_o_nodes_ws o_nodes_count o_nodes_mode o_nodes_degree o_nodes_xs o_sorted v2_5 r1 r7 c7) mw_X0_scaledWeight ml_X0_69 ⟨Nat.le_of_ble_eq_true rfl, Nat.le_of_ble_eq_true rfl⟩ hP hD hS [0, 1, 3, 4] (by decide +kernel) rfl rfl 0 rfl rfl rfl hl.1 rfl (Nat.le_of_ble_eq_true rfl) dX0_reckonWeights_62 ⟨Nat.le_refl _, Nat.le_refl _⟩ rfl rfl (fun H locs hP hD hS => ?_)
            obtain ⟨b8, h⟩ := o_no h
            refine mlst X (ws1 := wX0_reckonWeights g q_o q_o_nodes q_o_nodes_ws q_o_nodes_xs q_o_sorted q_o_weights q_o_order q_o_numerator q_o_denominator q_o_product q_o_nodes_ys o_nodes_count o_nodes_mode o_nodes_degree o_nodes_ws o_nodes_xs o_sorted (vp_updL u2_o_weights (Int32.toNatClampNeg v2_5) r7)) hP hD hS 5 rfl b8 dX0_reckonWeights_65 rfl (fun H locs hP hD hS => ?_)
            refine lv_lload_n hx hb dX0_reckonWeights_66 rfl (lv_at hl 2 rfl) ?_
            refine lv_aload_n hx hb dX0_reckonWeights_67 rfl (lv_at hl 0 rfl) ?_
            refine mget X fl_X0_25 hP 0 rfl rfl dX0_reckonWeights_68 ?_
            refine lv_iload hx hb dX0_reckonWeights_71 (lv_at hl 3 rfl) ?_
            obtain ⟨b9, h⟩ := o_no h
            refine mlld X hP 5 rfl b9 dX0_reckonWeights_73 ?_
            obtain ⟨r10, c10, h⟩ := o_b h
            refine mcallS X (As := [.long v2_3, .long ((vp_updL u2_o_weights (Int32.toNatClampNeg v2_5) r7) (Int32.toNatClampNeg v2_5))]) (rest := []) (ws1 := wX0_reckonWeights g q_o q_o_nodes q_o_nodes_ws q_o_nodes_xs q_o_sorted q_o_weights q_o_order q_o_numerator q_o_denominator q_o_product q_o_nodes_ys o_nodes_count o_nodes_mode o_nodes_degree o_nodes_ws o_nodes_xs o_sorted (vp_updL u2_o_weights (Int32.toNatClampNeg v2_5) r7)) (st1 := [.long r10]) (kX1_divisor D g x l   v2_3 ((vp_updL u2_o_weights (Int32.toNatClampNeg v2_5) r7) (Int32.toNatClampNeg v2_5)) r10 c10) mw_X1_divisor ml_X0_73 ⟨Nat.le_of_ble_eq_true rfl, Nat.le_of_ble_eq_true rfl⟩ hP hD hS [] (by decide +kernel) rfl rfl rfl hl.1 rfl (Nat.le_of_ble_eq_true rfl) dX0_reckonWeights_74 ⟨Nat.le_refl _, Nat.le_refl _⟩ rfl rfl (fun H locs hP hD hS => ?_)
            refine lv_lstore_n (lv' := [(3, .long r10), (0, .ref q_o), (1, .long r1), (5, .int v2_5)]) hx hb dX0_reckonWeights_77 rfl hl (by decide) rfl (fun ls hl => ?_)
            refine lv_iinc (v := v2_5 + 1) (lv' := [(5, .int (v2_5 + 1)), (3, .long r10), (0, .ref q_o), (1, .long r1)]) hx hb dX0_reckonWeights_78 hl (k := 3) rfl rfl (by decide) rfl (fun ls hl => ?_)
            refine lv_goto (tgt := 10) hx hb dX0_reckonWeights_81 (by decide) ?_
            exact ih2 r10 (v2_5 + 1) (vp_updL u2_o_weights (Int32.toNatClampNeg v2_5) r7) _ h _ _ hP hD hS _ (lv_sub hl [2, 3, 1, 0] rfl) K2_0
          · have h := o_t b6 h
            refine lv_aload_n hx hb dX0_reckonWeights_45 rfl (lv_at hl 0 rfl) ?_
            refine mget X fl_X0_12 hP 0 rfl rfl dX0_reckonWeights_46 ?_
            refine lv_iload hx hb dX0_reckonWeights_49 (lv_at hl 3 rfl) ?_
            obtain ⟨r11, c11, h⟩ := o_b h
            refine mcallV X (As := [.int v2_5]) (rest := [.int v2_5, .ref q_o_weights]) (ws1 := wX0_reckonWeights g q_o q_o_nodes q_o_nodes_ws q_o_nodes_xs q_o_sorted q_o_weights q_o_order q_o_numerator q_o_denominator q_o_product q_o_nodes_ys o_nodes_count o_nodes_mode o_nodes_degree o_nodes_ws o_nodes_xs o_sorted u2_o_weights) (st1 := [.int r11, .int v2_5, .ref q_o_weights]) (kX3_wOf D g x l q_o_nodes q_o_nodes_ws q_o_nodes_xs q_o_nodes_ys o_nodes_count o_nodes_mode o_nodes_degree o_nodes_ws v2_5 r11 c11) mw_X3_wOf ml_X0_66 ⟨Nat.le_of_ble_eq_true rfl, Nat.le_of_ble_eq_true rfl⟩ hP hD hS [1, 2] (by decide +kernel) rfl rfl 1 rfl rfl rfl hl.1 rfl (Nat.le_of_ble_eq_true rfl) dX0_reckonWeights_51 ⟨Nat.le_refl _, Nat.le_refl _⟩ rfl rfl (fun H locs hP hD hS => ?_)
            refine lv_i2l (v := Int32.toInt64 r11) hx hb dX0_reckonWeights_54 rfl ?_
            refine lv_goto (tgt := 65) hx hb dX0_reckonWeights_55 (by decide) ?_
            obtain ⟨b12, h⟩ := o_no h
            refine mlst X (ws1 := wX0_reckonWeights g q_o q_o_nodes q_o_nodes_ws q_o_nodes_xs q_o_sorted q_o_weights q_o_order q_o_numerator q_o_denominator q_o_product q_o_nodes_ys o_nodes_count o_nodes_mode o_nodes_degree o_nodes_ws o_nodes_xs o_sorted (vp_updL u2_o_weights (Int32.toNatClampNeg v2_5) (Int32.toInt64 r11))) hP hD hS 5 rfl b12 dX0_reckonWeights_65 rfl (fun H locs hP hD hS => ?_)
            refine lv_lload_n hx hb dX0_reckonWeights_66 rfl (lv_at hl 2 rfl) ?_
            refine lv_aload_n hx hb dX0_reckonWeights_67 rfl (lv_at hl 0 rfl) ?_
            refine mget X fl_X0_25 hP 0 rfl rfl dX0_reckonWeights_68 ?_
            refine lv_iload hx hb dX0_reckonWeights_71 (lv_at hl 3 rfl) ?_
            obtain ⟨b13, h⟩ := o_no h
            refine mlld X hP 5 rfl b13 dX0_reckonWeights_73 ?_
            obtain ⟨r14, c14, h⟩ := o_b h
            refine mcallS X (As := [.long v2_3, .long ((vp_updL u2_o_weights (Int32.toNatClampNeg v2_5) (Int32.toInt64 r11)) (Int32.toNatClampNeg v2_5))]) (rest := []) (ws1 := wX0_reckonWeights g q_o q_o_nodes q_o_nodes_ws q_o_nodes_xs q_o_sorted q_o_weights q_o_order q_o_numerator q_o_denominator q_o_product q_o_nodes_ys o_nodes_count o_nodes_mode o_nodes_degree o_nodes_ws o_nodes_xs o_sorted (vp_updL u2_o_weights (Int32.toNatClampNeg v2_5) (Int32.toInt64 r11))) (st1 := [.long r14]) (kX1_divisor D g x l   v2_3 ((vp_updL u2_o_weights (Int32.toNatClampNeg v2_5) (Int32.toInt64 r11)) (Int32.toNatClampNeg v2_5)) r14 c14) mw_X1_divisor ml_X0_73 ⟨Nat.le_of_ble_eq_true rfl, Nat.le_of_ble_eq_true rfl⟩ hP hD hS [] (by decide +kernel) rfl rfl rfl hl.1 rfl (Nat.le_of_ble_eq_true rfl) dX0_reckonWeights_74 ⟨Nat.le_refl _, Nat.le_refl _⟩ rfl rfl (fun H locs hP hD hS => ?_)
            refine lv_lstore_n (lv' := [(3, .long r14), (0, .ref q_o), (1, .long r1), (5, .int v2_5)]) hx hb dX0_reckonWeights_77 rfl hl (by decide) rfl (fun ls hl => ?_)
            refine lv_iinc (v := v2_5 + 1) (lv' := [(5, .int (v2_5 + 1)), (3, .long r14), (0, .ref q_o), (1, .long r1)]) hx hb dX0_reckonWeights_78 hl (k := 3) rfl rfl (by decide) rfl (fun ls hl => ?_)
            refine lv_goto (tgt := 10) hx hb dX0_reckonWeights_81 (by decide) ?_
            exact ih2 r14 (v2_5 + 1) (vp_updL u2_o_weights (Int32.toNatClampNeg v2_5) (Int32.toInt64 r11)) _ h _ _ hP hD hS _ (lv_sub hl [2, 3, 1, 0] rfl) K2_0
  obtain ⟨r15, c15, h⟩ := o_b h
  refine lp2 FU 0 0 o_weights r15 c15 _ _ hP hD hS _ (lv_sub hl [3, 2, 1, 0] rfl) (fun H locs ls hP hD hS hl => ?_)
  refine lv_iconst (v := 0) hx hb dX0_reckonWeights_84 (by decide) ?_
  refine lv_istore (lv' := [(5, .int 0), (0, .ref q_o), (3, .long r15.1)]) hx hb dX0_reckonWeights_85 hl (by decide) rfl (fun ls hl => ?_)
  have lp16 : ∀ (n : Nat) (v16_5 : Int32) (u16_o_weights : Nat → Int64) (R16 : Nat → Int64) (h : lX0_reckonWeights_87 r15.1 o_nodes_count n v16_5 u16_o_weights = some R16) (H : Heap) (locs : List Loc), va_P D vwCl (wX0_reckonWeights g q_o q_o_nodes q_o_nodes_ws q_o_nodes_xs q_o_sorted q_o_weights q_o_order q_o_numerator q_o_denominator q_o_product q_o_nodes_ys o_nodes_count o_nodes_mode o_nodes_degree o_nodes_ws o_nodes_xs o_sorted u16_o_weights) H → va_D A (wX0_reckonWeights g q_o q_o_nodes q_o_nodes_ws q_o_nodes_xs q_o_sorted q_o_weights q_o_order q_o_numerator q_o_denominator q_o_product q_o_nodes_ys o_nodes_count o_nodes_mode o_nodes_degree o_nodes_ws o_nodes_xs o_sorted u16_o_weights) → va_S A s.heap H locs → ∀ (ls : Array Slot), lv_has ls 6 [(0, .ref q_o), (3, .long r15.1), (5, .int v16_5)] → (∀ (H : Heap) (locs : List Loc) (ls : Array Slot), va_P D vwCl (wX0_reckonWeights g q_o q_o_nodes q_o_nodes_ws q_o_nodes_xs q_o_sorted q_o_weights q_o_order q_o_numerator q_o_denominator q_o_product q_o_nodes_ys o_nodes_count o_nodes_mode o_nodes_degree o_nodes_ws o_nodes_xs o_sorted R16) H → va_D A (wX0_reckonWeights g q_o q_o_nodes q_o_nodes_ws q_o_nodes_xs q_o_sorted q_o_weights q_o_order q_o_numerator q_o_denominator q_o_product q_o_nodes_ys o_nodes_count o_nodes_mode o_nodes_degree o_nodes_ws o_nodes_xs o_sorted R16) → va_S A s.heap H locs → lv_has ls 6 [] → W p l e (rmF 3 77) s m args below meth c H locs 0 0 Q (F0 m 133 ls [])) → W p l e (rmF 3 77) s m args below meth c H locs 0 0 Q (F0 m 87 ls []) := by
    intro n
    induction n with
    | zero =>
      intro v16_5 u16_o_weights R16 h
      have h : none = some R16 := h
      cases h
    | succ n ih16 =>
      intro v16_5 u16_o_weights R16 h H locs hP hD hS ls hl K16_0
      have h : ((mX3_size o_nodes_count).bind fun r17 => if r17 ≤ v16_5 then some u16_o_weights else if 5 ≤ v16_5 then some u16_o_weights else if r15.1 ≤ 1 then some u16_o_weights else if v16_5 < 0 ∨ 5 ≤ Int32.toNatClampNeg v16_5 then none else if r15.1 = 0 then none else if v16_5 < 0 ∨ 5 ≤ Int32.toNatClampNeg v16_5 then none else lX0_reckonWeights_87 r15.1 o_nodes_count n (v16_5 + 1) (vp_updL u16_o_weights (Int32.toNatClampNeg v16_5) ((u16_o_weights (Int32.toNatClampNeg v16_5)) / r15.1)) : Option (Nat → Int64)) = some R16 := h
      refine lv_iload hx hb dX0_reckonWeights_87 (lv_at hl 2 rfl) ?_
      refine lv_aload_n hx hb dX0_reckonWeights_89 rfl (lv_at hl 0 rfl) ?_
      refine mget X fl_X0_12 hP 0 rfl rfl dX0_reckonWeights_90 ?_
      obtain ⟨r17, c17, h⟩ := o_b h
      refine mcallV X (As := []) (rest := [.int v16_5]) (ws1 := wX0_reckonWeights g q_o q_o_nodes q_o_nodes_ws q_o_nodes_xs q_o_sorted q_o_weights q_o_order q_o_numerator q_o_denominator q_o_product q_o_nodes_ys o_nodes_count o_nodes_mode o_nodes_degree o_nodes_ws o_nodes_xs o_sorted u16_o_weights) (st1 := [.int r17, .int v16_5]) (kX3_size D g x l q_o_nodes q_o_nodes_xs q_o_nodes_ys q_o_nodes_ws o_nodes_count o_nodes_mode o_nodes_degree  r17 c17) mw_X3_size ml_X0_47 ⟨Nat.le_of_ble_eq_true rfl, Nat.le_of_ble_eq_true rfl⟩ hP hD hS [1] (by decide +kernel) rfl rfl 1 rfl rfl rfl hl.1 rfl (Nat.le_of_ble_eq_true rfl) dX0_reckonWeights_93 ⟨Nat.le_refl _, Nat.le_refl _⟩ rfl rfl (fun H locs hP hD hS => ?_)
      refine lv_icmp_ge (tgt := 133) hx hb dX0_reckonWeights_96 (by decide) (fun b18 => ?_) (fun b18 => ?_)
      · have h := o_t b18 h
        cases h
        exact K16_0  _ _ _ hP hD hS (lv_sub hl [] rfl)
      · have h := o_f b18 h
        refine lv_iload hx hb dX0_reckonWeights_99 (lv_at hl 2 rfl) ?_
        refine lv_iconst (v := 5) hx hb dX0_reckonWeights_101 (by decide) ?_
        refine lv_icmp_ge (tgt := 133) hx hb dX0_reckonWeights_102 (by decide) (fun b19 => ?_) (fun b19 => ?_)
        · have h := o_t b19 h
          cases h
          exact K16_0  _ _ _ hP hD hS (lv_sub hl [] rfl)
        · have h := o_f b19 h
          refine lv_lload_n hx hb dX0_reckonWeights_105 rfl (lv_at hl 1 rfl) ?_
          refine lv_lconst (v := 1) hx hb dX0_reckonWeights_106 (by decide) ?_
          refine W.lcmp hx hb dX0_reckonWeights_107 ?_
          refine lv_if_le (tgt := 133) hx hb dX0_reckonWeights_108 (by decide) (fun b20 => ?_) (fun b20 => ?_)
          · have b20 := (lg_cmp_le _ _).mp b20
            have h := o_t b20 h
            cases h
            exact K16_0  _ _ _ hP hD hS (lv_sub hl [] rfl)
          · have b20 := mt (lg_cmp_le _ _).mpr b20
            have h := o_f b20 h
            refine lv_aload_n hx hb dX0_reckonWeights_111 rfl (lv_at hl 0 rfl) ?_
            refine mget X fl_X0_25 hP 0 rfl rfl dX0_reckonWeights_112 ?_
            refine lv_iload hx hb dX0_reckonWeights_115 (lv_at hl 2 rfl) ?_
            refine lv_aload_n hx hb dX0_reckonWeights_117 rfl (lv_at hl 0 rfl) ?_
            refine mget X fl_X0_25 hP 0 rfl rfl dX0_reckonWeights_118 ?_
            refine lv_iload hx hb dX0_reckonWeights_121 (lv_at hl 2 rfl) ?_
            obtain ⟨b21, h⟩ := o_no h
            refine mlld X hP 5 rfl b21 dX0_reckonWeights_123 ?_
            refine lv_lload_n hx hb dX0_reckonWeights_124 rfl (lv_at hl 1 rfl) ?_
            obtain ⟨b22, h⟩ := o_no h
            refine lv_ldiv (x := (u16_o_weights (Int32.toNatClampNeg v16_5))) (y := r15.1) hx hb dX0_reckonWeights_125 b22 ?_
            obtain ⟨b23, h⟩ := o_no h
            refine mlst X (ws1 := wX0_reckonWeights g q_o q_o_nodes q_o_nodes_ws q_o_nodes_xs q_o_sorted q_o_weights q_o_order q_o_numerator q_o_denominator q_o_product q_o_nodes_ys o_nodes_count o_nodes_mode o_nodes_degree o_nodes_ws o_nodes_xs o_sorted (vp_updL u16_o_weights (Int32.toNatClampNeg v16_5) ((u16_o_weights (Int32.toNatClampNeg v16_5)) / r15.1))) hP hD hS 5 rfl b23 dX0_reckonWeights_126 rfl (fun H locs hP hD hS => ?_)
            refine lv_iinc (v := v16_5 + 1) (lv' := [(5, .int (v16_5 + 1)), (0, .ref q_o), (3, .long r15.1)]) hx hb dX0_reckonWeights_127 hl (k := 2) rfl rfl (by decide) rfl (fun ls hl => ?_)
            refine lv_goto (tgt := 87) hx hb dX0_reckonWeights_130 (by decide) ?_
            exact ih16 (v16_5 + 1) (vp_updL u16_o_weights (Int32.toNatClampNeg v16_5) ((u16_o_weights (Int32.toNatClampNeg v16_5)) / r15.1)) _ h _ _ hP hD hS _ (lv_sub hl [1, 2, 0] rfl) K16_0
  obtain ⟨r24, c24, h⟩ := o_b h
  refine lp16 FU 0 r15.2 r24 c24 _ _ hP hD hS _ (lv_sub hl [1, 2, 0] rfl) (fun H locs ls hP hD hS hl => ?_)
  cases h
  exact fin _ _ _ _ hP hS dX0_reckonWeights_133
abbrev wX0_reckonProduct (g : Nat → ClassId) (q_o q_o_nodes q_o_nodes_xs q_o_product q_o_order q_o_sorted q_o_weights q_o_numerator q_o_denominator q_o_nodes_ys q_o_nodes_ws : Nat)  (o_nodes_count : Int32) (o_nodes_mode : Int32) (o_nodes_degree : Int32) (o_nodes_xs : Nat → Int32) (o_product : Nat → Int64) : va_W := [(q_o, .inr (0, [.ref q_o_nodes, .ref q_o_order, .ref q_o_sorted, .ref q_o_weights, .ref q_o_numerator, .ref q_o_denominator, .ref q_o_product])), (q_o_nodes, .inr (3, [.ref q_o_nodes_xs, .ref q_o_nodes_ys, .ref q_o_nodes_ws, .int o_nodes_count, .int o_nodes_mode, .int o_nodes_degree])), (q_o_nodes_xs, .inl (g 0, 5, .inl o_nodes_xs)), (q_o_product, .inl (g 1, 5, .inr (.inl o_product)))]
set_option maxHeartbeats 4000000 in
set_option maxRecDepth 100000 in
theorem kX0_reckonProduct (D : va_G) (g : Nat → ClassId) (x : Xd) (l : Launch) (q_o q_o_nodes q_o_nodes_xs q_o_product q_o_order q_o_sorted q_o_weights q_o_numerator q_o_denominator q_o_nodes_ys q_o_nodes_ws : Nat)  (o_nodes_count : Int32) (o_nodes_mode : Int32) (o_nodes_degree : Int32) (o_nodes_xs : Nat → Int32) (o_product : Nat → Int64) (p1 : Int32) (R : Nat → Int64) (h : mX0_reckonProduct o_nodes_count o_nodes_xs o_product p1 = some R) : Cn D g x l yX0_reckonProduct cX0_reckonProduct 6 none 1 21 [.ref q_o, .int p1] (wX0_reckonProduct g q_o q_o_nodes q_o_nodes_xs q_o_product q_o_order q_o_sorted q_o_weights q_o_numerator q_o_denominator q_o_nodes_ys q_o_nodes_ws o_nodes_count o_nodes_mode o_nodes_degree o_nodes_xs o_product) (wX0_reckonProduct g q_o q_o_nodes q_o_nodes_xs q_o_product q_o_order q_o_sorted q_o_weights q_o_numerator q_o_denominator q_o_nodes_ys q_o_nodes_ws o_nodes_count o_nodes_mode o_nodes_degree o_nodes_xs R) none := by
  refine CnV (by decide +kernel) (Nat.le_of_ble_eq_true rfl) (fun p e s m args below meth c A Q ls X hD hP hS fin hl => ?_)
  obtain ⟨hx, hb, hml, -, -, hown, hts, hK, hA, hE⟩ := id X
  unfold mX0_reckonProduct at h
  have hl : lv_has ls 6 [(0, .ref q_o), (1, .int p1)] := hl
  refine lv_iconst (v := 0) hx hb dX0_reckonProduct_0 (by decide) ?_
  refine lv_istore_n (lv' := [(2, .int 0), (0, .ref q_o), (1, .int p1)]) hx hb dX0_reckonProduct_1 rfl hl (by decide) rfl (fun ls hl => ?_)
  have lp1 : ∀ (n : Nat) (v1_2 : Int32) (u1_o_product : Nat → Int64) (R1 : Nat → Int64) (h : lX0_reckonProduct_2 n v1_2 u1_o_product = some R1) (H : Heap) (locs : List Loc), va_P D vwCl (wX0_reckonProduct g q_o q_o_nodes q_o_nodes_xs q_o_product q_o_order q_o_sorted q_o_weights q_o_numerator q_o_denominator q_o_nodes_ys q_o_nodes_ws o_nodes_count o_nodes_mode o_nodes_degree o_nodes_xs u1_o_product) H → va_D A (wX0_reckonProduct g q_o q_o_nodes q_o_nodes_xs q_o_product q_o_order q_o_sorted q_o_weights q_o_numerator q_o_denominator q_o_nodes_ys q_o_nodes_ws o_nodes_count o_nodes_mode o_nodes_degree o_nodes_xs u1_o_product) → va_S A s.heap H locs → ∀ (ls : Array Slot), lv_has ls 6 [(0, .ref q_o), (1, .int p1), (2, .int v1_2)] → (∀ (H : Heap) (locs : List Loc) (ls : Array Slot), va_P D vwCl (wX0_reckonProduct g q_o q_o_nodes q_o_nodes_xs q_o_product q_o_order q_o_sorted q_o_weights q_o_numerator q_o_denominator q_o_nodes_ys q_o_nodes_ws o_nodes_count o_nodes_mode o_nodes_degree o_nodes_xs R1) H → va_D A (wX0_reckonProduct g q_o q_o_nodes q_o_nodes_xs q_o_product q_o_order q_o_sorted q_o_weights q_o_numerator q_o_denominator q_o_nodes_ys q_o_nodes_ws o_nodes_count o_nodes_mode o_nodes_degree o_nodes_xs R1) → va_S A s.heap H locs → lv_has ls 6 [(0, .ref q_o), (1, .int p1)] → W p l e (rmF 1 21) s m args below meth c H locs 0 0 Q (F0 m 28 ls [])) → W p l e (rmF 1 21) s m args below meth c H locs 0 0 Q (F0 m 2 ls []) := by
    intro n
    induction n with
    | zero =>
      intro v1_2 u1_o_product R1 h
      have h : none = some R1 := h
      cases h
    | succ n ih1 =>
      intro v1_2 u1_o_product R1 h H locs hP hD hS ls hl K1_0
      have h : (if 5 ≤ v1_2 then some u1_o_product else if v1_2 = 0 then if v1_2 < 0 ∨ 5 ≤ Int32.toNatClampNeg v1_2 then none else lX0_reckonProduct_2 n (v1_2 + 1) (vp_updL u1_o_product (Int32.toNatClampNeg v1_2) 1) else if v1_2 < 0 ∨ 5 ≤ Int32.toNatClampNeg v1_2 then none else lX0_reckonProduct_2 n (v1_2 + 1) (vp_updL u1_o_product (Int32.toNatClampNeg v1_2) 0) : Option (Nat → Int64)) = some R1 := h
      refine lv_iload_n hx hb dX0_reckonProduct_2 rfl (lv_at hl 2 rfl) ?_
      refine lv_iconst (v := 5) hx hb dX0_reckonProduct_3 (by decide) ?_
      refine lv_icmp_ge (tgt := 28) hx hb dX0_reckonProduct_4 (by decide) (fun b2 => ?_) (fun b2 => ?_)
      · have h := o_t b2 h
        cases h
        exact K1_0  _ _ _ hP hD hS (lv_sub hl [0, 1] rfl)
      · have h := o_f b2 h
        refine lv_aload_n hx hb dX0_reckonProduct_7 rfl (lv_at hl 0 rfl) ?_
        refine mget X fl_X0_35 hP 0 rfl rfl dX0_reckonProduct_8 ?_
        refine lv_iload_n hx hb dX0_reckonProduct_11 rfl (lv_at hl 2 rfl) ?_
        refine lv_iload_n hx hb dX0_reckonProduct_12 rfl (lv_at hl 2 rfl) ?_
        refine lv_if_ne (tgt := 20) hx hb dX0_reckonProduct_13 (by decide) (fun b3 => ?_) (fun b3 => ?_)
        · have h := o_f b3 h
          refine lv_lconst (v := 0) hx hb dX0_reckonProduct_20 (by decide) ?_
          obtain ⟨b4, h⟩ := o_no h
          refine mlst X (ws1 := wX0_reckonProduct g q_o q_o_nodes q_o_nodes_xs q_o_product q_o_order q_o_sorted q_o_weights q_o_numerator q_o_denominator q_o_nodes_ys q_o_nodes_ws o_nodes_count o_nodes_mode o_nodes_degree o_nodes_xs (vp_updL u1_o_product (Int32.toNatClampNeg v1_2) 0)) hP hD hS 3 rfl b4 dX0_reckonProduct_21 rfl (fun H locs hP hD hS => ?_)
          refine lv_iinc (v := v1_2 + 1) (lv' := [(2, .int (v1_2 + 1)), (0, .ref q_o), (1, .int p1)]) hx hb dX0_reckonProduct_22 hl (k := 2) rfl rfl (by decide) rfl (fun ls hl => ?_)
          refine lv_goto (tgt := 2) hx hb dX0_reckonProduct_25 (by decide) ?_
          exact ih1 (v1_2 + 1) (vp_updL u1_o_product (Int32.toNatClampNeg v1_2) 0) _ h _ _ hP hD hS _ (lv_sub hl [1, 2, 0] rfl) K1_0
        · have h := o_t b3 h
          refine lv_lconst (v := 1) hx hb dX0_reckonProduct_16 (by decide) ?_
          refine lv_goto (tgt := 21) hx hb dX0_reckonProduct_17 (by decide) ?_
          obtain ⟨b5, h⟩ := o_no h
          refine mlst X (ws1 := wX0_reckonProduct g q_o q_o_nodes q_o_nodes_xs q_o_product q_o_order q_o_sorted q_o_weights q_o_numerator q_o_denominator q_o_nodes_ys q_o_nodes_ws o_nodes_count o_nodes_mode o_nodes_degree o_nodes_xs (vp_updL u1_o_product (Int32.toNatClampNeg v1_2) 1)) hP hD hS 3 rfl b5 dX0_reckonProduct_21 rfl (fun H locs hP hD hS => ?_)
          refine lv_iinc (v := v1_2 + 1) (lv' := [(2, .int (v1_2 + 1)), (0, .ref q_o), (1, .int p1)]) hx hb dX0_reckonProduct_22 hl (k := 2) rfl rfl (by decide) rfl (fun ls hl => ?_)
          refine lv_goto (tgt := 2) hx hb dX0_reckonProduct_25 (by decide) ?_
          exact ih1 (v1_2 + 1) (vp_updL u1_o_product (Int32.toNatClampNeg v1_2) 1) _ h _ _ hP hD hS _ (lv_sub hl [1, 2, 0] rfl) K1_0
  obtain ⟨r6, c6, h⟩ := o_b h
  refine lp1 FU 0 o_product r6 c6 _ _ hP hD hS _ (lv_sub hl [1, 2, 0] rfl) (fun H locs ls hP hD hS hl => ?_)
  refine lv_iconst (v := 0) hx hb dX0_reckonProduct_28 (by decide) ?_
  refine lv_istore_n (lv' := [(2, .int 0), (0, .ref q_o), (1, .int p1)]) hx hb dX0_reckonProduct_29 rfl hl (by decide) rfl (fun ls hl => ?_)
  have lp7 : ∀ (n : Nat) (v7_2 : Int32) (u7_o_product : Nat → Int64) (R7 : Nat → Int64) (h : lX0_reckonProduct_30 p1 o_nodes_count o_nodes_xs n v7_2 u7_o_product = some R7) (H : Heap) (locs : List Loc), va_P D vwCl (wX0_reckonProduct g q_o q_o_nodes q_o_nodes_xs q_o_product q_o_order q_o_sorted q_o_weights q_o_numerator q_o_denominator q_o_nodes_ys q_o_nodes_ws o_nodes_count o_nodes_mode o_nodes_degree o_nodes_xs u7_o_product) H → va_D A (wX0_reckonProduct g q_o q_o_nodes q_o_nodes_xs q_o_product q_o_order q_o_sorted q_o_weights q_o_numerator q_o_denominator q_o_nodes_ys q_o_nodes_ws o_nodes_count o_nodes_mode o_nodes_degree o_nodes_xs u7_o_product) → va_S A s.heap H locs → ∀ (ls : Array Slot), lv_has ls 6 [(0, .ref q_o), (1, .int p1), (2, .int v7_2)] → (∀ (H : Heap) (locs : List Loc) (ls : Array Slot), va_P D vwCl (wX0_reckonProduct g q_o q_o_nodes q_o_nodes_xs q_o_product q_o_order q_o_sorted q_o_weights q_o_numerator q_o_denominator q_o_nodes_ys q_o_nodes_ws o_nodes_count o_nodes_mode o_nodes_degree o_nodes_xs R7) H → va_D A (wX0_reckonProduct g q_o q_o_nodes q_o_nodes_xs q_o_product q_o_order q_o_sorted q_o_weights q_o_numerator q_o_denominator q_o_nodes_ys q_o_nodes_ws o_nodes_count o_nodes_mode o_nodes_degree o_nodes_xs R7) → va_S A s.heap H locs → lv_has ls 6 [] → W p l e (rmF 1 21) s m args below meth c H locs 0 0 Q (F0 m 107 ls [])) → W p l e (rmF 1 21) s m args below meth c H locs 0 0 Q (F0 m 30 ls []) := by
    intro n
    induction n with
    | zero =>
      intro v7_2 u7_o_product R7 h
      have h : none = some R7 := h
      cases h
    | succ n ih7 =>
      intro v7_2 u7_o_product R7 h H locs hP hD hS ls hl K7_0
      have h : ((mX3_size o_nodes_count).bind fun r8 => if r8 ≤ v7_2 then some u7_o_product else if v7_2 = p1 then lX0_reckonProduct_30 p1 o_nodes_count o_nodes_xs n (v7_2 + 1) u7_o_product else (lX0_reckonProduct_48 v7_2 o_nodes_xs FU 4 u7_o_product).bind fun r21 => lX0_reckonProduct_30 p1 o_nodes_count o_nodes_xs n (v7_2 + 1) r21 : Option (Nat → Int64)) = some R7 := h
      refine lv_iload_n hx hb dX0_reckonProduct_30 rfl (lv_at hl 2 rfl) ?_
      refine lv_aload_n hx hb dX0_reckonProduct_31 rfl (lv_at hl 0 rfl) ?_
      refine mget X fl_X0_12 hP 0 rfl rfl dX0_reckonProduct_32 ?_
      obtain ⟨r8, c8, h⟩ := o_b h
      refine mcallV X (As := []) (rest := [.int v7_2]) (ws1 := wX0_reckonProduct g q_o q_o_nodes q_o_nodes_xs q_o_product q_o_order q_o_sorted q_o_weights q_o_numerator q_o_denominator q_o_nodes_ys q_o_nodes_ws o_nodes_count o_nodes_mode o_nodes_degree o_nodes_xs u7_o_product) (st1 := [.int r8, .int v7_2]) (kX3_size D g x l q_o_nodes q_o_nodes_xs q_o_nodes_ys q_o_nodes_ws o_nodes_count o_nodes_mode o_nodes_degree  r8 c8) mw_X3_size ml_X0_47 ⟨Nat.le_of_ble_eq_true rfl, Nat.le_of_ble_eq_true rfl⟩ hP hD hS [1] (by decide +kernel) rfl rfl 1 rfl rfl rfl hl.1 rfl (Nat.le_of_ble_eq_true rfl) dX0_reckonProduct_35 ⟨Nat.le_refl _, Nat.le_refl _⟩ rfl rfl (fun H locs hP hD hS => ?_)
      refine lv_icmp_ge (tgt := 107) hx hb dX0_reckonProduct_38 (by decide) (fun b9 => ?_) (fun b9 => ?_)
      · have h := o_t b9 h
        cases h
        exact K7_0  _ _ _ hP hD hS (lv_sub hl [] rfl)
      · have h := o_f b9 h
        refine lv_iload_n hx hb dX0_reckonProduct_41 rfl (lv_at hl 2 rfl) ?_
        refine lv_iload_n hx hb dX0_reckonProduct_42 rfl (lv_at hl 1 rfl) ?_
        refine lv_icmp_eq (tgt := 101) hx hb dX0_reckonProduct_43 (by decide) (fun b10 => ?_) (fun b10 => ?_)
        · have h := o_t b10 h
          refine lv_iinc (v := v7_2 + 1) (lv' := [(2, .int (v7_2 + 1)), (0, .ref q_o), (1, .int p1)]) hx hb dX0_reckonProduct_101 hl (k := 2) rfl rfl (by decide) rfl (fun ls hl => ?_)
          refine lv_goto (tgt := 30) hx hb dX0_reckonProduct_104 (by decide) ?_
          exact ih7 (v7_2 + 1) u7_o_product _ h _ _ hP hD hS _ (lv_sub hl [1, 2, 0] rfl) K7_0
        · have h := o_f b10 h
          refine lv_iconst (v := 4) hx hb dX0_reckonProduct_46 (by decide) ?_
          refine lv_istore_n (lv' := [(3, .int 4), (0, .ref q_o), (1, .int p1), (2, .int v7_2)]) hx hb dX0_reckonProduct_47 rfl hl (by decide) rfl (fun ls hl => ?_)
          have lp11 : ∀ (n : Nat) (v11_3 : Int32) (u11_o_product : Nat → Int64) (R11 : Nat → Int64) (h : lX0_reckonProduct_48 v7_2 o_nodes_xs n v11_3 u11_o_product = some R11) (H : Heap) (locs : List Loc), va_P D vwCl (wX0_reckonProduct g q_o q_o_nodes q_o_nodes_xs q_o_product q_o_order q_o_sorted q_o_weights q_o_numerator q_o_denominator q_o_nodes_ys q_o_nodes_ws o_nodes_count o_nodes_mode o_nodes_degree o_nodes_xs u11_o_product) H → va_D A (wX0_reckonProduct g q_o q_o_nodes q_o_nodes_xs q_o_product q_o_order q_o_sorted q_o_weights q_o_numerator q_o_denominator q_o_nodes_ys q_o_nodes_ws o_nodes_count o_nodes_mode o_nodes_degree o_nodes_xs u11_o_product) → va_S A s.heap H locs → ∀ (ls : Array Slot), lv_has ls 6 [(0, .ref q_o), (1, .int p1), (2, .int v7_2), (3, .int v11_3)] → (∀ (H : Heap) (locs : List Loc) (ls : Array Slot), va_P D vwCl (wX0_reckonProduct g q_o q_o_nodes q_o_nodes_xs q_o_product q_o_order q_o_sorted q_o_weights q_o_numerator q_o_denominator q_o_nodes_ys q_o_nodes_ws o_nodes_count o_nodes_mode o_nodes_degree o_nodes_xs R11) H → va_D A (wX0_reckonProduct g q_o q_o_nodes q_o_nodes_xs q_o_product q_o_order q_o_sorted q_o_weights q_o_numerator q_o_denominator q_o_nodes_ys q_o_nodes_ws o_nodes_count o_nodes_mode o_nodes_degree o_nodes_xs R11) → va_S A s.heap H locs → lv_has ls 6 [(0, .ref q_o), (1, .int p1), (2, .int v7_2)] → W p l e (rmF 1 21) s m args below meth c H locs 0 0 Q (F0 m 101 ls [])) → W p l e (rmF 1 21) s m args below meth c H locs 0 0 Q (F0 m 48 ls []) := by
            intro n
            induction n with
            | zero =>
              intro v11_3 u11_o_product R11 h
              have h : none = some R11 := h
              cases h
            | succ n ih11 =>
              intro v11_3 u11_o_product R11 h H locs hP hD hS ls hl K11_0
              have h : (if v11_3 < 0 then some u11_o_product else if v11_3 ≤ 0 then (mX3_xOf o_nodes_xs v7_2).bind fun r14 => if v11_3 < 0 ∨ 5 ≤ Int32.toNatClampNeg v11_3 then none else if v11_3 < 0 ∨ 5 ≤ Int32.toNatClampNeg v11_3 then none else lX0_reckonProduct_48 v7_2 o_nodes_xs n (v11_3 + (-1)) (vp_updL u11_o_product (Int32.toNatClampNeg v11_3) (0 - ((Int32.toInt64 r14) * (u11_o_product (Int32.toNatClampNeg v11_3))))) else if (v11_3 - 1) < 0 ∨ 5 ≤ Int32.toNatClampNeg (v11_3 - 1) then none else (mX3_xOf o_nodes_xs v7_2).bind fun r18 => if v11_3 < 0 ∨ 5 ≤ Int32.toNatClampNeg v11_3 then none else if v11_3 < 0 ∨ 5 ≤ Int32.toNatClampNeg v11_3 then none else lX0_reckonProduct_48 v7_2 o_nodes_xs n (v11_3 + (-1)) (vp_updL u11_o_product (Int32.toNatClampNeg v11_3) ((u11_o_product (Int32.toNatClampNeg (v11_3 - 1))) - ((Int32.toInt64 r18) * (u11_o_product (Int32.toNatClampNeg v11_3))))) : Option (Nat → Int64)) = some R11 := h
              refine lv_iload_n hx hb dX0_reckonProduct_48 rfl (lv_at hl 3 rfl) ?_
              refine lv_if_lt (tgt := 101) hx hb dX0_reckonProduct_49 (by decide) (fun b12 => ?_) (fun b12 => ?_)
              · have h := o_t b12 h
                cases h
                exact K11_0  _ _ _ hP hD hS (lv_sub hl [0, 1, 2] rfl)
              · have h := o_f b12 h
                refine lv_iload_n hx hb dX0_reckonProduct_52 rfl (lv_at hl 3 rfl) ?_
                refine lv_if_le (tgt := 67) hx hb dX0_reckonProduct_53 (by decide) (fun b13 => ?_) (fun b13 => ?_)
                · have h := o_t b13 h
                  refine lv_lconst (v := 0) hx hb dX0_reckonProduct_67 (by decide) ?_
                  refine lv_lstore (lv' := [(4, .long 0), (0, .ref q_o), (1, .int p1), (2, .int v7_2), (3, .int v11_3)]) hx hb dX0_reckonProduct_68 hl (by decide) rfl (fun ls hl => ?_)
                  refine lv_aload_n hx hb dX0_reckonProduct_70 rfl (lv_at hl 1 rfl) ?_
                  refine mget X fl_X0_35 hP 0 rfl rfl dX0_reckonProduct_71 ?_
                  refine lv_iload_n hx hb dX0_reckonProduct_74 rfl (lv_at hl 4 rfl) ?_
                  refine lv_lload hx hb dX0_reckonProduct_75 (lv_at hl 0 rfl) ?_
                  refine lv_aload_n hx hb dX0_reckonProduct_77 rfl (lv_at hl 1 rfl) ?_
                  refine mget X fl_X0_12 hP 0 rfl rfl dX0_reckonProduct_78 ?_
                  refine lv_iload_n hx hb dX0_reckonProduct_81 rfl (lv_at hl 3 rfl) ?_
                  obtain ⟨r14, c14, h⟩ := o_b h
                  refine mcallV X (As := [.int v7_2]) (rest := [.long 0, .int v11_3, .ref q_o_product]) (ws1 := wX0_reckonProduct g q_o q_o_nodes q_o_nodes_xs q_o_product q_o_order q_o_sorted q_o_weights q_o_numerator q_o_denominator q_o_nodes_ys q_o_nodes_ws o_nodes_count o_nodes_mode o_nodes_degree o_nodes_xs u11_o_product) (st1 := [.int r14, .long 0, .int v11_3, .ref q_o_product]) (kX3_xOf D g x l q_o_nodes q_o_nodes_xs q_o_nodes_ys q_o_nodes_ws o_nodes_count o_nodes_mode o_nodes_degree o_nodes_xs v7_2 r14 c14) mw_X3_xOf ml_X0_55 ⟨Nat.le_of_ble_eq_true rfl, Nat.le_of_ble_eq_true rfl⟩ hP hD hS [1, 2] (by decide +kernel) rfl rfl 1 rfl rfl rfl hl.1 rfl (Nat.le_of_ble_eq_true rfl) dX0_reckonProduct_82 ⟨Nat.le_refl _, Nat.le_refl _⟩ rfl rfl (fun H locs hP hD hS => ?_)
                  refine lv_i2l (v := Int32.toInt64 r14) hx hb dX0_reckonProduct_85 rfl ?_
                  refine lv_aload_n hx hb dX0_reckonProduct_86 rfl (lv_at hl 1 rfl) ?_
                  refine mget X fl_X0_35 hP 0 rfl rfl dX0_reckonProduct_87 ?_
                  refine lv_iload_n hx hb dX0_reckonProduct_90 rfl (lv_at hl 4 rfl) ?_
                  obtain ⟨b15, h⟩ := o_no h
                  refine mlld X hP 3 rfl b15 dX0_reckonProduct_91 ?_
                  refine lv_lmul hx hb dX0_reckonProduct_92 ?_
                  refine lv_lsub hx hb dX0_reckonProduct_93 ?_
                  obtain ⟨b16, h⟩ := o_no h
                  refine mlst X (ws1 := wX0_reckonProduct g q_o q_o_nodes q_o_nodes_xs q_o_product q_o_order q_o_sorted q_o_weights q_o_numerator q_o_denominator q_o_nodes_ys q_o_nodes_ws o_nodes_count o_nodes_mode o_nodes_degree o_nodes_xs (vp_updL u11_o_product (Int32.toNatClampNeg v11_3) (0 - ((Int32.toInt64 r14) * (u11_o_product (Int32.toNatClampNeg v11_3)))))) hP hD hS 3 rfl b16 dX0_reckonProduct_94 rfl (fun H locs hP hD hS => ?_)
                  refine lv_iinc (v := v11_3 + (-1)) (lv' := [(3, .int (v11_3 + (-1))), (4, .long 0), (0, .ref q_o), (1, .int p1), (2, .int v7_2)]) hx hb dX0_reckonProduct_95 hl (k := 4) rfl rfl (by decide) rfl (fun ls hl => ?_)
                  refine lv_goto (tgt := 48) hx hb dX0_reckonProduct_98 (by decide) ?_
                  exact ih11 (v11_3 + (-1)) (vp_updL u11_o_product (Int32.toNatClampNeg v11_3) (0 - ((Int32.toInt64 r14) * (u11_o_product (Int32.toNatClampNeg v11_3))))) _ h _ _ hP hD hS _ (lv_sub hl [2, 3, 4, 0] rfl) K11_0
                · have h := o_f b13 h
                  refine lv_aload_n hx hb dX0_reckonProduct_56 rfl (lv_at hl 0 rfl) ?_
                  refine mget X fl_X0_35 hP 0 rfl rfl dX0_reckonProduct_57 ?_
                  refine lv_iload_n hx hb dX0_reckonProduct_60 rfl (lv_at hl 3 rfl) ?_
                  refine lv_iconst (v := 1) hx hb dX0_reckonProduct_61 (by decide) ?_
                  refine lv_isub hx hb dX0_reckonProduct_62 ?_
                  obtain ⟨b17, h⟩ := o_no h
                  refine mlld X hP 3 rfl b17 dX0_reckonProduct_63 ?_
                  refine lv_goto (tgt := 68) hx hb dX0_reckonProduct_64 (by decide) ?_
                  refine lv_lstore (lv' := [(4, .long (u11_o_product (Int32.toNatClampNeg (v11_3 - 1)))), (0, .ref q_o), (1, .int p1), (2, .int v7_2), (3, .int v11_3)]) hx hb dX0_reckonProduct_68 hl (by decide) rfl (fun ls hl => ?_)
                  refine lv_aload_n hx hb dX0_reckonProduct_70 rfl (lv_at hl 1 rfl) ?_
                  refine mget X fl_X0_35 hP 0 rfl rfl dX0_reckonProduct_71 ?_
                  refine lv_iload_n hx hb dX0_reckonProduct_74 rfl (lv_at hl 4 rfl) ?_
                  refine lv_lload hx hb dX0_reckonProduct_75 (lv_at hl 0 rfl) ?_
                  refine lv_aload_n hx hb dX0_reckonProduct_77 rfl (lv_at hl 1 rfl) ?_
                  refine mget X fl_X0_12 hP 0 rfl rfl dX0_reckonProduct_78 ?_
                  refine lv_iload_n hx hb dX0_reckonProduct_81 rfl (lv_at hl 3 rfl) ?_
                  obtain ⟨r18, c18, h⟩ := o_b h
                  refine mcallV X (As := [.int v7_2]) (rest := [.long (u11_o_product (Int32.toNatClampNeg (v11_3 - 1))), .int v11_3, .ref q_o_product]) (ws1 := wX0_reckonProduct g q_o q_o_nodes q_o_nodes_xs q_o_product q_o_order q_o_sorted q_o_weights q_o_numerator q_o_denominator q_o_nodes_ys q_o_nodes_ws o_nodes_count o_nodes_mode o_nodes_degree o_nodes_xs u11_o_product) (st1 := [.int r18, .long (u11_o_product (Int32.toNatClampNeg (v11_3 - 1))), .int v11_3, .ref q_o_product]) (kX3_xOf D g x l q_o_nodes q_o_nodes_xs q_o_nodes_ys q_o_nodes_ws o_nodes_count o_nodes_mode o_nodes_degree o_nodes_xs v7_2 r18 c18) mw_X3_xOf ml_X0_55 ⟨Nat.le_of_ble_eq_true rfl, Nat.le_of_ble_eq_true rfl⟩ hP hD hS [1, 2] (by decide +kernel) rfl rfl 1 rfl rfl rfl hl.1 rfl (Nat.le_of_ble_eq_true rfl) dX0_reckonProduct_82 ⟨Nat.le_refl _, Nat.le_refl _⟩ rfl rfl (fun H locs hP hD hS => ?_)
                  refine lv_i2l (v := Int32.toInt64 r18) hx hb dX0_reckonProduct_85 rfl ?_
                  refine lv_aload_n hx hb dX0_reckonProduct_86 rfl (lv_at hl 1 rfl) ?_
                  refine mget X fl_X0_35 hP 0 rfl rfl dX0_reckonProduct_87 ?_
                  refine lv_iload_n hx hb dX0_reckonProduct_90 rfl (lv_at hl 4 rfl) ?_
                  obtain ⟨b19, h⟩ := o_no h
                  refine mlld X hP 3 rfl b19 dX0_reckonProduct_91 ?_
                  refine lv_lmul hx hb dX0_reckonProduct_92 ?_
                  refine lv_lsub hx hb dX0_reckonProduct_93 ?_
                  obtain ⟨b20, h⟩ := o_no h
                  refine mlst X (ws1 := wX0_reckonProduct g q_o q_o_nodes q_o_nodes_xs q_o_product q_o_order q_o_sorted q_o_weights q_o_numerator q_o_denominator q_o_nodes_ys q_o_nodes_ws o_nodes_count o_nodes_mode o_nodes_degree o_nodes_xs (vp_updL u11_o_product (Int32.toNatClampNeg v11_3) ((u11_o_product (Int32.toNatClampNeg (v11_3 - 1))) - ((Int32.toInt64 r18) * (u11_o_product (Int32.toNatClampNeg v11_3)))))) hP hD hS 3 rfl b20 dX0_reckonProduct_94 rfl (fun H locs hP hD hS => ?_)
                  refine lv_iinc (v := v11_3 + (-1)) (lv' := [(3, .int (v11_3 + (-1))), (4, .long (u11_o_product (Int32.toNatClampNeg (v11_3 - 1)))), (0, .ref q_o), (1, .int p1), (2, .int v7_2)]) hx hb dX0_reckonProduct_95 hl (k := 4) rfl rfl (by decide) rfl (fun ls hl => ?_)
                  refine lv_goto (tgt := 48) hx hb dX0_reckonProduct_98 (by decide) ?_
                  exact ih11 (v11_3 + (-1)) (vp_updL u11_o_product (Int32.toNatClampNeg v11_3) ((u11_o_product (Int32.toNatClampNeg (v11_3 - 1))) - ((Int32.toInt64 r18) * (u11_o_product (Int32.toNatClampNeg v11_3))))) _ h _ _ hP hD hS _ (lv_sub hl [2, 3, 4, 0] rfl) K11_0
          obtain ⟨r21, c21, h⟩ := o_b h
          refine lp11 FU 4 u7_o_product r21 c21 _ _ hP hD hS _ (lv_sub hl [1, 2, 3, 0] rfl) (fun H locs ls hP hD hS hl => ?_)
          refine lv_iinc (v := v7_2 + 1) (lv' := [(2, .int (v7_2 + 1)), (0, .ref q_o), (1, .int p1)]) hx hb dX0_reckonProduct_101 hl (k := 2) rfl rfl (by decide) rfl (fun ls hl => ?_)
          refine lv_goto (tgt := 30) hx hb dX0_reckonProduct_104 (by decide) ?_
          exact ih7 (v7_2 + 1) r21 _ h _ _ hP hD hS _ (lv_sub hl [1, 2, 0] rfl) K7_0
  obtain ⟨r22, c22, h⟩ := o_b h
  refine lp7 FU 0 r6 r22 c22 _ _ hP hD hS _ (lv_sub hl [1, 2, 0] rfl) (fun H locs ls hP hD hS hl => ?_)
  cases h
  exact fin _ _ _ _ hP hS dX0_reckonProduct_107
abbrev wX0_weightOf (g : Nat → ClassId) (q_o q_o_nodes q_o_weights q_o_order q_o_sorted q_o_numerator q_o_denominator q_o_product q_o_nodes_xs q_o_nodes_ys q_o_nodes_ws : Nat)  (o_nodes_count : Int32) (o_nodes_mode : Int32) (o_nodes_degree : Int32) (o_weights : Nat → Int64) : va_W := [(q_o, .inr (0, [.ref q_o_nodes, .ref q_o_order, .ref q_o_sorted, .ref q_o_weights, .ref q_o_numerator, .ref q_o_denominator, .ref q_o_product])), (q_o_nodes, .inr (3, [.ref q_o_nodes_xs, .ref q_o_nodes_ys, .ref q_o_nodes_ws, .int o_nodes_count, .int o_nodes_mode, .int o_nodes_degree])), (q_o_weights, .inl (g 1, 5, .inr (.inl o_weights)))]
set_option maxHeartbeats 4000000 in
set_option maxRecDepth 100000 in
theorem kX0_weightOf (D : va_G) (g : Nat → ClassId) (x : Xd) (l : Launch) (q_o q_o_nodes q_o_weights q_o_order q_o_sorted q_o_numerator q_o_denominator q_o_product q_o_nodes_xs q_o_nodes_ys q_o_nodes_ws : Nat)  (o_nodes_count : Int32) (o_nodes_mode : Int32) (o_nodes_degree : Int32) (o_weights : Nat → Int64) (p1 : Int32) (R : Int64) (h : mX0_weightOf o_nodes_count o_weights p1 = some R) : Cn D g x l yX0_weightOf cX0_weightOf 2 (some .long) 1 20 [.ref q_o, .int p1] (wX0_weightOf g q_o q_o_nodes q_o_weights q_o_order q_o_sorted q_o_numerator q_o_denominator q_o_product q_o_nodes_xs q_o_nodes_ys q_o_nodes_ws o_nodes_count o_nodes_mode o_nodes_degree o_weights) (wX0_weightOf g q_o q_o_nodes q_o_weights q_o_order q_o_sorted q_o_numerator q_o_denominator q_o_product q_o_nodes_xs q_o_nodes_ys q_o_nodes_ws o_nodes_count o_nodes_mode o_nodes_degree o_weights) (some (.long R)) := by
  refine CnL (by decide +kernel) (Nat.le_of_ble_eq_true rfl) (fun p e s m args below meth c A Q ls X hD hP hS fin hl => ?_)
  obtain ⟨hx, hb, hml, -, -, hown, hts, hK, hA, hE⟩ := id X
  unfold mX0_weightOf at h
  have hl : lv_has ls 2 [(0, .ref q_o), (1, .int p1)] := hl
  refine lv_iload_n hx hb dX0_weightOf_0 rfl (lv_at hl 1 rfl) ?_
  refine lv_if_lt (tgt := 29) hx hb dX0_weightOf_1 (by decide) (fun b1 => ?_) (fun b1 => ?_)
  · have h := o_t b1 h
    refine lv_lconst (v := 0) hx hb dX0_weightOf_29 (by decide) ?_
    cases h
    exact fin _ _ _ _ hP hS dX0_weightOf_30
  · have h := o_f b1 h
    refine lv_iload_n hx hb dX0_weightOf_4 rfl (lv_at hl 1 rfl) ?_
    refine lv_aload_n hx hb dX0_weightOf_5 rfl (lv_at hl 0 rfl) ?_
    refine mget X fl_X0_12 hP 0 rfl rfl dX0_weightOf_6 ?_
    obtain ⟨r2, c2, h⟩ := o_b h
    refine mcallV X (As := []) (rest := [.int p1]) (ws1 := wX0_weightOf g q_o q_o_nodes q_o_weights q_o_order q_o_sorted q_o_numerator q_o_denominator q_o_product q_o_nodes_xs q_o_nodes_ys q_o_nodes_ws o_nodes_count o_nodes_mode o_nodes_degree o_weights) (st1 := [.int r2, .int p1]) (kX3_size D g x l q_o_nodes q_o_nodes_xs q_o_nodes_ys q_o_nodes_ws o_nodes_count o_nodes_mode o_nodes_degree  r2 c2) mw_X3_size ml_X0_47 ⟨Nat.le_of_ble_eq_true rfl, Nat.le_of_ble_eq_true rfl⟩ hP hD hS [1] (by decide +kernel) rfl rfl 1 rfl rfl rfl hl.1 rfl (Nat.le_of_ble_eq_true rfl) dX0_weightOf_9 ⟨Nat.le_refl _, Nat.le_refl _⟩ rfl rfl (fun H locs hP hD hS => ?_)
    refine lv_icmp_ge (tgt := 29) hx hb dX0_weightOf_12 (by decide) (fun b3 => ?_) (fun b3 => ?_)
    · have h := o_t b3 h
      refine lv_lconst (v := 0) hx hb dX0_weightOf_29 (by decide) ?_
      cases h
      exact fin _ _ _ _ hP hS dX0_weightOf_30
    · have h := o_f b3 h
      refine lv_iload_n hx hb dX0_weightOf_15 rfl (lv_at hl 1 rfl) ?_
      refine lv_iconst (v := 5) hx hb dX0_weightOf_16 (by decide) ?_
      refine lv_icmp_ge (tgt := 29) hx hb dX0_weightOf_17 (by decide) (fun b4 => ?_) (fun b4 => ?_)
      · have h := o_t b4 h
        refine lv_lconst (v := 0) hx hb dX0_weightOf_29 (by decide) ?_
        cases h
        exact fin _ _ _ _ hP hS dX0_weightOf_30
      · have h := o_f b4 h
        refine lv_aload_n hx hb dX0_weightOf_20 rfl (lv_at hl 0 rfl) ?_
        refine mget X fl_X0_25 hP 0 rfl rfl dX0_weightOf_21 ?_
        refine lv_iload_n hx hb dX0_weightOf_24 rfl (lv_at hl 1 rfl) ?_
        obtain ⟨b5, h⟩ := o_no h
        refine mlld X hP 2 rfl b5 dX0_weightOf_25 ?_
        refine lv_goto (tgt := 30) hx hb dX0_weightOf_26 (by decide) ?_
        cases h
        exact fin _ _ _ _ hP hS dX0_weightOf_30
abbrev wX0_reckonPolynomials (g : Nat → ClassId) (q_o q_o_denominator q_o_nodes q_o_nodes_xs q_o_nodes_ys q_o_numerator q_o_product q_o_weights q_o_order q_o_sorted q_o_nodes_ws : Nat)  (o_denominator : Nat → Int64) (o_nodes_count : Int32) (o_nodes_mode : Int32) (o_nodes_degree : Int32) (o_nodes_xs : Nat → Int32) (o_nodes_ys : Nat → Int32) (o_numerator : Nat → Int64) (o_product : Nat → Int64) (o_weights : Nat → Int64) : va_W := [(q_o, .inr (0, [.ref q_o_nodes, .ref q_o_order, .ref q_o_sorted, .ref q_o_weights, .ref q_o_numerator, .ref q_o_denominator, .ref q_o_product])), (q_o_denominator, .inl (g 1, 5, .inr (.inl o_denominator))), (q_o_nodes, .inr (3, [.ref q_o_nodes_xs, .ref q_o_nodes_ys, .ref q_o_nodes_ws, .int o_nodes_count, .int o_nodes_mode, .int o_nodes_degree])), (q_o_nodes_xs, .inl (g 0, 5, .inl o_nodes_xs)), (q_o_nodes_ys, .inl (g 0, 5, .inl o_nodes_ys)), (q_o_numerator, .inl (g 1, 5, .inr (.inl o_numerator))), (q_o_product, .inl (g 1, 5, .inr (.inl o_product))), (q_o_weights, .inl (g 1, 5, .inr (.inl o_weights)))]
set_option maxHeartbeats 4000000 in
set_option maxRecDepth 100000 in
theorem kX0_reckonPolynomials (D : va_G) (g : Nat → ClassId) (x : Xd) (l : Launch) (q_o q_o_denominator q_o_nodes q_o_nodes_xs q_o_nodes_ys q_o_numerator q_o_product q_o_weights q_o_order q_o_sorted q_o_nodes_ws : Nat)  (o_denominator : Nat → Int64) (o_nodes_count : Int32) (o_nodes_mode : Int32) (o_nodes_degree : Int32) (o_nodes_xs : Nat → Int32) (o_nodes_ys : Nat → Int32) (o_numerator : Nat → Int64) (o_product : Nat → Int64) (o_weights : Nat → Int64) (R : (Nat → Int64) × (Nat → Int64) × (Nat → Int64)) (h : mX0_reckonPolynomials o_denominator o_nodes_count o_nodes_xs o_nodes_ys o_numerator o_product o_weights = some R) : Cn D g x l yX0_reckonPolynomials cX0_reckonPolynomials 5 none 2 46 [.ref q_o] (wX0_reckonPolynomials g q_o q_o_denominator q_o_nodes q_o_nodes_xs q_o_nodes_ys q_o_numerator q_o_product q_o_weights q_o_order q_o_sorted q_o_nodes_ws o_denominator o_nodes_count o_nodes_mode o_nodes_degree o_nodes_xs o_nodes_ys o_numerator o_product o_weights) (wX0_reckonPolynomials g q_o q_o_denominator q_o_nodes q_o_nodes_xs q_o_nodes_ys q_o_numerator q_o_product q_o_weights q_o_order q_o_sorted q_o_nodes_ws R.1 o_nodes_count o_nodes_mode o_nodes_degree o_nodes_xs o_nodes_ys R.2.1 R.2.2 o_weights) none := by
  refine CnV (by decide +kernel) (Nat.le_of_ble_eq_true rfl) (fun p e s m args below meth c A Q ls X hD hP hS fin hl => ?_)
  obtain ⟨hx, hb, hml, -, -, hown, hts, hK, hA, hE⟩ := id X
  unfold mX0_reckonPolynomials at h
  have hl : lv_has ls 5 [(0, .ref q_o)] := hl
  refine lv_iconst (v := 0) hx hb dX0_reckonPolynomials_0 (by decide) ?_
  refine lv_istore_n (lv' := [(1, .int 0), (0, .ref q_o)]) hx hb dX0_reckonPolynomials_1 rfl hl (by decide) rfl (fun ls hl => ?_)
  have lp1 : ∀ (n : Nat) (v1_1 : Int32) (u1_o_denominator : Nat → Int64) (u1_o_numerator : Nat → Int64) (R1 : (Nat → Int64) × (Nat → Int64)) (h : lX0_reckonPolynomials_2 n v1_1 u1_o_denominator u1_o_numerator = some R1) (H : Heap) (locs : List Loc), va_P D vwCl (wX0_reckonPolynomials g q_o q_o_denominator q_o_nodes q_o_nodes_xs q_o_nodes_ys q_o_numerator q_o_product q_o_weights q_o_order q_o_sorted q_o_nodes_ws u1_o_denominator o_nodes_count o_nodes_mode o_nodes_degree o_nodes_xs o_nodes_ys u1_o_numerator o_product o_weights) H → va_D A (wX0_reckonPolynomials g q_o q_o_denominator q_o_nodes q_o_nodes_xs q_o_nodes_ys q_o_numerator q_o_product q_o_weights q_o_order q_o_sorted q_o_nodes_ws u1_o_denominator o_nodes_count o_nodes_mode o_nodes_degree o_nodes_xs o_nodes_ys u1_o_numerator o_product o_weights) → va_S A s.heap H locs → ∀ (ls : Array Slot), lv_has ls 5 [(0, .ref q_o), (1, .int v1_1)] → (∀ (H : Heap) (locs : List Loc) (ls : Array Slot), va_P D vwCl (wX0_reckonPolynomials g q_o q_o_denominator q_o_nodes q_o_nodes_xs q_o_nodes_ys q_o_numerator q_o_product q_o_weights q_o_order q_o_sorted q_o_nodes_ws R1.1 o_nodes_count o_nodes_mode o_nodes_degree o_nodes_xs o_nodes_ys R1.2 o_product o_weights) H → va_D A (wX0_reckonPolynomials g q_o q_o_denominator q_o_nodes q_o_nodes_xs q_o_nodes_ys q_o_numerator q_o_product q_o_weights q_o_order q_o_sorted q_o_nodes_ws R1.1 o_nodes_count o_nodes_mode o_nodes_degree o_nodes_xs o_nodes_ys R1.2 o_product o_weights) → va_S A s.heap H locs → lv_has ls 5 [(0, .ref q_o)] → W p l e (rmF 2 46) s m args below meth c H locs 0 0 Q (F0 m 27 ls [])) → W p l e (rmF 2 46) s m args below meth c H locs 0 0 Q (F0 m 2 ls []) := by
    intro n
    induction n with
    | zero =>
      intro v1_1 u1_o_denominator u1_o_numerator R1 h
      have h : none = some R1 := h
      cases h
    | succ n ih1 =>
      intro v1_1 u1_o_denominator u1_o_numerator R1 h H locs hP hD hS ls hl K1_0
      have h : (if 5 ≤ v1_1 then some (u1_o_denominator, u1_o_numerator) else if v1_1 < 0 ∨ 5 ≤ Int32.toNatClampNeg v1_1 then none else if v1_1 < 0 ∨ 5 ≤ Int32.toNatClampNeg v1_1 then none else lX0_reckonPolynomials_2 n (v1_1 + 1) (vp_updL u1_o_denominator (Int32.toNatClampNeg v1_1) 0) (vp_updL u1_o_numerator (Int32.toNatClampNeg v1_1) 0) : Option ((Nat → Int64) × (Nat → Int64))) = some R1 := h
      refine lv_iload_n hx hb dX0_reckonPolynomials_2 rfl (lv_at hl 1 rfl) ?_
      refine lv_iconst (v := 5) hx hb dX0_reckonPolynomials_3 (by decide) ?_
      refine lv_icmp_ge (tgt := 27) hx hb dX0_reckonPolynomials_4 (by decide) (fun b2 => ?_) (fun b2 => ?_)
      · have h := o_t b2 h
        cases h
        exact K1_0  _ _ _ hP hD hS (lv_sub hl [0] rfl)
      · have h := o_f b2 h
        refine lv_aload_n hx hb dX0_reckonPolynomials_7 rfl (lv_at hl 0 rfl) ?_
        refine mget X fl_X0_29 hP 0 rfl rfl dX0_reckonPolynomials_8 ?_
        refine lv_iload_n hx hb dX0_reckonPolynomials_11 rfl (lv_at hl 1 rfl) ?_
        refine lv_lconst (v := 0) hx hb dX0_reckonPolynomials_12 (by decide) ?_
        obtain ⟨b3, h⟩ := o_no h
        refine mlst X (ws1 := wX0_reckonPolynomials g q_o q_o_denominator q_o_nodes q_o_nodes_xs q_o_nodes_ys q_o_numerator q_o_product q_o_weights q_o_order q_o_sorted q_o_nodes_ws u1_o_denominator o_nodes_count o_nodes_mode o_nodes_degree o_nodes_xs o_nodes_ys (vp_updL u1_o_numerator (Int32.toNatClampNeg v1_1) 0) o_product o_weights) hP hD hS 5 rfl b3 dX0_reckonPolynomials_13 rfl (fun H locs hP hD hS => ?_)
        refine lv_aload_n hx hb dX0_reckonPolynomials_14 rfl (lv_at hl 0 rfl) ?_
        refine mget X fl_X0_32 hP 0 rfl rfl dX0_reckonPolynomials_15 ?_
        refine lv_iload_n hx hb dX0_reckonPolynomials_18 rfl (lv_at hl 1 rfl) ?_
        refine lv_lconst (v := 0) hx hb dX0_reckonPolynomials_19 (by decide) ?_
        obtain ⟨b4, h⟩ := o_no h
        refine mlst X (ws1 := wX0_reckonPolynomials g q_o q_o_denominator q_o_nodes q_o_nodes_xs q_o_nodes_ys q_o_numerator q_o_product q_o_weights q_o_order q_o_sorted q_o_nodes_ws (vp_updL u1_o_denominator (Int32.toNatClampNeg v1_1) 0) o_nodes_count o_nodes_mode o_nodes_degree o_nodes_xs o_nodes_ys (vp_updL u1_o_numerator (Int32.toNatClampNeg v1_1) 0) o_product o_weights) hP hD hS 1 rfl b4 dX0_reckonPolynomials_20 rfl (fun H locs hP hD hS => ?_)
        refine lv_iinc (v := v1_1 + 1) (lv' := [(1, .int (v1_1 + 1)), (0, .ref q_o)]) hx hb dX0_reckonPolynomials_21 hl (k := 1) rfl rfl (by decide) rfl (fun ls hl => ?_)
        refine lv_goto (tgt := 2) hx hb dX0_reckonPolynomials_24 (by decide) ?_
        exact ih1 (v1_1 + 1) (vp_updL u1_o_denominator (Int32.toNatClampNeg v1_1) 0) (vp_updL u1_o_numerator (Int32.toNatClampNeg v1_1) 0) _ h _ _ hP hD hS _ (lv_sub hl [1, 0] rfl) K1_0
  obtain ⟨r5, c5, h⟩ := o_b h
  refine lp1 FU 0 o_denominator o_numerator r5 c5 _ _ hP hD hS _ (lv_sub hl [1, 0] rfl) (fun H locs ls hP hD hS hl => ?_)
  refine lv_iconst (v := 0) hx hb dX0_reckonPolynomials_27 (by decide) ?_
  refine lv_istore_n (lv' := [(1, .int 0), (0, .ref q_o)]) hx hb dX0_reckonPolynomials_28 rfl hl (by decide) rfl (fun ls hl => ?_)
  have lp6 : ∀ (n : Nat) (v6_1 : Int32) (u6_o_denominator : Nat → Int64) (u6_o_numerator : Nat → Int64) (u6_o_product : Nat → Int64) (R6 : (Nat → Int64) × (Nat → Int64) × (Nat → Int64)) (h : lX0_reckonPolynomials_29 o_nodes_count o_nodes_xs o_nodes_ys o_weights n v6_1 u6_o_denominator u6_o_numerator u6_o_product = some R6) (H : Heap) (locs : List Loc), va_P D vwCl (wX0_reckonPolynomials g q_o q_o_denominator q_o_nodes q_o_nodes_xs q_o_nodes_ys q_o_numerator q_o_product q_o_weights q_o_order q_o_sorted q_o_nodes_ws u6_o_denominator o_nodes_count o_nodes_mode o_nodes_degree o_nodes_xs o_nodes_ys u6_o_numerator u6_o_product o_weights) H → va_D A (wX0_reckonPolynomials g q_o q_o_denominator q_o_nodes q_o_nodes_xs q_o_nodes_ys q_o_numerator q_o_product q_o_weights q_o_order q_o_sorted q_o_nodes_ws u6_o_denominator o_nodes_count o_nodes_mode o_nodes_degree o_nodes_xs o_nodes_ys u6_o_numerator u6_o_product o_weights) → va_S A s.heap H locs → ∀ (ls : Array Slot), lv_has ls 5 [(0, .ref q_o), (1, .int v6_1)] → (∀ (H : Heap) (locs : List Loc) (ls : Array Slot), va_P D vwCl (wX0_reckonPolynomials g q_o q_o_denominator q_o_nodes q_o_nodes_xs q_o_nodes_ys q_o_numerator q_o_product q_o_weights q_o_order q_o_sorted q_o_nodes_ws R6.1 o_nodes_count o_nodes_mode o_nodes_degree o_nodes_xs o_nodes_ys R6.2.1 R6.2.2 o_weights) H → va_D A (wX0_reckonPolynomials g q_o q_o_denominator q_o_nodes q_o_nodes_xs q_o_nodes_ys q_o_numerator q_o_product q_o_weights q_o_order q_o_sorted q_o_nodes_ws R6.1 o_nodes_count o_nodes_mode o_nodes_degree o_nodes_xs o_nodes_ys R6.2.1 R6.2.2 o_weights) → va_S A s.heap H locs → lv_has ls 5 [] → W p l e (rmF 2 46) s m args below meth c H locs 0 0 Q (F0 m 107 ls [])) → W p l e (rmF 2 46) s m args below meth c H locs 0 0 Q (F0 m 29 ls []) := by
    intro n
    induction n with
    | zero =>
      intro v6_1 u6_o_denominator u6_o_numerator u6_o_product R6 h
      have h : none = some R6 := h
      cases h
    | succ n ih6 =>
      intro v6_1 u6_o_denominator u6_o_numerator u6_o_product R6 h H locs hP hD hS ls hl K6_0
      have h : ((mX3_size o_nodes_count).bind fun r7 => if r7 ≤ v6_1 then some (u6_o_denominator, u6_o_numerator, u6_o_product) else (mX0_reckonProduct o_nodes_count o_nodes_xs u6_o_product v6_1).bind fun r9 => (lX0_reckonPolynomials_47 v6_1 o_nodes_count o_nodes_ys r9 o_weights FU 0 u6_o_denominator u6_o_numerator).bind fun r19 => lX0_reckonPolynomials_29 o_nodes_count o_nodes_xs o_nodes_ys o_weights n (v6_1 + 1) r19.1 r19.2 r9 : Option ((Nat → Int64) × (Nat → Int64) × (Nat → Int64))) = some R6 := h
      refine lv_iload_n hx hb dX0_reckonPolynomials_29 rfl (lv_at hl 1 rfl) ?_
      refine lv_aload_n hx hb dX0_reckonPolynomials_30 rfl (lv_at hl 0 rfl) ?_
      refine mget X fl_X0_12 hP 0 rfl rfl dX0_reckonPolynomials_31 ?_
      obtain ⟨r7, c7, h⟩ := o_b h
      refine mcallV X (As := []) (rest := [.int v6_1]) (ws1 := wX0_reckonPolynomials g q_o q_o_denominator q_o_nodes q_o_nodes_xs q_o_nodes_ys q_o_numerator q_o_product q_o_weights q_o_order q_o_sorted q_o_nodes_ws u6_o_denominator o_nodes_count o_nodes_mode o_nodes_degree o_nodes_xs o_nodes_ys u6_o_numerator u6_o_product o_weights) (st1 := [.int r7, .int v6_1]) (kX3_size D g x l q_o_nodes q_o_nodes_xs q_o_nodes_ys q_o_nodes_ws o_nodes_count o_nodes_mode o_nodes_degree  r7 c7) mw_X3_size ml_X0_47 ⟨Nat.le_of_ble_eq_true rfl, Nat.le_of_ble_eq_true rfl⟩ hP hD hS [2] (by decide +kernel) rfl rfl 2 rfl rfl rfl hl.1 rfl (Nat.le_of_ble_eq_true rfl) dX0_reckonPolynomials_34 ⟨Nat.le_refl _, Nat.le_refl _⟩ rfl rfl (fun H locs hP hD hS => ?_)
      refine lv_icmp_ge (tgt := 107) hx hb dX0_reckonPolynomials_37 (by decide) (fun b8 => ?_) (fun b8 => ?_)
      · have h := o_t b8 h
        cases h
        exact K6_0  _ _ _ hP hD hS (lv_sub hl [] rfl)
      · have h := o_f b8 h
        refine lv_aload_n hx hb dX0_reckonPolynomials_40 rfl (lv_at hl 0 rfl) ?_
        refine lv_iload_n hx hb dX0_reckonPolynomials_41 rfl (lv_at hl 1 rfl) ?_
        obtain ⟨r9, c9, h⟩ := o_b h
        refine mcallV X (As := [.int v6_1]) (rest := []) (ws1 := wX0_reckonPolynomials g q_o q_o_denominator q_o_nodes q_o_nodes_xs q_o_nodes_ys q_o_numerator q_o_product q_o_weights q_o_order q_o_sorted q_o_nodes_ws u6_o_denominator o_nodes_count o_nodes_mode o_nodes_degree o_nodes_xs o_nodes_ys u6_o_numerator r9 o_weights) (st1 := []) (kX0_reckonProduct D g x l q_o q_o_nodes q_o_nodes_xs q_o_product q_o_order q_o_sorted q_o_weights q_o_numerator q_o_denominator q_o_nodes_ys q_o_nodes_ws o_nodes_count o_nodes_mode o_nodes_degree o_nodes_xs u6_o_product v6_1 r9 c9) mw_X0_reckonProduct ml_X0_91 ⟨Nat.le_of_ble_eq_true rfl, Nat.le_of_ble_eq_true rfl⟩ hP hD hS [0, 2, 3, 6] (by decide +kernel) rfl rfl 0 rfl rfl rfl hl.1 rfl (Nat.le_of_ble_eq_true rfl) dX0_reckonPolynomials_42 ⟨Nat.le_refl _, Nat.le_refl _⟩ rfl rfl (fun H locs hP hD hS => ?_)
        refine lv_iconst (v := 0) hx hb dX0_reckonPolynomials_45 (by decide) ?_
        refine lv_istore_n (lv' := [(2, .int 0), (0, .ref q_o), (1, .int v6_1)]) hx hb dX0_reckonPolynomials_46 rfl hl (by decide) rfl (fun ls hl => ?_)
        have lp10 : ∀ (n : Nat) (v10_2 : Int32) (u10_o_denominator : Nat → Int64) (u10_o_numerator : Nat → Int64) (R10 : (Nat → Int64) × (Nat → Int64)) (h : lX0_reckonPolynomials_47 v6_1 o_nodes_count o_nodes_ys r9 o_weights n v10_2 u10_o_denominator u10_o_numerator = some R10) (H : Heap) (locs : List Loc), va_P D vwCl (wX0_reckonPolynomials g q_o q_o_denominator q_o_nodes q_o_nodes_xs q_o_nodes_ys q_o_numerator q_o_product q_o_weights q_o_order q_o_sorted q_o_nodes_ws u10_o_denominator o_nodes_count o_nodes_mode o_nodes_degree o_nodes_xs o_nodes_ys u10_o_numerator r9 o_weights) H → va_D A (wX0_reckonPolynomials g q_o q_o_denominator q_o_nodes q_o_nodes_xs q_o_nodes_ys q_o_numerator q_o_product q_o_weights q_o_order q_o_sorted q_o_nodes_ws u10_o_denominator o_nodes_count o_nodes_mode o_nodes_degree o_nodes_xs o_nodes_ys u10_o_numerator r9 o_weights) → va_S A s.heap H locs → ∀ (ls : Array Slot), lv_has ls 5 [(0, .ref q_o), (1, .int v6_1), (2, .int v10_2)] → (∀ (H : Heap) (locs : List Loc) (ls : Array Slot), va_P D vwCl (wX0_reckonPolynomials g q_o q_o_denominator q_o_nodes q_o_nodes_xs q_o_nodes_ys q_o_numerator q_o_product q_o_weights q_o_order q_o_sorted q_o_nodes_ws R10.1 o_nodes_count o_nodes_mode o_nodes_degree o_nodes_xs o_nodes_ys R10.2 r9 o_weights) H → va_D A (wX0_reckonPolynomials g q_o q_o_denominator q_o_nodes q_o_nodes_xs q_o_nodes_ys q_o_numerator q_o_product q_o_weights q_o_order q_o_sorted q_o_nodes_ws R10.1 o_nodes_count o_nodes_mode o_nodes_degree o_nodes_xs o_nodes_ys R10.2 r9 o_weights) → va_S A s.heap H locs → lv_has ls 5 [(0, .ref q_o), (1, .int v6_1)] → W p l e (rmF 2 46) s m args below meth c H locs 0 0 Q (F0 m 101 ls [])) → W p l e (rmF 2 46) s m args below meth c H locs 0 0 Q (F0 m 47 ls []) := by
          intro n
          induction n with
          | zero =>
            intro v10_2 u10_o_denominator u10_o_numerator R10 h
            have h : none = some R10 := h
            cases h
          | succ n ih10 =>
            intro v10_2 u10_o_denominator u10_o_numerator R10 h H locs hP hD hS ls hl K10_0
            have h : (if 5 ≤ v10_2 then some (u10_o_denominator, u10_o_numerator) else (mX0_weightOf o_nodes_count o_weights v6_1).bind fun r12 => if v10_2 < 0 ∨ 5 ≤ Int32.toNatClampNeg v10_2 then none else if v10_2 < 0 ∨ 5 ≤ Int32.toNatClampNeg v10_2 then none else (mX3_yOf o_nodes_ys v6_1).bind fun r15 => if v10_2 < 0 ∨ 5 ≤ Int32.toNatClampNeg v10_2 then none else if v10_2 < 0 ∨ 5 ≤ Int32.toNatClampNeg v10_2 then none else if v10_2 < 0 ∨ 5 ≤ Int32.toNatClampNeg v10_2 then none else lX0_reckonPolynomials_47 v6_1 o_nodes_count o_nodes_ys r9 o_weights n (v10_2 + 1) (vp_updL u10_o_denominator (Int32.toNatClampNeg v10_2) ((u10_o_denominator (Int32.toNatClampNeg v10_2)) + (r12 * (r9 (Int32.toNatClampNeg v10_2))))) (vp_updL u10_o_numerator (Int32.toNatClampNeg v10_2) ((u10_o_numerator (Int32.toNatClampNeg v10_2)) + ((r12 * (r9 (Int32.toNatClampNeg v10_2))) * (Int32.toInt64 r15)))) : Option ((Nat → Int64) × (Nat → Int64))) = some R10 := h
            refine lv_iload_n hx hb dX0_reckonPolynomials_47 rfl (lv_at hl 2 rfl) ?_
            refine lv_iconst (v := 5) hx hb dX0_reckonPolynomials_48 (by decide) ?_
            refine lv_icmp_ge (tgt := 101) hx hb dX0_reckonPolynomials_49 (by decide) (fun b11 => ?_) (fun b11 => ?_)
            · have h := o_t b11 h
              cases h
              exact K10_0  _ _ _ hP hD hS (lv_sub hl [0, 1] rfl)
            · have h := o_f b11 h
              refine lv_aload_n hx hb dX0_reckonPolynomials_52 rfl (lv_at hl 0 rfl) ?_
              refine lv_iload_n hx hb dX0_reckonPolynomials_53 rfl (lv_at hl 1 rfl) ?_
              obtain ⟨r12, c12, h⟩ := o_b h
              refine mcallV X (As := [.int v6_1]) (rest := []) (ws1 := wX0_reckonPolynomials g q_o q_o_denominator q_o_nodes q_o_nodes_xs q_o_nodes_ys q_o_numerator q_o_product q_o_weights q_o_order q_o_sorted q_o_nodes_ws u10_o_denominator o_nodes_count o_nodes_mode o_nodes_degree o_nodes_xs o_nodes_ys u10_o_numerator r9 o_weights) (st1 := [.long r12]) (kX0_weightOf D g x l q_o q_o_nodes q_o_weights q_o_order q_o_sorted q_o_numerator q_o_denominator q_o_product q_o_nodes_xs q_o_nodes_ys q_o_nodes_ws o_nodes_count o_nodes_mode o_nodes_degree o_weights v6_1 r12 c12) mw_X0_weightOf ml_X0_95 ⟨Nat.le_of_ble_eq_true rfl, Nat.le_of_ble_eq_true rfl⟩ hP hD hS [0, 2, 7] (by decide +kernel) rfl rfl 0 rfl rfl rfl hl.1 rfl (Nat.le_of_ble_eq_true rfl) dX0_reckonPolynomials_54 ⟨Nat.le_refl _, Nat.le_refl _⟩ rfl rfl (fun H locs hP hD hS => ?_)
              refine lv_aload_n hx hb dX0_reckonPolynomials_57 rfl (lv_at hl 0 rfl) ?_
              refine mget X fl_X0_35 hP 0 rfl rfl dX0_reckonPolynomials_58 ?_
              refine lv_iload_n hx hb dX0_reckonPolynomials_61 rfl (lv_at hl 2 rfl) ?_
              obtain ⟨b13, h⟩ := o_no h
              refine mlld X hP 6 rfl b13 dX0_reckonPolynomials_62 ?_
              refine lv_lmul hx hb dX0_reckonPolynomials_63 ?_
              refine lv_lstore_n (lv' := [(3, .long (r12 * (r9 (Int32.toNatClampNeg v10_2)))), (0, .ref q_o), (1, .int v6_1), (2, .int v10_2)]) hx hb dX0_reckonPolynomials_64 rfl hl (by decide) rfl (fun ls hl => ?_)
              refine lv_aload_n hx hb dX0_reckonPolynomials_65 rfl (lv_at hl 1 rfl) ?_
              refine mget X fl_X0_29 hP 0 rfl rfl dX0_reckonPolynomials_66 ?_
              refine lv_iload_n hx hb dX0_reckonPolynomials_69 rfl (lv_at hl 3 rfl) ?_
              refine lv_dup2_11 hx hb dX0_reckonPolynomials_70 rfl rfl ?_
              obtain ⟨b14, h⟩ := o_no h
              refine mlld X hP 5 rfl b14 dX0_reckonPolynomials_71 ?_
              refine lv_lload_n hx hb dX0_reckonPolynomials_72 rfl (lv_at hl 0 rfl) ?_
              refine lv_aload_n hx hb dX0_reckonPolynomials_73 rfl (lv_at hl 1 rfl) ?_
              refine mget X fl_X0_12 hP 0 rfl rfl dX0_reckonPolynomials_74 ?_
              refine lv_iload_n hx hb dX0_reckonPolynomials_77 rfl (lv_at hl 2 rfl) ?_
              obtain ⟨r15, c15, h⟩ := o_b h
              refine mcallV X (As := [.int v6_1]) (rest := [.long (r12 * (r9 (Int32.toNatClampNeg v10_2))), .long (u10_o_numerator (Int32.toNatClampNeg v10_2)), .int v10_2, .ref q_o_numerator]) (ws1 := wX0_reckonPolynomials g q_o q_o_denominator q_o_nodes q_o_nodes_xs q_o_nodes_ys q_o_numerator q_o_product q_o_weights q_o_order q_o_sorted q_o_nodes_ws u10_o_denominator o_nodes_count o_nodes_mode o_nodes_degree o_nodes_xs o_nodes_ys u10_o_numerator r9 o_weights) (st1 := [.int r15, .long (r12 * (r9 (Int32.toNatClampNeg v10_2))), .long (u10_o_numerator (Int32.toNatClampNeg v10_2)), .int v10_2, .ref q_o_numerator]) (kX3_yOf D g x l q_o_nodes q_o_nodes_ys q_o_nodes_xs q_o_nodes_ws o_nodes_count o_nodes_mode o_nodes_degree o_nodes_ys v6_1 r15 c15) mw_X3_yOf ml_X0_99 ⟨Nat.le_of_ble_eq_true rfl, Nat.le_of_ble_eq_true rfl⟩ hP hD hS [2, 4] (by decide +kernel) rfl rfl 2 rfl rfl rfl hl.1 rfl (Nat.le_of_ble_eq_true rfl) dX0_reckonPolynomials_78 ⟨Nat.le_refl _, Nat.le_refl _⟩ rfl rfl (fun H locs hP hD hS => ?_)
              refine lv_i2l (v := Int32.toInt64 r15) hx hb dX0_reckonPolynomials_81 rfl ?_
              refine lv_lmul hx hb dX0_reckonPolynomials_82 ?_
              refine lv_ladd hx hb dX0_reckonPolynomials_83 ?_
              obtain ⟨b16, h⟩ := o_no h
              refine mlst X (ws1 := wX0_reckonPolynomials g q_o q_o_denominator q_o_nodes q_o_nodes_xs q_o_nodes_ys q_o_numerator q_o_product q_o_weights q_o_order q_o_sorted q_o_nodes_ws u10_o_denominator o_nodes_count o_nodes_mode o_nodes_degree o_nodes_xs o_nodes_ys (vp_updL u10_o_numerator (Int32.toNatClampNeg v10_2) ((u10_o_numerator (Int32.toNatClampNeg v10_2)) + ((r12 * (r9 (Int32.toNatClampNeg v10_2))) * (Int32.toInt64 r15)))) r9 o_weights) hP hD hS 5 rfl b16 dX0_reckonPolynomials_84 rfl (fun H locs hP hD hS => ?_)
              refine lv_aload_n hx hb dX0_reckonPolynomials_85 rfl (lv_at hl 1 rfl) ?_
              refine mget X fl_X0_32 hP 0 rfl rfl dX0_reckonPolynomials_86 ?_
              refine lv_iload_n hx hb dX0_reckonPolynomials_89 rfl (lv_at hl 3 rfl) ?_
              refine lv_dup2_11 hx hb dX0_reckonPolynomials_90 rfl rfl ?_
              obtain ⟨b17, h⟩ := o_no h
              refine mlld X hP 1 rfl b17 dX0_reckonPolynomials_91 ?_
              refine lv_lload_n hx hb dX0_reckonPolynomials_92 rfl (lv_at hl 0 rfl) ?_
              refine lv_ladd hx hb dX0_reckonPolynomials_93 ?_
              obtain ⟨b18, h⟩ := o_no h
              refine mlst X (ws1 := wX0_reckonPolynomials g q_o q_o_denominator q_o_nodes q_o_nodes_xs q_o_nodes_ys q_o_numerator q_o_product q_o_weights q_o_order q_o_sorted q_o_nodes_ws (vp_updL u10_o_denominator (Int32.toNatClampNeg v10_2) ((u10_o_denominator (Int32.toNatClampNeg v10_2)) + (r12 * (r9 (Int32.toNatClampNeg v10_2))))) o_nodes_count o_nodes_mode o_nodes_degree o_nodes_xs o_nodes_ys (vp_updL u10_o_numerator (Int32.toNatClampNeg v10_2) ((u10_o_numerator (Int32.toNatClampNeg v10_2)) + ((r12 * (r9 (Int32.toNatClampNeg v10_2))) * (Int32.toInt64 r15)))) r9 o_weights) hP hD hS 1 rfl b18 dX0_reckonPolynomials_94 rfl (fun H locs hP hD hS => ?_)
              refine lv_iinc (v := v10_2 + 1) (lv' := [(2, .int (v10_2 + 1)), (3, .long (r12 * (r9 (Int32.toNatClampNeg v10_2)))), (0, .ref q_o), (1, .int v6_1)]) hx hb dX0_reckonPolynomials_95 hl (k := 3) rfl rfl (by decide) rfl (fun ls hl => ?_)
              refine lv_goto (tgt := 47) hx hb dX0_reckonPolynomials_98 (by decide) ?_
              exact ih10 (v10_2 + 1) (vp_updL u10_o_denominator (Int32.toNatClampNeg v10_2) ((u10_o_denominator (Int32.toNatClampNeg v10_2)) + (r12 * (r9 (Int32.toNatClampNeg v10_2))))) (vp_updL u10_o_numerator (Int32.toNatClampNeg v10_2) ((u10_o_numerator (Int32.toNatClampNeg v10_2)) + ((r12 * (r9 (Int32.toNatClampNeg v10_2))) * (Int32.toInt64 r15)))) _ h _ _ hP hD hS _ (lv_sub hl [2, 3, 0] rfl) K10_0
        obtain ⟨r19, c19, h⟩ := o_b h
        refine lp10 FU 0 u6_o_denominator u6_o_numerator r19 c19 _ _ hP hD hS _ (lv_sub hl [1, 2, 0] rfl) (fun H locs ls hP hD hS hl => ?_)
        refine lv_iinc (v := v6_1 + 1) (lv' := [(1, .int (v6_1 + 1)), (0, .ref q_o)]) hx hb dX0_reckonPolynomials_101 hl (k := 1) rfl rfl (by decide) rfl (fun ls hl => ?_)
        refine lv_goto (tgt := 29) hx hb dX0_reckonPolynomials_104 (by decide) ?_
        exact ih6 (v6_1 + 1) r19.1 r19.2 r9 _ h _ _ hP hD hS _ (lv_sub hl [1, 0] rfl) K6_0
  obtain ⟨r20, c20, h⟩ := o_b h
  refine lp6 FU 0 r5.1 r5.2 o_product r20 c20 _ _ hP hD hS _ (lv_sub hl [1, 0] rfl) (fun H locs ls hP hD hS hl => ?_)
  cases h
  exact fin _ _ _ _ hP hS dX0_reckonPolynomials_107
abbrev wX0_reckon (g : Nat → ClassId) (q_o q_o_denominator q_o_nodes q_o_nodes_ws q_o_nodes_xs q_o_nodes_ys q_o_numerator q_o_order q_o_product q_o_sorted q_o_weights : Nat)  (o_denominator : Nat → Int64) (o_nodes_count : Int32) (o_nodes_mode : Int32) (o_nodes_degree : Int32) (o_nodes_ws : Nat → Int32) (o_nodes_xs : Nat → Int32) (o_nodes_ys : Nat → Int32) (o_numerator : Nat → Int64) (o_order : Nat → Int32) (o_product : Nat → Int64) (o_sorted : Nat → Int32) (o_weights : Nat → Int64) : va_W := [(q_o, .inr (0, [.ref q_o_nodes, .ref q_o_order, .ref q_o_sorted, .ref q_o_weights, .ref q_o_numerator, .ref q_o_denominator, .ref q_o_product])), (q_o_denominator, .inl (g 1, 5, .inr (.inl o_denominator))), (q_o_nodes, .inr (3, [.ref q_o_nodes_xs, .ref q_o_nodes_ys, .ref q_o_nodes_ws, .int o_nodes_count, .int o_nodes_mode, .int o_nodes_degree])), (q_o_nodes_ws, .inl (g 0, 5, .inl o_nodes_ws)), (q_o_nodes_xs, .inl (g 0, 5, .inl o_nodes_xs)), (q_o_nodes_ys, .inl (g 0, 5, .inl o_nodes_ys)), (q_o_numerator, .inl (g 1, 5, .inr (.inl o_numerator))), (q_o_order, .inl (g 0, 5, .inl o_order)), (q_o_product, .inl (g 1, 5, .inr (.inl o_product))), (q_o_sorted, .inl (g 0, 5, .inl o_sorted)), (q_o_weights, .inl (g 1, 5, .inr (.inl o_weights)))]
set_option maxHeartbeats 4000000 in
set_option maxRecDepth 100000 in
theorem kX0_reckon (D : va_G) (g : Nat → ClassId) (x : Xd) (l : Launch) (q_o q_o_denominator q_o_nodes q_o_nodes_ws q_o_nodes_xs q_o_nodes_ys q_o_numerator q_o_order q_o_product q_o_sorted q_o_weights : Nat)  (o_denominator : Nat → Int64) (o_nodes_count : Int32) (o_nodes_mode : Int32) (o_nodes_degree : Int32) (o_nodes_ws : Nat → Int32) (o_nodes_xs : Nat → Int32) (o_nodes_ys : Nat → Int32) (o_numerator : Nat → Int64) (o_order : Nat → Int32) (o_product : Nat → Int64) (o_sorted : Nat → Int32) (o_weights : Nat → Int64) (R : (Nat → Int64) × (Nat → Int64) × (Nat → Int32) × (Nat → Int64) × (Nat → Int32) × (Nat → Int64)) (h : mX0_reckon o_denominator o_nodes_count o_nodes_degree o_nodes_mode o_nodes_ws o_nodes_xs o_nodes_ys o_numerator o_order o_product o_sorted o_weights = some R) : Cn D g x l yX0_reckon cX0_reckon 1 none 4 102 [.ref q_o] (wX0_reckon g q_o q_o_denominator q_o_nodes q_o_nodes_ws q_o_nodes_xs q_o_nodes_ys q_o_numerator q_o_order q_o_product q_o_sorted q_o_weights o_denominator o_nodes_count o_nodes_mode o_nodes_degree o_nodes_ws o_nodes_xs o_nodes_ys o_numerator o_order o_product o_sorted o_weights) (wX0_reckon g q_o q_o_denominator q_o_nodes q_o_nodes_ws q_o_nodes_xs q_o_nodes_ys q_o_numerator q_o_order q_o_product q_o_sorted q_o_weights R.1 o_nodes_count o_nodes_mode o_nodes_degree o_nodes_ws o_nodes_xs o_nodes_ys R.2.1 R.2.2.1 R.2.2.2.1 R.2.2.2.2.1 R.2.2.2.2.2) none := by
  refine CnV (by decide +kernel) (Nat.le_of_ble_eq_true rfl) (fun p e s m args below meth c A Q ls X hD hP hS fin hl => ?_)
  obtain ⟨hx, hb, hml, -, -, hown, hts, hK, hA, hE⟩ := id X
  unfold mX0_reckon at h
  have hl : lv_has ls 1 [(0, .ref q_o)] := hl
  refine lv_aload_n hx hb dX0_reckon_0 rfl (lv_at hl 0 rfl) ?_
  obtain ⟨r1, c1, h⟩ := o_b h
  refine mcallV X (As := []) (rest := []) (ws1 := wX0_reckon g q_o q_o_denominator q_o_nodes q_o_nodes_ws q_o_nodes_xs q_o_nodes_ys q_o_numerator q_o_order q_o_product q_o_sorted q_o_weights o_denominator o_nodes_count o_nodes_mode o_nodes_degree o_nodes_ws o_nodes_xs o_nodes_ys o_numerator r1.1 o_product r1.2 o_weights) (st1 := []) (kX0_sort D g x l q_o q_o_nodes q_o_nodes_xs q_o_order q_o_sorted q_o_weights q_o_numerator q_o_denominator q_o_product q_o_nodes_ys q_o_nodes_ws o_nodes_count o_nodes_mode o_nodes_degree o_nodes_xs o_order o_sorted  r1 c1) mw_X0_sort ml_X0_38 ⟨Nat.le_of_ble_eq_true rfl, Nat.le_of_ble_eq_true rfl⟩ hP hD hS [0, 2, 4, 7, 9] (by decide +kernel) rfl rfl 0 rfl rfl rfl hl.1 rfl (Nat.le_of_ble_eq_true rfl) dX0_reckon_1 ⟨Nat.le_refl _, Nat.le_refl _⟩ rfl rfl (fun H locs hP hD hS => ?_)
  refine lv_aload_n hx hb dX0_reckon_4 rfl (lv_at hl 0 rfl) ?_
  obtain ⟨r2, c2, h⟩ := o_b h
  refine mcallV X (As := []) (rest := []) (ws1 := wX0_reckon g q_o q_o_denominator q_o_nodes q_o_nodes_ws q_o_nodes_xs q_o_nodes_ys q_o_numerator q_o_order q_o_product q_o_sorted q_o_weights o_denominator o_nodes_count o_nodes_mode o_nodes_degree o_nodes_ws o_nodes_xs o_nodes_ys o_numerator r1.1 o_product r1.2 r2) (st1 := []) (kX0_reckonWeights D g x l q_o q_o_nodes q_o_nodes_ws q_o_nodes_xs q_o_sorted q_o_weights q_o_order q_o_numerator q_o_denominator q_o_product q_o_nodes_ys o_nodes_count o_nodes_mode o_nodes_degree o_nodes_ws o_nodes_xs r1.2 o_weights  r2 c2) mw_X0_reckonWeights ml_X0_41 ⟨Nat.le_of_ble_eq_true rfl, Nat.le_of_ble_eq_true rfl⟩ hP hD hS [0, 2, 3, 4, 9, 10] (by decide +kernel) rfl rfl 0 rfl rfl rfl hl.1 rfl (Nat.le_of_ble_eq_true rfl) dX0_reckon_5 ⟨Nat.le_refl _, Nat.le_refl _⟩ rfl rfl (fun H locs hP hD hS => ?_)
  refine lv_aload_n hx hb dX0_reckon_8 rfl (lv_at hl 0 rfl) ?_
  obtain ⟨r3, c3, h⟩ := o_b h
  refine mcallV X (As := []) (rest := []) (ws1 := wX0_reckon g q_o q_o_denominator q_o_nodes q_o_nodes_ws q_o_nodes_xs q_o_nodes_ys q_o_numerator q_o_order q_o_product q_o_sorted q_o_weights r3.1 o_nodes_count o_nodes_mode o_nodes_degree o_nodes_ws o_nodes_xs o_nodes_ys r3.2.1 r1.1 r3.2.2 r1.2 r2) (st1 := []) (kX0_reckonPolynomials D g x l q_o q_o_denominator q_o_nodes q_o_nodes_xs q_o_nodes_ys q_o_numerator q_o_product q_o_weights q_o_order q_o_sorted q_o_nodes_ws o_denominator o_nodes_count o_nodes_mode o_nodes_degree o_nodes_xs o_nodes_ys o_numerator o_product r2  r3 c3) mw_X0_reckonPolynomials ml_X0_44 ⟨Nat.le_of_ble_eq_true rfl, Nat.le_of_ble_eq_true rfl⟩ hP hD hS [0, 1, 2, 4, 5, 6, 8, 10] (by decide +kernel) rfl rfl 0 rfl rfl rfl hl.1 rfl (Nat.le_of_ble_eq_true rfl) dX0_reckon_9 ⟨Nat.le_refl _, Nat.le_refl _⟩ rfl rfl (fun H locs hP hD hS => ?_)
  cases h
  exact fin _ _ _ _ hP hS dX0_reckon_12
abbrev wX0_alternates (g : Nat → ClassId) (q_o q_o_nodes q_o_order q_o_weights q_o_sorted q_o_numerator q_o_denominator q_o_product q_o_nodes_xs q_o_nodes_ys q_o_nodes_ws : Nat)  (o_nodes_count : Int32) (o_nodes_mode : Int32) (o_nodes_degree : Int32) (o_order : Nat → Int32) (o_weights : Nat → Int64) : va_W := [(q_o, .inr (0, [.ref q_o_nodes, .ref q_o_order, .ref q_o_sorted, .ref q_o_weights, .ref q_o_numerator, .ref q_o_denominator, .ref q_o_product])), (q_o_nodes, .inr (3, [.ref q_o_nodes_xs, .ref q_o_nodes_ys, .ref q_o_nodes_ws, .int o_nodes_count, .int o_nodes_mode, .int o_nodes_degree])), (q_o_order, .inl (g 0, 5, .inl o_order)), (q_o_weights, .inl (g 1, 5, .inr (.inl o_weights)))]
set_option maxHeartbeats 4000000 in
set_option maxRecDepth 100000 in
theorem kX0_alternates (D : va_G) (g : Nat → ClassId) (x : Xd) (l : Launch) (q_o q_o_nodes q_o_order q_o_weights q_o_sorted q_o_numerator q_o_denominator q_o_product q_o_nodes_xs q_o_nodes_ys q_o_nodes_ws : Nat)  (o_nodes_count : Int32) (o_nodes_mode : Int32) (o_nodes_degree : Int32) (o_order : Nat → Int32) (o_weights : Nat → Int64) (R : Int32) (h : mX0_alternates o_nodes_count o_order o_weights = some R) : Cn D g x l yX0_alternates cX0_alternates 6 (some .boolean) 2 41 [.ref q_o] (wX0_alternates g q_o q_o_nodes q_o_order q_o_weights q_o_sorted q_o_numerator q_o_denominator q_o_product q_o_nodes_xs q_o_nodes_ys q_o_nodes_ws o_nodes_count o_nodes_mode o_nodes_degree o_order o_weights) (wX0_alternates g q_o q_o_nodes q_o_order q_o_weights q_o_sorted q_o_numerator q_o_denominator q_o_product q_o_nodes_xs q_o_nodes_ys q_o_nodes_ws o_nodes_count o_nodes_mode o_nodes_degree o_order o_weights) (some (.int R)) := by
  refine CnI (by decide +kernel) (Nat.le_of_ble_eq_true rfl) (fun p e s m args below meth c A Q ls X hD hP hS fin hl => ?_)
  obtain ⟨hx, hb, hml, -, -, hown, hts, hK, hA, hE⟩ := id X
  unfold mX0_alternates at h
  have hl : lv_has ls 6 [(0, .ref q_o)] := hl
  refine lv_lconst (v := 0) hx hb dX0_alternates_0 (by decide) ?_
  refine lv_lstore_n (lv' := [(1, .long 0), (0, .ref q_o)]) hx hb dX0_alternates_1 rfl hl (by decide) rfl (fun ls hl => ?_)
  refine lv_iconst (v := 0) hx hb dX0_alternates_2 (by decide) ?_
  refine lv_istore_n (lv' := [(3, .int 0), (1, .long 0), (0, .ref q_o)]) hx hb dX0_alternates_3 rfl hl (by decide) rfl (fun ls hl => ?_)
  have lp1 : ∀ (n : Nat) (v1_1 : Int64) (v1_3 : Int32) (R1 : Nat) (h : lX0_alternates_4 o_nodes_count o_order o_weights n v1_1 v1_3 = some R1) (H : Heap) (locs : List Loc), va_P D vwCl (wX0_alternates g q_o q_o_nodes q_o_order q_o_weights q_o_sorted q_o_numerator q_o_denominator q_o_product q_o_nodes_xs q_o_nodes_ys q_o_nodes_ws o_nodes_count o_nodes_mode o_nodes_degree o_order o_weights) H → va_D A (wX0_alternates g q_o q_o_nodes q_o_order q_o_weights q_o_sorted q_o_numerator q_o_denominator q_o_product q_o_nodes_xs q_o_nodes_ys q_o_nodes_ws o_nodes_count o_nodes_mode o_nodes_degree o_order o_weights) → va_S A s.heap H locs → ∀ (ls : Array Slot), lv_has ls 6 [(0, .ref q_o), (1, .long v1_1), (3, .int v1_3)] → (R1 = 0 → ∀ (H : Heap) (locs : List Loc) (ls : Array Slot), va_P D vwCl (wX0_alternates g q_o q_o_nodes q_o_order q_o_weights q_o_sorted q_o_numerator q_o_denominator q_o_product q_o_nodes_xs q_o_nodes_ys q_o_nodes_ws o_nodes_count o_nodes_mode o_nodes_degree o_order o_weights) H → va_D A (wX0_alternates g q_o q_o_nodes q_o_order q_o_weights q_o_sorted q_o_numerator q_o_denominator q_o_product q_o_nodes_xs q_o_nodes_ys q_o_nodes_ws o_nodes_count o_nodes_mode o_nodes_degree o_order o_weights) → va_S A s.heap H locs → lv_has ls 6 [] → W p l e (rmF 2 41) s m args below meth c H locs 0 0 Q (F0 m 69 ls [])) → (¬ R1 = 0 → ∀ (H : Heap) (locs : List Loc) (ls : Array Slot), va_P D vwCl (wX0_alternates g q_o q_o_nodes q_o_order q_o_weights q_o_sorted q_o_numerator q_o_denominator q_o_product q_o_nodes_xs q_o_nodes_ys q_o_nodes_ws o_nodes_count o_nodes_mode o_nodes_degree o_order o_weights) H → va_D A (wX0_alternates g q_o q_o_nodes q_o_order q_o_weights q_o_sorted q_o_numerator q_o_denominator q_o_product q_o_nodes_xs q_o_nodes_ys q_o_nodes_ws o_nodes_count o_nodes_mode o_nodes_degree o_order o_weights) → va_S A s.heap H locs → lv_has ls 6 [] → W p l e (rmF 2 41) s m args below meth c H locs 0 0 Q (F0 m 80 ls [])) → W p l e (rmF 2 41) s m args below meth c H locs 0 0 Q (F0 m 4 ls []) := by
    intro n
    induction n with
    | zero =>
      intro v1_1 v1_3 R1 h
      have h : none = some R1 := h
      cases h
    | succ n ih1 =>
      intro v1_1 v1_3 R1 h H locs hP hD hS ls hl K1_0 K1_1
      have h : ((mX3_size o_nodes_count).bind fun r2 => if r2 ≤ v1_3 then some (1 : Nat) else if 5 ≤ v1_3 then some (1 : Nat) else if v1_3 < 0 ∨ 5 ≤ Int32.toNatClampNeg v1_3 then none else (mX0_weightOf o_nodes_count o_weights (o_order (Int32.toNatClampNeg v1_3))).bind fun r6 => if r6 = 0 then some (0 : Nat) else if v1_3 ≤ 0 then lX0_alternates_4 o_nodes_count o_order o_weights n r6 (v1_3 + 1) else if r6 ≤ 0 then if v1_1 ≤ 0 then if (0 : Int32) = 0 then some (0 : Nat) else lX0_alternates_4 o_nodes_count o_order o_weights n r6 (v1_3 + 1) else if (0 : Int32) = 1 then some (0 : Nat) else lX0_alternates_4 o_nodes_count o_order o_weights n r6 (v1_3 + 1) else if v1_1 ≤ 0 then if (1 : Int32) = 0 then some (0 : Nat) else lX0_alternates_4 o_nodes_count o_order o_weights n r6 (v1_3 + 1) else if (1 : Int32) = 1 then some (0 : Nat) else lX0_alternates_4 o_nodes_count o_order o_weights n r6 (v1_3 + 1) : Option (Nat)) = some R1 := h
      refine lv_iload_n hx hb dX0_alternates_4 rfl (lv_at hl 2 rfl) ?_
      refine lv_aload_n hx hb dX0_alternates_5 rfl (lv_at hl 0 rfl) ?_
      refine mget X fl_X0_12 hP 0 rfl rfl dX0_alternates_6 ?_
      obtain ⟨r2, c2, h⟩ := o_b h
      refine mcallV X (As := []) (rest := [.int v1_3]) (ws1 := wX0_alternates g q_o q_o_nodes q_o_order q_o_weights q_o_sorted q_o_numerator q_o_denominator q_o_product q_o_nodes_xs q_o_nodes_ys q_o_nodes_ws o_nodes_count o_nodes_mode o_nodes_degree o_order o_weights) (st1 := [.int r2, .int v1_3]) (kX3_size D g x l q_o_nodes q_o_nodes_xs q_o_nodes_ys q_o_nodes_ws o_nodes_count o_nodes_mode o_nodes_degree  r2 c2) mw_X3_size ml_X0_47 ⟨Nat.le_of_ble_eq_true rfl, Nat.le_of_ble_eq_true rfl⟩ hP hD hS [1] (by decide +kernel) rfl rfl 1 rfl rfl rfl hl.1 rfl (Nat.le_of_ble_eq_true rfl) dX0_alternates_9 ⟨Nat.le_refl _, Nat.le_refl _⟩ rfl rfl (fun H locs hP hD hS => ?_)
      refine lv_icmp_ge (tgt := 80) hx hb dX0_alternates_12 (by decide) (fun b3 => ?_) (fun b3 => ?_)
      · have h := o_t b3 h
        cases h
        exact K1_1 (show ¬ (1 : Nat) = 0 from by decide) _ _ _ hP hD hS (lv_sub hl [] rfl)
      · have h := o_f b3 h
        refine lv_iload_n hx hb dX0_alternates_15 rfl (lv_at hl 2 rfl) ?_
        refine lv_iconst (v := 5) hx hb dX0_alternates_16 (by decide) ?_
        refine lv_icmp_ge (tgt := 80) hx hb dX0_alternates_17 (by decide) (fun b4 => ?_) (fun b4 => ?_)
        · have h := o_t b4 h
          cases h
          exact K1_1 (show ¬ (1 : Nat) = 0 from by decide) _ _ _ hP hD hS (lv_sub hl [] rfl)
        · have h := o_f b4 h
          refine lv_aload_n hx hb dX0_alternates_20 rfl (lv_at hl 0 rfl) ?_
          refine lv_aload_n hx hb dX0_alternates_21 rfl (lv_at hl 0 rfl) ?_
          refine mget X fl_X0_18 hP 0 rfl rfl dX0_alternates_22 ?_
          refine lv_iload_n hx hb dX0_alternates_25 rfl (lv_at hl 2 rfl) ?_
          obtain ⟨b5, h⟩ := o_no h
          refine mild X hP 2 rfl b5 dX0_alternates_26 ?_
          obtain ⟨r6, c6, h⟩ := o_b h
          refine mcallV X (As := [.int (o_order (Int32.toNatClampNeg v1_3))]) (rest := []) (ws1 := wX0_alternates g q_o q_o_nodes q_o_order q_o_weights q_o_sorted q_o_numerator q_o_denominator q_o_product q_o_nodes_xs q_o_nodes_ys q_o_nodes_ws o_nodes_count o_nodes_mode o_nodes_degree o_order o_weights) (st1 := [.long r6]) (kX0_weightOf D g x l q_o q_o_nodes q_o_weights q_o_order q_o_sorted q_o_numerator q_o_denominator q_o_product q_o_nodes_xs q_o_nodes_ys q_o_nodes_ws o_nodes_count o_nodes_mode o_nodes_degree o_weights (o_order (Int32.toNatClampNeg v1_3)) r6 c6) mw_X0_weightOf ml_X0_95 ⟨Nat.le_of_ble_eq_true rfl, Nat.le_of_ble_eq_true rfl⟩ hP hD hS [0, 1, 3] (by decide +kernel) rfl rfl 0 rfl rfl rfl hl.1 rfl (Nat.le_of_ble_eq_true rfl) dX0_alternates_27 ⟨Nat.le_refl _, Nat.le_refl _⟩ rfl rfl (fun H locs hP hD hS => ?_)
          refine lv_lstore (lv' := [(4, .long r6), (0, .ref q_o), (1, .long v1_1), (3, .int v1_3)]) hx hb dX0_alternates_30 hl (by decide) rfl (fun ls hl => ?_)
          refine lv_lload hx hb dX0_alternates_32 (lv_at hl 0 rfl) ?_
          refine lv_lconst (v := 0) hx hb dX0_alternates_34 (by decide) ?_
          refine W.lcmp hx hb dX0_alternates_35 ?_
          refine lv_if_eq (tgt := 69) hx hb dX0_alternates_36 (by decide) (fun b7 => ?_) (fun b7 => ?_)
          · have b7 := (lg_cmp_eq _ _).mp b7
            have h := o_t b7 h
            cases h
            exact K1_0 rfl _ _ _ hP hD hS (lv_sub hl [] rfl)
          · have b7 := mt (lg_cmp_eq _ _).mpr b7
            have h := o_f b7 h
            refine lv_iload_n hx hb dX0_alternates_39 rfl (lv_at hl 3 rfl) ?_
            refine lv_if_le (tgt := 71) hx hb dX0_alternates_40 (by decide) (fun b8 => ?_) (fun b8 => ?_)
            · have h := o_t b8 h
              refine lv_lload hx hb dX0_alternates_71 (lv_at hl 0 rfl) ?_
              refine lv_lstore_n (lv' := [(1, .long r6), (4, .long r6), (0, .ref q_o), (3, .int v1_3)]) hx hb dX0_alternates_73 rfl hl (by decide) rfl (fun ls hl => ?_)
              refine lv_iinc (v := v1_3 + 1) (lv' := [(3, .int (v1_3 + 1)), (1, .long r6), (4, .long r6), (0, .ref q_o)]) hx hb dX0_alternates_74 hl (k := 3) rfl rfl (by decide) rfl (fun ls hl => ?_)
              refine lv_goto (tgt := 4) hx hb dX0_alternates_77 (by decide) ?_
              exact ih1 r6 (v1_3 + 1) _ h _ _ hP hD hS _ (lv_sub hl [3, 1, 0] rfl) K1_0 K1_1
            · have h := o_f b8 h
              refine lv_lload hx hb dX0_alternates_43 (lv_at hl 0 rfl) ?_
              refine lv_lconst (v := 0) hx hb dX0_alternates_45 (by decide) ?_
              refine W.lcmp hx hb dX0_alternates_46 ?_
              refine lv_if_le (tgt := 54) hx hb dX0_alternates_47 (by decide) (fun b9 => ?_) (fun b9 => ?_)
              · have b9 := (lg_cmp_le _ _).mp b9
                have h := o_t b9 h
                refine lv_iconst (v := 0) hx hb dX0_alternates_54 (by decide) ?_
                refine lv_lload_n hx hb dX0_alternates_55 rfl (lv_at hl 2 rfl) ?_
                refine lv_lconst (v := 0) hx hb dX0_alternates_56 (by decide) ?_
                refine W.lcmp hx hb dX0_alternates_57 ?_
                refine lv_if_le (tgt := 65) hx hb dX0_alternates_58 (by decide) (fun b10 => ?_) (fun b10 => ?_)
                · have b10 := (lg_cmp_le _ _).mp b10
                  have h := o_t b10 h
                  refine lv_iconst (v := 0) hx hb dX0_alternates_65 (by decide) ?_
                  refine lv_icmp_ne (tgt := 71) hx hb dX0_alternates_66 (by decide) (fun b11 => ?_) (fun b11 => ?_)
                  · have h := o_f b11 h
                    refine lv_lload hx hb dX0_alternates_71 (lv_at hl 0 rfl) ?_
                    refine lv_lstore_n (lv' := [(1, .long r6), (4, .long r6), (0, .ref q_o), (3, .int v1_3)]) hx hb dX0_alternates_73 rfl hl (by decide) rfl (fun ls hl => ?_)
                    refine lv_iinc (v := v1_3 + 1) (lv' := [(3, .int (v1_3 + 1)), (1, .long r6), (4, .long r6), (0, .ref q_o)]) hx hb dX0_alternates_74 hl (k := 3) rfl rfl (by decide) rfl (fun ls hl => ?_)
                    refine lv_goto (tgt := 4) hx hb dX0_alternates_77 (by decide) ?_
                    exact ih1 r6 (v1_3 + 1) _ h _ _ hP hD hS _ (lv_sub hl [3, 1, 0] rfl) K1_0 K1_1
                  · have h := o_t b11 h
                    cases h
                    exact K1_0 rfl _ _ _ hP hD hS (lv_sub hl [] rfl)
                · have b10 := mt (lg_cmp_le _ _).mpr b10
                  have h := o_f b10 h
                  refine lv_iconst (v := 1) hx hb dX0_alternates_61 (by decide) ?_
                  refine lv_goto (tgt := 66) hx hb dX0_alternates_62 (by decide) ?_
                  refine lv_icmp_ne (tgt := 71) hx hb dX0_alternates_66 (by decide) (fun b12 => ?_) (fun b12 => ?_)
                  · have h := o_f b12 h
                    refine lv_lload hx hb dX0_alternates_71 (lv_at hl 0 rfl) ?_
                    refine lv_lstore_n (lv' := [(1, .long r6), (4, .long r6), (0, .ref q_o), (3, .int v1_3)]) hx hb dX0_alternates_73 rfl hl (by decide) rfl (fun ls hl => ?_)
                    refine lv_iinc (v := v1_3 + 1) (lv' := [(3, .int (v1_3 + 1)), (1, .long r6), (4, .long r6), (0, .ref q_o)]) hx hb dX0_alternates_74 hl (k := 3) rfl rfl (by decide) rfl (fun ls hl => ?_)
                    refine lv_goto (tgt := 4) hx hb dX0_alternates_77 (by decide) ?_
                    exact ih1 r6 (v1_3 + 1) _ h _ _ hP hD hS _ (lv_sub hl [3, 1, 0] rfl) K1_0 K1_1
                  · have h := o_t b12 h
                    cases h
                    exact K1_0 rfl _ _ _ hP hD hS (lv_sub hl [] rfl)
              · have b9 := mt (lg_cmp_le _ _).mpr b9
                have h := o_f b9 h
                refine lv_iconst (v := 1) hx hb dX0_alternates_50 (by decide) ?_
                refine lv_goto (tgt := 55) hx hb dX0_alternates_51 (by decide) ?_
                refine lv_lload_n hx hb dX0_alternates_55 rfl (lv_at hl 2 rfl) ?_
                refine lv_lconst (v := 0) hx hb dX0_alternates_56 (by decide) ?_
                refine W.lcmp hx hb dX0_alternates_57 ?_
                refine lv_if_le (tgt := 65) hx hb dX0_alternates_58 (by decide) (fun b13 => ?_) (fun b13 => ?_)
                · have b13 := (lg_cmp_le _ _).mp b13
                  have h := o_t b13 h
                  refine lv_iconst (v := 0) hx hb dX0_alternates_65 (by decide) ?_
                  refine lv_icmp_ne (tgt := 71) hx hb dX0_alternates_66 (by decide) (fun b14 => ?_) (fun b14 => ?_)
                  · have h := o_f b14 h
                    refine lv_lload hx hb dX0_alternates_71 (lv_at hl 0 rfl) ?_
                    refine lv_lstore_n (lv' := [(1, .long r6), (4, .long r6), (0, .ref q_o), (3, .int v1_3)]) hx hb dX0_alternates_73 rfl hl (by decide) rfl (fun ls hl => ?_)
                    refine lv_iinc (v := v1_3 + 1) (lv' := [(3, .int (v1_3 + 1)), (1, .long r6), (4, .long r6), (0, .ref q_o)]) hx hb dX0_alternates_74 hl (k := 3) rfl rfl (by decide) rfl (fun ls hl => ?_)
                    refine lv_goto (tgt := 4) hx hb dX0_alternates_77 (by decide) ?_
                    exact ih1 r6 (v1_3 + 1) _ h _ _ hP hD hS _ (lv_sub hl [3, 1, 0] rfl) K1_0 K1_1
                  · have h := o_t b14 h
                    cases h
                    exact K1_0 rfl _ _ _ hP hD hS (lv_sub hl [] rfl)
                · have b13 := mt (lg_cmp_le _ _).mpr b13
                  have h := o_f b13 h
                  refine lv_iconst (v := 1) hx hb dX0_alternates_61 (by decide) ?_
                  refine lv_goto (tgt := 66) hx hb dX0_alternates_62 (by decide) ?_
                  refine lv_icmp_ne (tgt := 71) hx hb dX0_alternates_66 (by decide) (fun b15 => ?_) (fun b15 => ?_)
                  · have h := o_f b15 h
                    refine lv_lload hx hb dX0_alternates_71 (lv_at hl 0 rfl) ?_
                    refine lv_lstore_n (lv' := [(1, .long r6), (4, .long r6), (0, .ref q_o), (3, .int v1_3)]) hx hb dX0_alternates_73 rfl hl (by decide) rfl (fun ls hl => ?_)
                    refine lv_iinc (v := v1_3 + 1) (lv' := [(3, .int (v1_3 + 1)), (1, .long r6), (4, .long r6), (0, .ref q_o)]) hx hb dX0_alternates_74 hl (k := 3) rfl rfl (by decide) rfl (fun ls hl => ?_)
                    refine lv_goto (tgt := 4) hx hb dX0_alternates_77 (by decide) ?_
                    exact ih1 r6 (v1_3 + 1) _ h _ _ hP hD hS _ (lv_sub hl [3, 1, 0] rfl) K1_0 K1_1
                  · have h := o_t b15 h
                    cases h
                    exact K1_0 rfl _ _ _ hP hD hS (lv_sub hl [] rfl)
  obtain ⟨r16, c16, h⟩ := o_b h
  refine lp1 FU 0 0 r16 c16 _ _ hP hD hS _ (lv_sub hl [2, 1, 0] rfl) (fun t1_0 H locs ls hP hD hS hl => ?_) (fun t1_0 H locs ls hP hD hS hl => ?_)
  · have h := o_t t1_0 h
    refine lv_iconst (v := 0) hx hb dX0_alternates_69 (by decide) ?_
    cases h
    exact fin _ _ _ _ (nar_z (Or.inl rfl)) hP hS dX0_alternates_70
  · have h := o_f t1_0 h
    refine lv_iconst (v := 1) hx hb dX0_alternates_80 (by decide) ?_
    cases h
    exact fin _ _ _ _ (nar_z (Or.inr rfl)) hP hS dX0_alternates_81
abbrev wX0_factor (g : Nat → ClassId) (q_o q_o_denominator q_o_numerator q_o_nodes q_o_order q_o_sorted q_o_weights q_o_product : Nat)  (o_denominator : Nat → Int64) (o_numerator : Nat → Int64) : va_W := [(q_o, .inr (0, [.ref q_o_nodes, .ref q_o_order, .ref q_o_sorted, .ref q_o_weights, .ref q_o_numerator, .ref q_o_denominator, .ref q_o_product])), (q_o_denominator, .inl (g 1, 5, .inr (.inl o_denominator))), (q_o_numerator, .inl (g 1, 5, .inr (.inl o_numerator)))]
set_option maxHeartbeats 4000000 in
set_option maxRecDepth 100000 in
theorem kX0_factor (D : va_G) (g : Nat → ClassId) (x : Xd) (l : Launch) (q_o q_o_denominator q_o_numerator q_o_nodes q_o_order q_o_sorted q_o_weights q_o_product : Nat)  (o_denominator : Nat → Int64) (o_numerator : Nat → Int64) (p1 : Int32) (p2 : Int32) (R : Int64) (h : mX0_factor o_denominator o_numerator p1 p2 = some R) : Cn D g x l yX0_factor cX0_factor 3 (some .long) 0 0 [.ref q_o, .int p1, .int p2] (wX0_factor g q_o q_o_denominator q_o_numerator q_o_nodes q_o_order q_o_sorted q_o_weights q_o_product o_denominator o_numerator) (wX0_factor g q_o q_o_denominator q_o_numerator q_o_nodes q_o_order q_o_sorted q_o_weights q_o_product o_denominator o_numerator) (some (.long R)) := by
  refine CnL (by decide +kernel) (Nat.le_of_ble_eq_true rfl) (fun p e s m args below meth c A Q ls X hD hP hS fin hl => ?_)
  obtain ⟨hx, hb, hml, -, -, hown, hts, hK, hA, hE⟩ := id X
  unfold mX0_factor at h
  have hl : lv_has ls 3 [(0, .ref q_o), (1, .int p1), (2, .int p2)] := hl
  refine lv_iload_n hx hb dX0_factor_0 rfl (lv_at hl 2 rfl) ?_
  refine lv_if_lt (tgt := 9) hx hb dX0_factor_1 (by decide) (fun b1 => ?_) (fun b1 => ?_)
  · have h := o_t b1 h
    refine lv_lconst (v := 0) hx hb dX0_factor_9 (by decide) ?_
    cases h
    exact fin _ _ _ _ hP hS dX0_factor_10
  · have h := o_f b1 h
    refine lv_iload_n hx hb dX0_factor_4 rfl (lv_at hl 2 rfl) ?_
    refine lv_iconst (v := 5) hx hb dX0_factor_5 (by decide) ?_
    refine lv_icmp_lt (tgt := 11) hx hb dX0_factor_6 (by decide) (fun b2 => ?_) (fun b2 => ?_)
    · have h := o_t b2 h
      refine lv_iload_n hx hb dX0_factor_11 rfl (lv_at hl 1 rfl) ?_
      refine lv_if_eq (tgt := 24) hx hb dX0_factor_12 (by decide) (fun b3 => ?_) (fun b3 => ?_)
      · have h := o_t b3 h
        refine lv_aload_n hx hb dX0_factor_24 rfl (lv_at hl 0 rfl) ?_
        refine mget X fl_X0_29 hP 0 rfl rfl dX0_factor_25 ?_
        refine lv_iload_n hx hb dX0_factor_28 rfl (lv_at hl 2 rfl) ?_
        obtain ⟨b4, h⟩ := o_no h
        refine mlld X hP 2 rfl b4 dX0_factor_29 ?_
        cases h
        exact fin _ _ _ _ hP hS dX0_factor_30
      · have h := o_f b3 h
        refine lv_aload_n hx hb dX0_factor_15 rfl (lv_at hl 0 rfl) ?_
        refine mget X fl_X0_32 hP 0 rfl rfl dX0_factor_16 ?_
        refine lv_iload_n hx hb dX0_factor_19 rfl (lv_at hl 2 rfl) ?_
        obtain ⟨b5, h⟩ := o_no h
        refine mlld X hP 1 rfl b5 dX0_factor_20 ?_
        refine lv_goto (tgt := 30) hx hb dX0_factor_21 (by decide) ?_
        cases h
        exact fin _ _ _ _ hP hS dX0_factor_30
    · have h := o_f b2 h
      refine lv_lconst (v := 0) hx hb dX0_factor_9 (by decide) ?_
      cases h
      exact fin _ _ _ _ hP hS dX0_factor_10
abbrev wX0_at (g : Nat → ClassId) (q_o q_o_denominator q_o_numerator q_o_nodes q_o_order q_o_sorted q_o_weights q_o_product : Nat)  (o_denominator : Nat → Int64) (o_numerator : Nat → Int64) : va_W := [(q_o, .inr (0, [.ref q_o_nodes, .ref q_o_order, .ref q_o_sorted, .ref q_o_weights, .ref q_o_numerator, .ref q_o_denominator, .ref q_o_product])), (q_o_denominator, .inl (g 1, 5, .inr (.inl o_denominator))), (q_o_numerator, .inl (g 1, 5, .inr (.inl o_numerator)))]
set_option maxHeartbeats 4000000 in
set_option maxRecDepth 100000 in
theorem kX0_at (D : va_G) (g : Nat → ClassId) (x : Xd) (l : Launch) (q_o q_o_denominator q_o_numerator q_o_nodes q_o_order q_o_sorted q_o_weights q_o_product : Nat)  (o_denominator : Nat → Int64) (o_numerator : Nat → Int64) (p1 : Int32) (p2 : Int32) (R : Int64) (h : mX0_at o_denominator o_numerator p1 p2 = some R) : Cn D g x l yX0_at cX0_at 6 (some .long) 1 22 [.ref q_o, .int p1, .int p2] (wX0_at g q_o q_o_denominator q_o_numerator q_o_nodes q_o_order q_o_sorted q_o_weights q_o_product o_denominator o_numerator) (wX0_at g q_o q_o_denominator q_o_numerator q_o_nodes q_o_order q_o_sorted q_o_weights q_o_product o_denominator o_numerator) (some (.long R)) := by
  refine CnL (by decide +kernel) (Nat.le_of_ble_eq_true rfl) (fun p e s m args below meth c A Q ls X hD hP hS fin hl => ?_)
  obtain ⟨hx, hb, hml, -, -, hown, hts, hK, hA, hE⟩ := id X
  unfold mX0_at at h
  have hl : lv_has ls 6 [(0, .ref q_o), (1, .int p1), (2, .int p2)] := hl
  refine lv_lconst (v := 0) hx hb dX0_at_0 (by decide) ?_
  refine lv_lstore_n (lv' := [(3, .long 0), (0, .ref q_o), (1, .int p1), (2, .int p2)]) hx hb dX0_at_1 rfl hl (by decide) rfl (fun ls hl => ?_)
  refine lv_iconst (v := 4) hx hb dX0_at_2 (by decide) ?_
  refine lv_istore (lv' := [(5, .int 4), (3, .long 0), (0, .ref q_o), (1, .int p1), (2, .int p2)]) hx hb dX0_at_3 hl (by decide) rfl (fun ls hl => ?_)
  have lp1 : ∀ (n : Nat) (v1_3 : Int64) (v1_5 : Int32) (R1 : Int64) (h : lX0_at_5 p1 p2 o_denominator o_numerator n v1_3 v1_5 = some R1) (H : Heap) (locs : List Loc), va_P D vwCl (wX0_at g q_o q_o_denominator q_o_numerator q_o_nodes q_o_order q_o_sorted q_o_weights q_o_product o_denominator o_numerator) H → va_D A (wX0_at g q_o q_o_denominator q_o_numerator q_o_nodes q_o_order q_o_sorted q_o_weights q_o_product o_denominator o_numerator) → va_S A s.heap H locs → ∀ (ls : Array Slot), lv_has ls 6 [(0, .ref q_o), (1, .int p1), (2, .int p2), (3, .long v1_3), (5, .int v1_5)] → (∀ (H : Heap) (locs : List Loc) (ls : Array Slot), va_P D vwCl (wX0_at g q_o q_o_denominator q_o_numerator q_o_nodes q_o_order q_o_sorted q_o_weights q_o_product o_denominator o_numerator) H → va_D A (wX0_at g q_o q_o_denominator q_o_numerator q_o_nodes q_o_order q_o_sorted q_o_weights q_o_product o_denominator o_numerator) → va_S A s.heap H locs → lv_has ls 6 [(3, .long R1)] → W p l e (rmF 1 22) s m args below meth c H locs 0 0 Q (F0 m 29 ls [])) → W p l e (rmF 1 22) s m args below meth c H locs 0 0 Q (F0 m 5 ls []) := by
    intro n
    induction n with
    | zero =>
      intro v1_3 v1_5 R1 h
      have h : none = some R1 := h
      cases h
    | succ n ih1 =>
      intro v1_3 v1_5 R1 h H locs hP hD hS ls hl K1_0
      have h : (if v1_5 < 0 then some v1_3 else (mX0_factor o_denominator o_numerator p1 v1_5).bind fun r3 => lX0_at_5 p1 p2 o_denominator o_numerator n ((v1_3 * (Int32.toInt64 p2)) + r3) (v1_5 + (-1)) : Option (Int64)) = some R1 := h
      refine lv_iload hx hb dX0_at_5 (lv_at hl 4 rfl) ?_
      refine lv_if_lt (tgt := 29) hx hb dX0_at_7 (by decide) (fun b2 => ?_) (fun b2 => ?_)
      · have h := o_t b2 h
        cases h
        exact K1_0  _ _ _ hP hD hS (lv_sub hl [3] rfl)
      · have h := o_f b2 h
        refine lv_lload_n hx hb dX0_at_10 rfl (lv_at hl 3 rfl) ?_
        refine lv_iload_n hx hb dX0_at_11 rfl (lv_at hl 2 rfl) ?_
        refine lv_i2l (v := Int32.toInt64 p2) hx hb dX0_at_12 rfl ?_
        refine lv_lmul hx hb dX0_at_13 ?_
        refine lv_aload_n hx hb dX0_at_14 rfl (lv_at hl 0 rfl) ?_
        refine lv_iload_n hx hb dX0_at_15 rfl (lv_at hl 1 rfl) ?_
        refine lv_iload hx hb dX0_at_16 (lv_at hl 4 rfl) ?_
        obtain ⟨r3, c3, h⟩ := o_b h
        refine mcallV X (As := [.int p1, .int v1_5]) (rest := [.long (v1_3 * (Int32.toInt64 p2))]) (ws1 := wX0_at g q_o q_o_denominator q_o_numerator q_o_nodes q_o_order q_o_sorted q_o_weights q_o_product o_denominator o_numerator) (st1 := [.long r3, .long (v1_3 * (Int32.toInt64 p2))]) (kX0_factor D g x l q_o q_o_denominator q_o_numerator q_o_nodes q_o_order q_o_sorted q_o_weights q_o_product o_denominator o_numerator p1 v1_5 r3 c3) mw_X0_factor ml_X0_102 ⟨Nat.le_of_ble_eq_true rfl, Nat.le_of_ble_eq_true rfl⟩ hP hD hS [0, 1, 2] (by decide +kernel) rfl rfl 0 rfl rfl rfl hl.1 rfl (Nat.le_of_ble_eq_true rfl) dX0_at_18 ⟨Nat.le_refl _, Nat.le_refl _⟩ rfl rfl (fun H locs hP hD hS => ?_)
        refine lv_ladd hx hb dX0_at_21 ?_
        refine lv_lstore_n (lv' := [(3, .long ((v1_3 * (Int32.toInt64 p2)) + r3)), (0, .ref q_o), (1, .int p1), (2, .int p2), (5, .int v1_5)]) hx hb dX0_at_22 rfl hl (by decide) rfl (fun ls hl => ?_)
        refine lv_iinc (v := v1_5 + (-1)) (lv' := [(5, .int (v1_5 + (-1))), (3, .long ((v1_3 * (Int32.toInt64 p2)) + r3)), (0, .ref q_o), (1, .int p1), (2, .int p2)]) hx hb dX0_at_23 hl (k := 4) rfl rfl (by decide) rfl (fun ls hl => ?_)
        refine lv_goto (tgt := 5) hx hb dX0_at_26 (by decide) ?_
        exact ih1 ((v1_3 * (Int32.toInt64 p2)) + r3) (v1_5 + (-1)) _ h _ _ hP hD hS _ (lv_sub hl [2, 3, 4, 1, 0] rfl) K1_0
  obtain ⟨r4, c4, h⟩ := o_b h
  refine lp1 FU 0 4 r4 c4 _ _ hP hD hS _ (lv_sub hl [2, 3, 4, 1, 0] rfl) (fun H locs ls hP hD hS hl => ?_)
  refine lv_lload_n hx hb dX0_at_29 rfl (lv_at hl 0 rfl) ?_
  cases h
  exact fin _ _ _ _ hP hS dX0_at_30
abbrev wX0_derivativeAt (g : Nat → ClassId) (q_o q_o_denominator q_o_numerator q_o_nodes q_o_order q_o_sorted q_o_weights q_o_product : Nat)  (o_denominator : Nat → Int64) (o_numerator : Nat → Int64) : va_W := [(q_o, .inr (0, [.ref q_o_nodes, .ref q_o_order, .ref q_o_sorted, .ref q_o_weights, .ref q_o_numerator, .ref q_o_denominator, .ref q_o_product])), (q_o_denominator, .inl (g 1, 5, .inr (.inl o_denominator))), (q_o_numerator, .inl (g 1, 5, .inr (.inl o_numerator)))]
set_option maxHeartbeats 4000000 in
set_option maxRecDepth 100000 in
theorem kX0_derivativeAt (D : va_G) (g : Nat → ClassId) (x : Xd) (l : Launch) (q_o q_o_denominator q_o_numerator q_o_nodes q_o_order q_o_sorted q_o_weights q_o_product : Nat)  (o_denominator : Nat → Int64) (o_numerator : Nat → Int64) (p1 : Int32) (p2 : Int32) (R : Int64) (h : mX0_derivativeAt o_denominator o_numerator p1 p2 = some R) : Cn D g x l yX0_derivativeAt cX0_derivativeAt 6 (some .long) 1 22 [.ref q_o, .int p1, .int p2] (wX0_derivativeAt g q_o q_o_denominator q_o_numerator q_o_nodes q_o_order q_o_sorted q_o_weights q_o_product o_denominator o_numerator) (wX0_derivativeAt g q_o q_o_denominator q_o_numerator q_o_nodes q_o_order q_o_sorted q_o_weights q_o_product o_denominator o_numerator) (some (.long R)) := by
  refine CnL (by decide +kernel) (Nat.le_of_ble_eq_true rfl) (fun p e s m args below meth c A Q ls X hD hP hS fin hl => ?_)
  obtain ⟨hx, hb, hml, -, -, hown, hts, hK, hA, hE⟩ := id X
  unfold mX0_derivativeAt at h
  have hl : lv_has ls 6 [(0, .ref q_o), (1, .int p1), (2, .int p2)] := hl
  refine lv_lconst (v := 0) hx hb dX0_derivativeAt_0 (by decide) ?_
  refine lv_lstore_n (lv' := [(3, .long 0), (0, .ref q_o), (1, .int p1), (2, .int p2)]) hx hb dX0_derivativeAt_1 rfl hl (by decide) rfl (fun ls hl => ?_)
  refine lv_iconst (v := 4) hx hb dX0_derivativeAt_2 (by decide) ?_
  refine lv_istore (lv' := [(5, .int 4), (3, .long 0), (0, .ref q_o), (1, .int p1), (2, .int p2)]) hx hb dX0_derivativeAt_3 hl (by decide) rfl (fun ls hl => ?_)
  have lp1 : ∀ (n : Nat) (v1_3 : Int64) (v1_5 : Int32) (R1 : Int64) (h : lX0_derivativeAt_5 p1 p2 o_denominator o_numerator n v1_3 v1_5 = some R1) (H : Heap) (locs : List Loc), va_P D vwCl (wX0_derivativeAt g q_o q_o_denominator q_o_numerator q_o_nodes q_o_order q_o_sorted q_o_weights q_o_product o_denominator o_numerator) H → va_D A (wX0_derivativeAt g q_o q_o_denominator q_o_numerator q_o_nodes q_o_order q_o_sorted q_o_weights q_o_product o_denominator o_numerator) → va_S A s.heap H locs → ∀ (ls : Array Slot), lv_has ls 6 [(0, .ref q_o), (1, .int p1), (2, .int p2), (3, .long v1_3), (5, .int v1_5)] → (∀ (H : Heap) (locs : List Loc) (ls : Array Slot), va_P D vwCl (wX0_derivativeAt g q_o q_o_denominator q_o_numerator q_o_nodes q_o_order q_o_sorted q_o_weights q_o_product o_denominator o_numerator) H → va_D A (wX0_derivativeAt g q_o q_o_denominator q_o_numerator q_o_nodes q_o_order q_o_sorted q_o_weights q_o_product o_denominator o_numerator) → va_S A s.heap H locs → lv_has ls 6 [(3, .long R1)] → W p l e (rmF 1 22) s m args below meth c H locs 0 0 Q (F0 m 33 ls [])) → W p l e (rmF 1 22) s m args below meth c H locs 0 0 Q (F0 m 5 ls []) := by
    intro n
    induction n with
    | zero =>
      intro v1_3 v1_5 R1 h
      have h : none = some R1 := h
      cases h
    | succ n ih1 =>
      intro v1_3 v1_5 R1 h H locs hP hD hS ls hl K1_0
      have h : (if v1_5 ≤ 0 then some v1_3 else (mX0_factor o_denominator o_numerator p1 v1_5).bind fun r3 => lX0_derivativeAt_5 p1 p2 o_denominator o_numerator n ((v1_3 * (Int32.toInt64 p2)) + ((Int32.toInt64 v1_5) * r3)) (v1_5 + (-1)) : Option (Int64)) = some R1 := h
      refine lv_iload hx hb dX0_derivativeAt_5 (lv_at hl 4 rfl) ?_
      refine lv_if_le (tgt := 33) hx hb dX0_derivativeAt_7 (by decide) (fun b2 => ?_) (fun b2 => ?_)
      · have h := o_t b2 h
        cases h
        exact K1_0  _ _ _ hP hD hS (lv_sub hl [3] rfl)
      · have h := o_f b2 h
        refine lv_lload_n hx hb dX0_derivativeAt_10 rfl (lv_at hl 3 rfl) ?_
        refine lv_iload_n hx hb dX0_derivativeAt_11 rfl (lv_at hl 2 rfl) ?_
        refine lv_i2l (v := Int32.toInt64 p2) hx hb dX0_derivativeAt_12 rfl ?_
        refine lv_lmul hx hb dX0_derivativeAt_13 ?_
        refine lv_iload hx hb dX0_derivativeAt_14 (lv_at hl 4 rfl) ?_
        refine lv_i2l (v := Int32.toInt64 v1_5) hx hb dX0_derivativeAt_16 rfl ?_
        refine lv_aload_n hx hb dX0_derivativeAt_17 rfl (lv_at hl 0 rfl) ?_
        refine lv_iload_n hx hb dX0_derivativeAt_18 rfl (lv_at hl 1 rfl) ?_
        refine lv_iload hx hb dX0_derivativeAt_19 (lv_at hl 4 rfl) ?_
        obtain ⟨r3, c3, h⟩ := o_b h
        refine mcallV X (As := [.int p1, .int v1_5]) (rest := [.long (Int32.toInt64 v1_5), .long (v1_3 * (Int32.toInt64 p2))]) (ws1 := wX0_derivativeAt g q_o q_o_denominator q_o_numerator q_o_nodes q_o_order q_o_sorted q_o_weights q_o_product o_denominator o_numerator) (st1 := [.long r3, .long (Int32.toInt64 v1_5), .long (v1_3 * (Int32.toInt64 p2))]) (kX0_factor D g x l q_o q_o_denominator q_o_numerator q_o_nodes q_o_order q_o_sorted q_o_weights q_o_product o_denominator o_numerator p1 v1_5 r3 c3) mw_X0_factor ml_X0_102 ⟨Nat.le_of_ble_eq_true rfl, Nat.le_of_ble_eq_true rfl⟩ hP hD hS [0, 1, 2] (by decide +kernel) rfl rfl 0 rfl rfl rfl hl.1 rfl (Nat.le_of_ble_eq_true rfl) dX0_derivativeAt_21 ⟨Nat.le_refl _, Nat.le_refl _⟩ rfl rfl (fun H locs hP hD hS => ?_)
        refine lv_lmul hx hb dX0_derivativeAt_24 ?_
        refine lv_ladd hx hb dX0_derivativeAt_25 ?_
        refine lv_lstore_n (lv' := [(3, .long ((v1_3 * (Int32.toInt64 p2)) + ((Int32.toInt64 v1_5) * r3))), (0, .ref q_o), (1, .int p1), (2, .int p2), (5, .int v1_5)]) hx hb dX0_derivativeAt_26 rfl hl (by decide) rfl (fun ls hl => ?_)
        refine lv_iinc (v := v1_5 + (-1)) (lv' := [(5, .int (v1_5 + (-1))), (3, .long ((v1_3 * (Int32.toInt64 p2)) + ((Int32.toInt64 v1_5) * r3))), (0, .ref q_o), (1, .int p1), (2, .int p2)]) hx hb dX0_derivativeAt_27 hl (k := 4) rfl rfl (by decide) rfl (fun ls hl => ?_)
        refine lv_goto (tgt := 5) hx hb dX0_derivativeAt_30 (by decide) ?_
        exact ih1 ((v1_3 * (Int32.toInt64 p2)) + ((Int32.toInt64 v1_5) * r3)) (v1_5 + (-1)) _ h _ _ hP hD hS _ (lv_sub hl [2, 3, 4, 1, 0] rfl) K1_0
  obtain ⟨r4, c4, h⟩ := o_b h
  refine lp1 FU 0 4 r4 c4 _ _ hP hD hS _ (lv_sub hl [2, 3, 4, 1, 0] rfl) (fun H locs ls hP hD hS hl => ?_)
  refine lv_lload_n hx hb dX0_derivativeAt_33 rfl (lv_at hl 0 rfl) ?_
  cases h
  exact fin _ _ _ _ hP hS dX0_derivativeAt_34
abbrev wX0_kindOf (g : Nat → ClassId) (q_o q_o_denominator q_o_numerator q_o_nodes q_o_order q_o_sorted q_o_weights q_o_product : Nat)  (o_denominator : Nat → Int64) (o_numerator : Nat → Int64) : va_W := [(q_o, .inr (0, [.ref q_o_nodes, .ref q_o_order, .ref q_o_sorted, .ref q_o_weights, .ref q_o_numerator, .ref q_o_denominator, .ref q_o_product])), (q_o_denominator, .inl (g 1, 5, .inr (.inl o_denominator))), (q_o_numerator, .inl (g 1, 5, .inr (.inl o_numerator)))]
set_option maxHeartbeats 4000000 in
set_option maxRecDepth 100000 in
theorem kX0_kindOf (D : va_G) (g : Nat → ClassId) (x : Xd) (l : Launch) (q_o q_o_denominator q_o_numerator q_o_nodes q_o_order q_o_sorted q_o_weights q_o_product : Nat)  (o_denominator : Nat → Int64) (o_numerator : Nat → Int64) (p1 : Int32) (R : Int32) (h : mX0_kindOf o_denominator o_numerator p1 = some R) : Cn D g x l yX0_kindOf cX0_kindOf 2 (some .int) 2 47 [.ref q_o, .int p1] (wX0_kindOf g q_o q_o_denominator q_o_numerator q_o_nodes q_o_order q_o_sorted q_o_weights q_o_product o_denominator o_numerator) (wX0_kindOf g q_o q_o_denominator q_o_numerator q_o_nodes q_o_order q_o_sorted q_o_weights q_o_product o_denominator o_numerator) (some (.int R)) := by
  refine CnI (by decide +kernel) (Nat.le_of_ble_eq_true rfl) (fun p e s m args below meth c A Q ls X hD hP hS fin hl => ?_)
  obtain ⟨hx, hb, hml, -, -, hown, hts, hK, hA, hE⟩ := id X
  unfold mX0_kindOf at h
  have hl : lv_has ls 2 [(0, .ref q_o), (1, .int p1)] := hl
  refine lv_aload_n hx hb dX0_kindOf_0 rfl (lv_at hl 0 rfl) ?_
  refine lv_iconst (v := 1) hx hb dX0_kindOf_1 (by decide) ?_
  refine lv_iload_n hx hb dX0_kindOf_2 rfl (lv_at hl 1 rfl) ?_
  obtain ⟨r1, c1, h⟩ := o_b h
  refine mcallV X (As := [.int 1, .int p1]) (rest := []) (ws1 := wX0_kindOf g q_o q_o_denominator q_o_numerator q_o_nodes q_o_order q_o_sorted q_o_weights q_o_product o_denominator o_numerator) (st1 := [.long r1]) (kX0_at D g x l q_o q_o_denominator q_o_numerator q_o_nodes q_o_order q_o_sorted q_o_weights q_o_product o_denominator o_numerator 1 p1 r1 c1) mw_X0_at ml_X0_106 ⟨Nat.le_of_ble_eq_true rfl, Nat.le_of_ble_eq_true rfl⟩ hP hD hS [0, 1, 2] (by decide +kernel) rfl rfl 0 rfl rfl rfl hl.1 rfl (Nat.le_of_ble_eq_true rfl) dX0_kindOf_3 ⟨Nat.le_refl _, Nat.le_refl _⟩ rfl rfl (fun H locs hP hD hS => ?_)
  refine lv_lconst (v := 0) hx hb dX0_kindOf_6 (by decide) ?_
  refine W.lcmp hx hb dX0_kindOf_7 ?_
  refine lv_if_eq (tgt := 13) hx hb dX0_kindOf_8 (by decide) (fun b2 => ?_) (fun b2 => ?_)
  · have b2 := (lg_cmp_eq _ _).mp b2
    have h := o_t b2 h
    refine lv_aload_n hx hb dX0_kindOf_13 rfl (lv_at hl 0 rfl) ?_
    refine lv_iconst (v := 0) hx hb dX0_kindOf_14 (by decide) ?_
    refine lv_iload_n hx hb dX0_kindOf_15 rfl (lv_at hl 1 rfl) ?_
    obtain ⟨r3, c3, h⟩ := o_b h
    refine mcallV X (As := [.int 0, .int p1]) (rest := []) (ws1 := wX0_kindOf g q_o q_o_denominator q_o_numerator q_o_nodes q_o_order q_o_sorted q_o_weights q_o_product o_denominator o_numerator) (st1 := [.long r3]) (kX0_at D g x l q_o q_o_denominator q_o_numerator q_o_nodes q_o_order q_o_sorted q_o_weights q_o_product o_denominator o_numerator 0 p1 r3 c3) mw_X0_at ml_X0_106 ⟨Nat.le_of_ble_eq_true rfl, Nat.le_of_ble_eq_true rfl⟩ hP hD hS [0, 1, 2] (by decide +kernel) rfl rfl 0 rfl rfl rfl hl.1 rfl (Nat.le_of_ble_eq_true rfl) dX0_kindOf_16 ⟨Nat.le_refl _, Nat.le_refl _⟩ rfl rfl (fun H locs hP hD hS => ?_)
    refine lv_lconst (v := 0) hx hb dX0_kindOf_19 (by decide) ?_
    refine W.lcmp hx hb dX0_kindOf_20 ?_
    refine lv_if_eq (tgt := 26) hx hb dX0_kindOf_21 (by decide) (fun b4 => ?_) (fun b4 => ?_)
    · have b4 := (lg_cmp_eq _ _).mp b4
      have h := o_t b4 h
      refine lv_aload_n hx hb dX0_kindOf_26 rfl (lv_at hl 0 rfl) ?_
      refine lv_iconst (v := 1) hx hb dX0_kindOf_27 (by decide) ?_
      refine lv_iload_n hx hb dX0_kindOf_28 rfl (lv_at hl 1 rfl) ?_
      obtain ⟨r5, c5, h⟩ := o_b h
      refine mcallV X (As := [.int 1, .int p1]) (rest := []) (ws1 := wX0_kindOf g q_o q_o_denominator q_o_numerator q_o_nodes q_o_order q_o_sorted q_o_weights q_o_product o_denominator o_numerator) (st1 := [.long r5]) (kX0_derivativeAt D g x l q_o q_o_denominator q_o_numerator q_o_nodes q_o_order q_o_sorted q_o_weights q_o_product o_denominator o_numerator 1 p1 r5 c5) mw_X0_derivativeAt ml_X0_109 ⟨Nat.le_of_ble_eq_true rfl, Nat.le_of_ble_eq_true rfl⟩ hP hD hS [0, 1, 2] (by decide +kernel) rfl rfl 0 rfl rfl rfl hl.1 rfl (Nat.le_of_ble_eq_true rfl) dX0_kindOf_29 ⟨Nat.le_refl _, Nat.le_refl _⟩ rfl rfl (fun H locs hP hD hS => ?_)
      refine lv_lconst (v := 0) hx hb dX0_kindOf_32 (by decide) ?_
      refine W.lcmp hx hb dX0_kindOf_33 ?_
      refine lv_if_eq (tgt := 41) hx hb dX0_kindOf_34 (by decide) (fun b6 => ?_) (fun b6 => ?_)
      · have b6 := (lg_cmp_eq _ _).mp b6
        have h := o_t b6 h
        refine lv_iconst (v := 3) hx hb dX0_kindOf_41 (by decide) ?_
        cases h
        exact fin _ _ _ _ rfl hP hS dX0_kindOf_42
      · have b6 := mt (lg_cmp_eq _ _).mpr b6
        have h := o_f b6 h
        refine lv_iconst (v := 1) hx hb dX0_kindOf_37 (by decide) ?_
        refine lv_goto (tgt := 42) hx hb dX0_kindOf_38 (by decide) ?_
        cases h
        exact fin _ _ _ _ rfl hP hS dX0_kindOf_42
    · have b4 := mt (lg_cmp_eq _ _).mpr b4
      have h := o_f b4 h
      refine lv_iconst (v := 2) hx hb dX0_kindOf_24 (by decide) ?_
      cases h
      exact fin _ _ _ _ rfl hP hS dX0_kindOf_25
  · have b2 := mt (lg_cmp_eq _ _).mpr b2
    have h := o_f b2 h
    refine lv_iconst (v := 0) hx hb dX0_kindOf_11 (by decide) ?_
    cases h
    exact fin _ _ _ _ rfl hP hS dX0_kindOf_12
abbrev wX0_putValue (g : Nat → ClassId) (q_o q_o_denominator q_o_numerator q_p2 q_o_nodes q_o_order q_o_sorted q_o_weights q_o_product : Nat)  (o_denominator : Nat → Int64) (o_numerator : Nat → Int64) (p2_top : Int64) (p2_bottom : Int64) : va_W := [(q_o, .inr (0, [.ref q_o_nodes, .ref q_o_order, .ref q_o_sorted, .ref q_o_weights, .ref q_o_numerator, .ref q_o_denominator, .ref q_o_product])), (q_o_denominator, .inl (g 1, 5, .inr (.inl o_denominator))), (q_o_numerator, .inl (g 1, 5, .inr (.inl o_numerator))), (q_p2, .inr (1, [.long p2_top, .long p2_bottom]))]
set_option maxHeartbeats 4000000 in
set_option maxRecDepth 100000 in
theorem kX0_putValue (D : va_G) (g : Nat → ClassId) (x : Xd) (l : Launch) (q_o q_o_denominator q_o_numerator q_p2 q_o_nodes q_o_order q_o_sorted q_o_weights q_o_product : Nat)  (o_denominator : Nat → Int64) (o_numerator : Nat → Int64) (p2_top : Int64) (p2_bottom : Int64) (p1 : Int32) (R : Int32 × Int64 × Int64) (h : mX0_putValue o_denominator o_numerator p2_bottom p2_top p1 = some R) : Cn D g x l yX0_putValue cX0_putValue 4 (some .boolean) 3 88 [.ref q_o, .int p1, .ref q_p2] (wX0_putValue g q_o q_o_denominator q_o_numerator q_p2 q_o_nodes q_o_order q_o_sorted q_o_weights q_o_product o_denominator o_numerator p2_top p2_bottom) (wX0_putValue g q_o q_o_denominator q_o_numerator q_p2 q_o_nodes q_o_order q_o_sorted q_o_weights q_o_product o_denominator o_numerator R.2.2 R.2.1) (some (.int R.1)) := by
  refine CnI (by decide +kernel) (Nat.le_of_ble_eq_true rfl) (fun p e s m args below meth c A Q ls X hD hP hS fin hl => ?_)
  obtain ⟨hx, hb, hml, -, -, hown, hts, hK, hA, hE⟩ := id X
  unfold mX0_putValue at h
  have hl : lv_has ls 4 [(0, .ref q_o), (1, .int p1), (2, .ref q_p2)] := hl
  refine lv_aload_n hx hb dX0_putValue_0 rfl (lv_at hl 0 rfl) ?_
  refine lv_iload_n hx hb dX0_putValue_1 rfl (lv_at hl 1 rfl) ?_
  obtain ⟨r1, c1, h⟩ := o_b h
  refine mcallV X (As := [.int p1]) (rest := []) (ws1 := wX0_putValue g q_o q_o_denominator q_o_numerator q_p2 q_o_nodes q_o_order q_o_sorted q_o_weights q_o_product o_denominator o_numerator p2_top p2_bottom) (st1 := [.int r1]) (kX0_kindOf D g x l q_o q_o_denominator q_o_numerator q_o_nodes q_o_order q_o_sorted q_o_weights q_o_product o_denominator o_numerator p1 r1 c1) mw_X0_kindOf ml_X0_112 ⟨Nat.le_of_ble_eq_true rfl, Nat.le_of_ble_eq_true rfl⟩ hP hD hS [0, 1, 2] (by decide +kernel) rfl rfl 0 rfl rfl rfl hl.1 rfl (Nat.le_of_ble_eq_true rfl) dX0_putValue_2 ⟨Nat.le_refl _, Nat.le_refl _⟩ rfl rfl (fun H locs hP hD hS => ?_)
  refine lv_istore_n (lv' := [(3, .int r1), (0, .ref q_o), (1, .int p1), (2, .ref q_p2)]) hx hb dX0_putValue_5 rfl hl (by decide) rfl (fun ls hl => ?_)
  refine lv_iload_n hx hb dX0_putValue_6 rfl (lv_at hl 0 rfl) ?_
  refine lv_if_ne (tgt := 29) hx hb dX0_putValue_7 (by decide) (fun b2 => ?_) (fun b2 => ?_)
  · have h := o_f b2 h
    refine lv_iload_n hx hb dX0_putValue_29 rfl (lv_at hl 0 rfl) ?_
    refine lv_iconst (v := 1) hx hb dX0_putValue_30 (by decide) ?_
    refine lv_icmp_ne (tgt := 50) hx hb dX0_putValue_31 (by decide) (fun b3 => ?_) (fun b3 => ?_)
    · have h := o_f b3 h
      refine lv_iload_n hx hb dX0_putValue_50 rfl (lv_at hl 0 rfl) ?_
      refine lv_if_eq (tgt := 59) hx hb dX0_putValue_51 (by decide) (fun b4 => ?_) (fun b4 => ?_)
      · have h := o_t b4 h
        refine lv_iconst (v := 1) hx hb dX0_putValue_59 (by decide) ?_
        refine lv_goto (tgt := 64) hx hb dX0_putValue_60 (by decide) ?_
        cases h
        exact fin _ _ _ _ (nar_z (Or.inr rfl)) hP hS dX0_putValue_64
      · have h := o_f b4 h
        refine lv_iload_n hx hb dX0_putValue_54 rfl (lv_at hl 0 rfl) ?_
        refine lv_iconst (v := 1) hx hb dX0_putValue_55 (by decide) ?_
        refine lv_icmp_ne (tgt := 63) hx hb dX0_putValue_56 (by decide) (fun b5 => ?_) (fun b5 => ?_)
        · have h := o_f b5 h
          refine lv_iconst (v := 0) hx hb dX0_putValue_63 (by decide) ?_
          cases h
          exact fin _ _ _ _ (nar_z (Or.inl rfl)) hP hS dX0_putValue_64
        · have h := o_t b5 h
          refine lv_iconst (v := 1) hx hb dX0_putValue_59 (by decide) ?_
          refine lv_goto (tgt := 64) hx hb dX0_putValue_60 (by decide) ?_
          cases h
          exact fin _ _ _ _ (nar_z (Or.inr rfl)) hP hS dX0_putValue_64
    · have h := o_t b3 h
      refine lv_aload_n hx hb dX0_putValue_34 rfl (lv_at hl 3 rfl) ?_
      refine lv_aload_n hx hb dX0_putValue_35 rfl (lv_at hl 1 rfl) ?_
      refine lv_iconst (v := 0) hx hb dX0_putValue_36 (by decide) ?_
      refine lv_iload_n hx hb dX0_putValue_37 rfl (lv_at hl 2 rfl) ?_
      obtain ⟨r6, c6, h⟩ := o_b h
      refine mcallV X (As := [.int 0, .int p1]) (rest := [.ref q_p2]) (ws1 := wX0_putValue g q_o q_o_denominator q_o_numerator q_p2 q_o_nodes q_o_order q_o_sorted q_o_weights q_o_product o_denominator o_numerator p2_top p2_bottom) (st1 := [.long r6, .ref q_p2]) (kX0_derivativeAt D g x l q_o q_o_denominator q_o_numerator q_o_nodes q_o_order q_o_sorted q_o_weights q_o_product o_denominator o_numerator 0 p1 r6 c6) mw_X0_derivativeAt ml_X0_109 ⟨Nat.le_of_ble_eq_true rfl, Nat.le_of_ble_eq_true rfl⟩ hP hD hS [0, 1, 2] (by decide +kernel) rfl rfl 0 rfl rfl rfl hl.1 rfl (Nat.le_of_ble_eq_true rfl) dX0_putValue_38 ⟨Nat.le_refl _, Nat.le_refl _⟩ rfl rfl (fun H locs hP hD hS => ?_)
      refine lv_aload_n hx hb dX0_putValue_41 rfl (lv_at hl 1 rfl) ?_
      refine lv_iconst (v := 1) hx hb dX0_putValue_42 (by decide) ?_
      refine lv_iload_n hx hb dX0_putValue_43 rfl (lv_at hl 2 rfl) ?_
      obtain ⟨r7, c7, h⟩ := o_b h
      refine mcallV X (As := [.int 1, .int p1]) (rest := [.long r6, .ref q_p2]) (ws1 := wX0_putValue g q_o q_o_denominator q_o_numerator q_p2 q_o_nodes q_o_order q_o_sorted q_o_weights q_o_product o_denominator o_numerator p2_top p2_bottom) (st1 := [.long r7, .long r6, .ref q_p2]) (kX0_derivativeAt D g x l q_o q_o_denominator q_o_numerator q_o_nodes q_o_order q_o_sorted q_o_weights q_o_product o_denominator o_numerator 1 p1 r7 c7) mw_X0_derivativeAt ml_X0_109 ⟨Nat.le_of_ble_eq_true rfl, Nat.le_of_ble_eq_true rfl⟩ hP hD hS [0, 1, 2] (by decide +kernel) rfl rfl 0 rfl rfl rfl hl.1 rfl (Nat.le_of_ble_eq_true rfl) dX0_putValue_44 ⟨Nat.le_refl _, Nat.le_refl _⟩ rfl rfl (fun H locs hP hD hS => ?_)
      obtain ⟨r8, c8, h⟩ := o_b h
      refine mcallV X (As := [.long r6, .long r7]) (rest := []) (ws1 := wX0_putValue g q_o q_o_denominator q_o_numerator q_p2 q_o_nodes q_o_order q_o_sorted q_o_weights q_o_product o_denominator o_numerator r8.2 r8.1) (st1 := []) (kX1_put D g x l q_p2 p2_top p2_bottom r6 r7 r8 c8) mw_X1_put ml_X0_115 ⟨Nat.le_of_ble_eq_true rfl, Nat.le_of_ble_eq_true rfl⟩ hP hD hS [3] (by decide +kernel) rfl rfl 3 rfl rfl rfl hl.1 rfl (Nat.le_of_ble_eq_true rfl) dX0_putValue_47 ⟨Nat.le_refl _, Nat.le_refl _⟩ rfl rfl (fun H locs hP hD hS => ?_)
      refine lv_iload_n hx hb dX0_putValue_50 rfl (lv_at hl 0 rfl) ?_
      refine lv_if_eq (tgt := 59) hx hb dX0_putValue_51 (by decide) (fun b9 => ?_) (fun b9 => ?_)
      · have h := o_t b9 h
        refine lv_iconst (v := 1) hx hb dX0_putValue_59 (by decide) ?_
        refine lv_goto (tgt := 64) hx hb dX0_putValue_60 (by decide) ?_
        cases h
        exact fin _ _ _ _ (nar_z (Or.inr rfl)) hP hS dX0_putValue_64
      · have h := o_f b9 h
        refine lv_iload_n hx hb dX0_putValue_54 rfl (lv_at hl 0 rfl) ?_
        refine lv_iconst (v := 1) hx hb dX0_putValue_55 (by decide) ?_
        refine lv_icmp_ne (tgt := 63) hx hb dX0_putValue_56 (by decide) (fun b10 => ?_) (fun b10 => ?_)
        · have h := o_f b10 h
          refine lv_iconst (v := 0) hx hb dX0_putValue_63 (by decide) ?_
          cases h
          exact fin _ _ _ _ (nar_z (Or.inl rfl)) hP hS dX0_putValue_64
        · have h := o_t b10 h
          refine lv_iconst (v := 1) hx hb dX0_putValue_59 (by decide) ?_
          refine lv_goto (tgt := 64) hx hb dX0_putValue_60 (by decide) ?_
          cases h
          exact fin _ _ _ _ (nar_z (Or.inr rfl)) hP hS dX0_putValue_64
  · have h := o_t b2 h
    refine lv_aload_n hx hb dX0_putValue_10 rfl (lv_at hl 3 rfl) ?_
    refine lv_aload_n hx hb dX0_putValue_11 rfl (lv_at hl 1 rfl) ?_
    refine lv_iconst (v := 0) hx hb dX0_putValue_12 (by decide) ?_
    refine lv_iload_n hx hb dX0_putValue_13 rfl (lv_at hl 2 rfl) ?_
    obtain ⟨r11, c11, h⟩ := o_b h
    refine mcallV X (As := [.int 0, .int p1]) (rest := [.ref q_p2]) (ws1 := wX0_putValue g q_o q_o_denominator q_o_numerator q_p2 q_o_nodes q_o_order q_o_sorted q_o_weights q_o_product o_denominator o_numerator p2_top p2_bottom) (st1 := [.long r11, .ref q_p2]) (kX0_at D g x l q_o q_o_denominator q_o_numerator q_o_nodes q_o_order q_o_sorted q_o_weights q_o_product o_denominator o_numerator 0 p1 r11 c11) mw_X0_at ml_X0_106 ⟨Nat.le_of_ble_eq_true rfl, Nat.le_of_ble_eq_true rfl⟩ hP hD hS [0, 1, 2] (by decide +kernel) rfl rfl 0 rfl rfl rfl hl.1 rfl (Nat.le_of_ble_eq_true rfl) dX0_putValue_14 ⟨Nat.le_refl _, Nat.le_refl _⟩ rfl rfl (fun H locs hP hD hS => ?_)
    refine lv_aload_n hx hb dX0_putValue_17 rfl (lv_at hl 1 rfl) ?_
    refine lv_iconst (v := 1) hx hb dX0_putValue_18 (by decide) ?_
    refine lv_iload_n hx hb dX0_putValue_19 rfl (lv_at hl 2 rfl) ?_
    obtain ⟨r12, c12, h⟩ := o_b h
    refine mcallV X (As := [.int 1, .int p1]) (rest := [.long r11, .ref q_p2]) (ws1 := wX0_putValue g q_o q_o_denominator q_o_numerator q_p2 q_o_nodes q_o_order q_o_sorted q_o_weights q_o_product o_denominator o_numerator p2_top p2_bottom) (st1 := [.long r12, .long r11, .ref q_p2]) (kX0_at D g x l q_o q_o_denominator q_o_numerator q_o_nodes q_o_order q_o_sorted q_o_weights q_o_product o_denominator o_numerator 1 p1 r12 c12) mw_X0_at ml_X0_106 ⟨Nat.le_of_ble_eq_true rfl, Nat.le_of_ble_eq_true rfl⟩ hP hD hS [0, 1, 2] (by decide +kernel) rfl rfl 0 rfl rfl rfl hl.1 rfl (Nat.le_of_ble_eq_true rfl) dX0_putValue_20 ⟨Nat.le_refl _, Nat.le_refl _⟩ rfl rfl (fun H locs hP hD hS => ?_)
    obtain ⟨r13, c13, h⟩ := o_b h
    refine mcallV X (As := [.long r11, .long r12]) (rest := []) (ws1 := wX0_putValue g q_o q_o_denominator q_o_numerator q_p2 q_o_nodes q_o_order q_o_sorted q_o_weights q_o_product o_denominator o_numerator r13.2 r13.1) (st1 := []) (kX1_put D g x l q_p2 p2_top p2_bottom r11 r12 r13 c13) mw_X1_put ml_X0_115 ⟨Nat.le_of_ble_eq_true rfl, Nat.le_of_ble_eq_true rfl⟩ hP hD hS [3] (by decide +kernel) rfl rfl 3 rfl rfl rfl hl.1 rfl (Nat.le_of_ble_eq_true rfl) dX0_putValue_23 ⟨Nat.le_refl _, Nat.le_refl _⟩ rfl rfl (fun H locs hP hD hS => ?_)
    refine lv_goto (tgt := 50) hx hb dX0_putValue_26 (by decide) ?_
    refine lv_iload_n hx hb dX0_putValue_50 rfl (lv_at hl 0 rfl) ?_
    refine lv_if_eq (tgt := 59) hx hb dX0_putValue_51 (by decide) (fun b14 => ?_) (fun b14 => ?_)
    · have h := o_t b14 h
      refine lv_iconst (v := 1) hx hb dX0_putValue_59 (by decide) ?_
      refine lv_goto (tgt := 64) hx hb dX0_putValue_60 (by decide) ?_
      cases h
      exact fin _ _ _ _ (nar_z (Or.inr rfl)) hP hS dX0_putValue_64
    · have h := o_f b14 h
      refine lv_iload_n hx hb dX0_putValue_54 rfl (lv_at hl 0 rfl) ?_
      refine lv_iconst (v := 1) hx hb dX0_putValue_55 (by decide) ?_
      refine lv_icmp_ne (tgt := 63) hx hb dX0_putValue_56 (by decide) (fun b15 => ?_) (fun b15 => ?_)
      · have h := o_f b15 h
        refine lv_iconst (v := 0) hx hb dX0_putValue_63 (by decide) ?_
        cases h
        exact fin _ _ _ _ (nar_z (Or.inl rfl)) hP hS dX0_putValue_64
      · have h := o_t b15 h
        refine lv_iconst (v := 1) hx hb dX0_putValue_59 (by decide) ?_
        refine lv_goto (tgt := 64) hx hb dX0_putValue_60 (by decide) ?_
        cases h
        exact fin _ _ _ _ (nar_z (Or.inr rfl)) hP hS dX0_putValue_64
abbrev wX0_hidesPoleBehind (g : Nat → ClassId) (q_o q_o_denominator q_o_numerator q_o_nodes q_o_order q_o_sorted q_o_weights q_o_product : Nat)  (o_denominator : Nat → Int64) (o_numerator : Nat → Int64) : va_W := [(q_o, .inr (0, [.ref q_o_nodes, .ref q_o_order, .ref q_o_sorted, .ref q_o_weights, .ref q_o_numerator, .ref q_o_denominator, .ref q_o_product])), (q_o_denominator, .inl (g 1, 5, .inr (.inl o_denominator))), (q_o_numerator, .inl (g 1, 5, .inr (.inl o_numerator)))]
set_option maxHeartbeats 4000000 in
set_option maxRecDepth 100000 in
theorem kX0_hidesPoleBehind (D : va_G) (g : Nat → ClassId) (x : Xd) (l : Launch) (q_o q_o_denominator q_o_numerator q_o_nodes q_o_order q_o_sorted q_o_weights q_o_product : Nat)  (o_denominator : Nat → Int64) (o_numerator : Nat → Int64) (p1 : Int32) (R : Int32) (h : mX0_hidesPoleBehind o_denominator o_numerator p1 = some R) : Cn D g x l yX0_hidesPoleBehind cX0_hidesPoleBehind 6 (some .boolean) 2 47 [.ref q_o, .int p1] (wX0_hidesPoleBehind g q_o q_o_denominator q_o_numerator q_o_nodes q_o_order q_o_sorted q_o_weights q_o_product o_denominator o_numerator) (wX0_hidesPoleBehind g q_o q_o_denominator q_o_numerator q_o_nodes q_o_order q_o_sorted q_o_weights q_o_product o_denominator o_numerator) (some (.int R)) := by
  refine CnI (by decide +kernel) (Nat.le_of_ble_eq_true rfl) (fun p e s m args below meth c A Q ls X hD hP hS fin hl => ?_)
  obtain ⟨hx, hb, hml, -, -, hown, hts, hK, hA, hE⟩ := id X
  unfold mX0_hidesPoleBehind at h
  have hl : lv_has ls 6 [(0, .ref q_o), (1, .int p1)] := hl
  refine lv_aload_n hx hb dX0_hidesPoleBehind_0 rfl (lv_at hl 0 rfl) ?_
  refine lv_iconst (v := 1) hx hb dX0_hidesPoleBehind_1 (by decide) ?_
  refine lv_iload_n hx hb dX0_hidesPoleBehind_2 rfl (lv_at hl 1 rfl) ?_
  obtain ⟨r1, c1, h⟩ := o_b h
  refine mcallV X (As := [.int 1, .int p1]) (rest := []) (ws1 := wX0_hidesPoleBehind g q_o q_o_denominator q_o_numerator q_o_nodes q_o_order q_o_sorted q_o_weights q_o_product o_denominator o_numerator) (st1 := [.long r1]) (kX0_at D g x l q_o q_o_denominator q_o_numerator q_o_nodes q_o_order q_o_sorted q_o_weights q_o_product o_denominator o_numerator 1 p1 r1 c1) mw_X0_at ml_X0_106 ⟨Nat.le_of_ble_eq_true rfl, Nat.le_of_ble_eq_true rfl⟩ hP hD hS [0, 1, 2] (by decide +kernel) rfl rfl 0 rfl rfl rfl hl.1 rfl (Nat.le_of_ble_eq_true rfl) dX0_hidesPoleBehind_3 ⟨Nat.le_refl _, Nat.le_refl _⟩ rfl rfl (fun H locs hP hD hS => ?_)
  refine lv_lstore_n (lv' := [(2, .long r1), (0, .ref q_o), (1, .int p1)]) hx hb dX0_hidesPoleBehind_6 rfl hl (by decide) rfl (fun ls hl => ?_)
  refine lv_aload_n hx hb dX0_hidesPoleBehind_7 rfl (lv_at hl 1 rfl) ?_
  refine lv_iconst (v := 1) hx hb dX0_hidesPoleBehind_8 (by decide) ?_
  refine lv_iload_n hx hb dX0_hidesPoleBehind_9 rfl (lv_at hl 2 rfl) ?_
  refine lv_iconst (v := 1) hx hb dX0_hidesPoleBehind_10 (by decide) ?_
  refine lv_iadd hx hb dX0_hidesPoleBehind_11 ?_
  obtain ⟨r2, c2, h⟩ := o_b h
  refine mcallV X (As := [.int 1, .int (p1 + 1)]) (rest := []) (ws1 := wX0_hidesPoleBehind g q_o q_o_denominator q_o_numerator q_o_nodes q_o_order q_o_sorted q_o_weights q_o_product o_denominator o_numerator) (st1 := [.long r2]) (kX0_at D g x l q_o q_o_denominator q_o_numerator q_o_nodes q_o_order q_o_sorted q_o_weights q_o_product o_denominator o_numerator 1 (p1 + 1) r2 c2) mw_X0_at ml_X0_106 ⟨Nat.le_of_ble_eq_true rfl, Nat.le_of_ble_eq_true rfl⟩ hP hD hS [0, 1, 2] (by decide +kernel) rfl rfl 0 rfl rfl rfl hl.1 rfl (Nat.le_of_ble_eq_true rfl) dX0_hidesPoleBehind_12 ⟨Nat.le_refl _, Nat.le_refl _⟩ rfl rfl (fun H locs hP hD hS => ?_)
  refine lv_lstore (lv' := [(4, .long r2), (2, .long r1), (0, .ref q_o), (1, .int p1)]) hx hb dX0_hidesPoleBehind_15 hl (by decide) rfl (fun ls hl => ?_)
  refine lv_lload_n hx hb dX0_hidesPoleBehind_17 rfl (lv_at hl 1 rfl) ?_
  refine lv_lconst (v := 0) hx hb dX0_hidesPoleBehind_18 (by decide) ?_
  refine W.lcmp hx hb dX0_hidesPoleBehind_19 ?_
  refine lv_if_eq (tgt := 60) hx hb dX0_hidesPoleBehind_20 (by decide) (fun b3 => ?_) (fun b3 => ?_)
  · have b3 := (lg_cmp_eq _ _).mp b3
    have h := o_t b3 h
    refine lv_iconst (v := 0) hx hb dX0_hidesPoleBehind_60 (by decide) ?_
    cases h
    exact fin _ _ _ _ (nar_z (Or.inl rfl)) hP hS dX0_hidesPoleBehind_61
  · have b3 := mt (lg_cmp_eq _ _).mpr b3
    have h := o_f b3 h
    refine lv_lload hx hb dX0_hidesPoleBehind_23 (lv_at hl 0 rfl) ?_
    refine lv_lconst (v := 0) hx hb dX0_hidesPoleBehind_25 (by decide) ?_
    refine W.lcmp hx hb dX0_hidesPoleBehind_26 ?_
    refine lv_if_eq (tgt := 60) hx hb dX0_hidesPoleBehind_27 (by decide) (fun b4 => ?_) (fun b4 => ?_)
    · have b4 := (lg_cmp_eq _ _).mp b4
      have h := o_t b4 h
      refine lv_iconst (v := 0) hx hb dX0_hidesPoleBehind_60 (by decide) ?_
      cases h
      exact fin _ _ _ _ (nar_z (Or.inl rfl)) hP hS dX0_hidesPoleBehind_61
    · have b4 := mt (lg_cmp_eq _ _).mpr b4
      have h := o_f b4 h
      refine lv_lload_n hx hb dX0_hidesPoleBehind_30 rfl (lv_at hl 1 rfl) ?_
      refine lv_lconst (v := 0) hx hb dX0_hidesPoleBehind_31 (by decide) ?_
      refine W.lcmp hx hb dX0_hidesPoleBehind_32 ?_
      refine lv_if_le (tgt := 40) hx hb dX0_hidesPoleBehind_33 (by decide) (fun b5 => ?_) (fun b5 => ?_)
      · have b5 := (lg_cmp_le _ _).mp b5
        have h := o_t b5 h
        refine lv_iconst (v := 0) hx hb dX0_hidesPoleBehind_40 (by decide) ?_
        refine lv_lload hx hb dX0_hidesPoleBehind_41 (lv_at hl 0 rfl) ?_
        refine lv_lconst (v := 0) hx hb dX0_hidesPoleBehind_43 (by decide) ?_
        refine W.lcmp hx hb dX0_hidesPoleBehind_44 ?_
        refine lv_if_le (tgt := 52) hx hb dX0_hidesPoleBehind_45 (by decide) (fun b6 => ?_) (fun b6 => ?_)
        · have b6 := (lg_cmp_le _ _).mp b6
          have h := o_t b6 h
          refine lv_iconst (v := 0) hx hb dX0_hidesPoleBehind_52 (by decide) ?_
          refine lv_icmp_eq (tgt := 60) hx hb dX0_hidesPoleBehind_53 (by decide) (fun b7 => ?_) (fun b7 => ?_)
          · have h := o_t b7 h
            refine lv_iconst (v := 0) hx hb dX0_hidesPoleBehind_60 (by decide) ?_
            cases h
            exact fin _ _ _ _ (nar_z (Or.inl rfl)) hP hS dX0_hidesPoleBehind_61
          · have h := o_f b7 h
            refine lv_iconst (v := 1) hx hb dX0_hidesPoleBehind_56 (by decide) ?_
            refine lv_goto (tgt := 61) hx hb dX0_hidesPoleBehind_57 (by decide) ?_
            cases h
            exact fin _ _ _ _ (nar_z (Or.inr rfl)) hP hS dX0_hidesPoleBehind_61
        · have b6 := mt (lg_cmp_le _ _).mpr b6
          have h := o_f b6 h
          refine lv_iconst (v := 1) hx hb dX0_hidesPoleBehind_48 (by decide) ?_
          refine lv_goto (tgt := 53) hx hb dX0_hidesPoleBehind_49 (by decide) ?_
          refine lv_icmp_eq (tgt := 60) hx hb dX0_hidesPoleBehind_53 (by decide) (fun b8 => ?_) (fun b8 => ?_)
          · have h := o_t b8 h
            refine lv_iconst (v := 0) hx hb dX0_hidesPoleBehind_60 (by decide) ?_
            cases h
            exact fin _ _ _ _ (nar_z (Or.inl rfl)) hP hS dX0_hidesPoleBehind_61
          · have h := o_f b8 h
            refine lv_iconst (v := 1) hx hb dX0_hidesPoleBehind_56 (by decide) ?_
            refine lv_goto (tgt := 61) hx hb dX0_hidesPoleBehind_57 (by decide) ?_
            cases h
            exact fin _ _ _ _ (nar_z (Or.inr rfl)) hP hS dX0_hidesPoleBehind_61
      · have b5 := mt (lg_cmp_le _ _).mpr b5
        have h := o_f b5 h
        refine lv_iconst (v := 1) hx hb dX0_hidesPoleBehind_36 (by decide) ?_
        refine lv_goto (tgt := 41) hx hb dX0_hidesPoleBehind_37 (by decide) ?_
        refine lv_lload hx hb dX0_hidesPoleBehind_41 (lv_at hl 0 rfl) ?_
        refine lv_lconst (v := 0) hx hb dX0_hidesPoleBehind_43 (by decide) ?_
        refine W.lcmp hx hb dX0_hidesPoleBehind_44 ?_
        refine lv_if_le (tgt := 52) hx hb dX0_hidesPoleBehind_45 (by decide) (fun b9 => ?_) (fun b9 => ?_)
        · have b9 := (lg_cmp_le _ _).mp b9
          have h := o_t b9 h
          refine lv_iconst (v := 0) hx hb dX0_hidesPoleBehind_52 (by decide) ?_
          refine lv_icmp_eq (tgt := 60) hx hb dX0_hidesPoleBehind_53 (by decide) (fun b10 => ?_) (fun b10 => ?_)
          · have h := o_t b10 h
            refine lv_iconst (v := 0) hx hb dX0_hidesPoleBehind_60 (by decide) ?_
            cases h
            exact fin _ _ _ _ (nar_z (Or.inl rfl)) hP hS dX0_hidesPoleBehind_61
          · have h := o_f b10 h
            refine lv_iconst (v := 1) hx hb dX0_hidesPoleBehind_56 (by decide) ?_
            refine lv_goto (tgt := 61) hx hb dX0_hidesPoleBehind_57 (by decide) ?_
            cases h
            exact fin _ _ _ _ (nar_z (Or.inr rfl)) hP hS dX0_hidesPoleBehind_61
        · have b9 := mt (lg_cmp_le _ _).mpr b9
          have h := o_f b9 h
          refine lv_iconst (v := 1) hx hb dX0_hidesPoleBehind_48 (by decide) ?_
          refine lv_goto (tgt := 53) hx hb dX0_hidesPoleBehind_49 (by decide) ?_
          refine lv_icmp_eq (tgt := 60) hx hb dX0_hidesPoleBehind_53 (by decide) (fun b11 => ?_) (fun b11 => ?_)
          · have h := o_t b11 h
            refine lv_iconst (v := 0) hx hb dX0_hidesPoleBehind_60 (by decide) ?_
            cases h
            exact fin _ _ _ _ (nar_z (Or.inl rfl)) hP hS dX0_hidesPoleBehind_61
          · have h := o_f b11 h
            refine lv_iconst (v := 1) hx hb dX0_hidesPoleBehind_56 (by decide) ?_
            refine lv_goto (tgt := 61) hx hb dX0_hidesPoleBehind_57 (by decide) ?_
            cases h
            exact fin _ _ _ _ (nar_z (Or.inr rfl)) hP hS dX0_hidesPoleBehind_61
abbrev wX2_clear (g : Nat → ClassId) (q_o q_o_kept : Nat)  (o_count : Int32) : va_W := [(q_o, .inr (2, [.ref q_o_kept, .int o_count]))]
set_option maxHeartbeats 4000000 in
set_option maxRecDepth 100000 in
theorem kX2_clear (D : va_G) (g : Nat → ClassId) (x : Xd) (l : Launch) (q_o q_o_kept : Nat)  (o_count : Int32) (R : Int32) (h : mX2_clear o_count = some R) : Cn D g x l yX2_clear cX2_clear 1 none 0 0 [.ref q_o] (wX2_clear g q_o q_o_kept o_count) (wX2_clear g q_o q_o_kept R) none := by
  refine CnV (by decide +kernel) (Nat.le_of_ble_eq_true rfl) (fun p e s m args below meth c A Q ls X hD hP hS fin hl => ?_)
  obtain ⟨hx, hb, hml, -, -, hown, hts, hK, hA, hE⟩ := id X
  unfold mX2_clear at h
  have hl : lv_has ls 1 [(0, .ref q_o)] := hl
  refine lv_aload_n hx hb dX2_clear_0 rfl (lv_at hl 0 rfl) ?_
  refine lv_iconst (v := 0) hx hb dX2_clear_1 (by decide) ?_
  refine mputI X fl_X2_17 (ws1 := wX2_clear g q_o q_o_kept 0) hP hD hS 0 rfl rfl ⟨_, rfl, rfl⟩ dX2_clear_2 rfl (fun H locs hP hD hS => ?_)
  cases h
  exact fin _ _ _ _ hP hS dX2_clear_5
abbrev wX2_remember (g : Nat → ClassId) (q_o q_o_kept q_p1 q_p1_ws q_p1_xs q_p1_ys : Nat) (q_o_kept_E q_o_kept_E_ws q_o_kept_E_xs q_o_kept_E_ys : Nat → Nat) (o_count : Int32) (o_kept_E_count : Nat → Int32) (o_kept_E_mode : Nat → Int32) (o_kept_E_degree : Nat → Int32) (o_kept_E_ws : Nat → Nat → Int32) (o_kept_E_xs : Nat → Nat → Int32) (o_kept_E_ys : Nat → Nat → Int32) (p1_count : Int32) (p1_mode : Int32) (p1_degree : Int32) (p1_ws : Nat → Int32) (p1_xs : Nat → Int32) (p1_ys : Nat → Int32) : va_W := [(q_o, .inr (2, [.ref q_o_kept, .int o_count])), (q_o_kept, .inl (g 4, 10, .inr (.inr (.inr (.inr (fun k => some (q_o_kept_E k))))))), ((q_o_kept_E 0), .inr (3, [.ref (q_o_kept_E_xs 0), .ref (q_o_kept_E_ys 0), .ref (q_o_kept_E_ws 0), .int (o_kept_E_count 0), .int (o_kept_E_mode 0), .int (o_kept_E_degree 0)])), ((q_o_kept_E_ws 0), .inl (g 0, 5, .inl (o_kept_E_ws 0))), ((q_o_kept_E_xs 0), .inl (g 0, 5, .inl (o_kept_E_xs 0))), ((q_o_kept_E_ys 0), .inl (g 0, 5, .inl (o_kept_E_ys 0))), ((q_o_kept_E 1), .inr (3, [.ref (q_o_kept_E_xs 1), .ref (q_o_kept_E_ys 1), .ref (q_o_kept_E_ws 1), .int (o_kept_E_count 1), .int (o_kept_E_mode 1), .int (o_kept_E_degree 1)])), ((q_o_kept_E_ws 1), .inl (g 0, 5, .inl (o_kept_E_ws 1))), ((q_o_kept_E_xs 1), .inl (g 0, 5, .inl (o_kept_E_xs 1))), ((q_o_kept_E_ys 1), .inl (g 0, 5, .inl (o_kept_E_ys 1))), ((q_o_kept_E 2), .inr (3, [.ref (q_o_kept_E_xs 2), .ref (q_o_kept_E_ys 2), .ref (q_o_kept_E_ws 2), .int (o_kept_E_count 2), .int (o_kept_E_mode 2), .int (o_kept_E_degree 2)])), ((q_o_kept_E_ws 2), .inl (g 0, 5, .inl (o_kept_E_ws 2))), ((q_o_kept_E_xs 2), .inl (g 0, 5, .inl (o_kept_E_xs 2))), ((q_o_kept_E_ys 2), .inl (g 0, 5, .inl (o_kept_E_ys 2))), ((q_o_kept_E 3), .inr (3, [.ref (q_o_kept_E_xs 3), .ref (q_o_kept_E_ys 3), .ref (q_o_kept_E_ws 3), .int (o_kept_E_count 3), .int (o_kept_E_mode 3), .int (o_kept_E_degree 3)])), ((q_o_kept_E_ws 3), .inl (g 0, 5, .inl (o_kept_E_ws 3))), ((q_o_kept_E_xs 3), .inl (g 0, 5, .inl (o_kept_E_xs 3))), ((q_o_kept_E_ys 3), .inl (g 0, 5, .inl (o_kept_E_ys 3))), ((q_o_kept_E 4), .inr (3, [.ref (q_o_kept_E_xs 4), .ref (q_o_kept_E_ys 4), .ref (q_o_kept_E_ws 4), .int (o_kept_E_count 4), .int (o_kept_E_mode 4), .int (o_kept_E_degree 4)])), ((q_o_kept_E_ws 4), .inl (g 0, 5, .inl (o_kept_E_ws 4))), ((q_o_kept_E_xs 4), .inl (g 0, 5, .inl (o_kept_E_xs 4))), ((q_o_kept_E_ys 4), .inl (g 0, 5, .inl (o_kept_E_ys 4))), ((q_o_kept_E 5), .inr (3, [.ref (q_o_kept_E_xs 5), .ref (q_o_kept_E_ys 5), .ref (q_o_kept_E_ws 5), .int (o_kept_E_count 5), .int (o_kept_E_mode 5), .int (o_kept_E_degree 5)])), ((q_o_kept_E_ws 5), .inl (g 0, 5, .inl (o_kept_E_ws 5))), ((q_o_kept_E_xs 5), .inl (g 0, 5, .inl (o_kept_E_xs 5))), ((q_o_kept_E_ys 5), .inl (g 0, 5, .inl (o_kept_E_ys 5))), ((q_o_kept_E 6), .inr (3, [.ref (q_o_kept_E_xs 6), .ref (q_o_kept_E_ys 6), .ref (q_o_kept_E_ws 6), .int (o_kept_E_count 6), .int (o_kept_E_mode 6), .int (o_kept_E_degree 6)])), ((q_o_kept_E_ws 6), .inl (g 0, 5, .inl (o_kept_E_ws 6))), ((q_o_kept_E_xs 6), .inl (g 0, 5, .inl (o_kept_E_xs 6))), ((q_o_kept_E_ys 6), .inl (g 0, 5, .inl (o_kept_E_ys 6))), ((q_o_kept_E 7), .inr (3, [.ref (q_o_kept_E_xs 7), .ref (q_o_kept_E_ys 7), .ref (q_o_kept_E_ws 7), .int (o_kept_E_count 7), .int (o_kept_E_mode 7), .int (o_kept_E_degree 7)])), ((q_o_kept_E_ws 7), .inl (g 0, 5, .inl (o_kept_E_ws 7))), ((q_o_kept_E_xs 7), .inl (g 0, 5, .inl (o_kept_E_xs 7))), ((q_o_kept_E_ys 7), .inl (g 0, 5, .inl (o_kept_E_ys 7))), ((q_o_kept_E 8), .inr (3, [.ref (q_o_kept_E_xs 8), .ref (q_o_kept_E_ys 8), .ref (q_o_kept_E_ws 8), .int (o_kept_E_count 8), .int (o_kept_E_mode 8), .int (o_kept_E_degree 8)])), ((q_o_kept_E_ws 8), .inl (g 0, 5, .inl (o_kept_E_ws 8))), ((q_o_kept_E_xs 8), .inl (g 0, 5, .inl (o_kept_E_xs 8))), ((q_o_kept_E_ys 8), .inl (g 0, 5, .inl (o_kept_E_ys 8))), ((q_o_kept_E 9), .inr (3, [.ref (q_o_kept_E_xs 9), .ref (q_o_kept_E_ys 9), .ref (q_o_kept_E_ws 9), .int (o_kept_E_count 9), .int (o_kept_E_mode 9), .int (o_kept_E_degree 9)])), ((q_o_kept_E_ws 9), .inl (g 0, 5, .inl (o_kept_E_ws 9))), ((q_o_kept_E_xs 9), .inl (g 0, 5, .inl (o_kept_E_xs 9))), ((q_o_kept_E_ys 9), .inl (g 0, 5, .inl (o_kept_E_ys 9))), (q_p1, .inr (3, [.ref q_p1_xs, .ref q_p1_ys, .ref q_p1_ws, .int p1_count, .int p1_mode, .int p1_degree])), (q_p1_ws, .inl (g 0, 5, .inl p1_ws)), (q_p1_xs, .inl (g 0, 5, .inl p1_xs)), (q_p1_ys, .inl (g 0, 5, .inl p1_ys))]
set_option maxHeartbeats 4000000 in
set_option maxRecDepth 100000 in
theorem kX2_remember (D : va_G) (g : Nat → ClassId) (x : Xd) (l : Launch) (q_o q_o_kept q_p1 q_p1_ws q_p1_xs q_p1_ys : Nat) (q_o_kept_E q_o_kept_E_ws q_o_kept_E_xs q_o_kept_E_ys : Nat → Nat) (o_count : Int32) (o_kept_E_count : Nat → Int32) (o_kept_E_mode : Nat → Int32) (o_kept_E_degree : Nat → Int32) (o_kept_E_ws : Nat → Nat → Int32) (o_kept_E_xs : Nat → Nat → Int32) (o_kept_E_ys : Nat → Nat → Int32) (p1_count : Int32) (p1_mode : Int32) (p1_degree : Int32) (p1_ws : Nat → Int32) (p1_xs : Nat → Int32) (p1_ys : Nat → Int32) (R : Int32 × (Nat → Int32) × (Nat → Int32) × (Nat → Int32) × (Nat → Nat → Int32) × (Nat → Nat → Int32) × (Nat → Nat → Int32)) (h : mX2_remember o_count o_kept_E_count o_kept_E_degree o_kept_E_mode o_kept_E_ws o_kept_E_xs o_kept_E_ys p1_count p1_degree p1_mode p1_ws p1_xs p1_ys = some R) : Cn D g x l yX2_remember cX2_remember 3 none 1 22 [.ref q_o, .ref q_p1] (wX2_remember g q_o q_o_kept q_p1 q_p1_ws q_p1_xs q_p1_ys q_o_kept_E q_o_kept_E_ws q_o_kept_E_xs q_o_kept_E_ys o_count o_kept_E_count o_kept_E_mode o_kept_E_degree o_kept_E_ws o_kept_E_xs o_kept_E_ys p1_count p1_mode p1_degree p1_ws p1_xs p1_ys) (wX2_remember g q_o q_o_kept q_p1 q_p1_ws q_p1_xs q_p1_ys q_o_kept_E q_o_kept_E_ws q_o_kept_E_xs q_o_kept_E_ys R.1 R.2.1 R.2.2.2.1 R.2.2.1 R.2.2.2.2.1 R.2.2.2.2.2.1 R.2.2.2.2.2.2 p1_count p1_mode p1_degree p1_ws p1_xs p1_ys) none := by
  refine CnV (by decide +kernel) (Nat.le_of_ble_eq_true rfl) (fun p e s m args below meth c A Q ls X hD hP hS fin hl => ?_)
  obtain ⟨hx, hb, hml, -, -, hown, hts, hK, hA, hE⟩ := id X
  unfold mX2_remember at h
  have hl : lv_has ls 3 [(0, .ref q_o), (1, .ref q_p1)] := hl
  refine lv_aload_n hx hb dX2_remember_0 rfl (lv_at hl 0 rfl) ?_
  refine mget X fl_X2_17 hP 0 rfl rfl dX2_remember_1 ?_
  refine lv_bipush (v := 10) hx hb dX2_remember_4 (by decide) ?_
  refine lv_icmp_lt (tgt := 46) hx hb dX2_remember_6 (by decide) (fun b1 => ?_) (fun b1 => ?_)
  · have h := o_t b1 h
    refine lv_aload_n hx hb dX2_remember_46 rfl (lv_at hl 0 rfl) ?_
    refine mget X fl_X2_11 hP 0 rfl rfl dX2_remember_47 ?_
    refine lv_aload_n hx hb dX2_remember_50 rfl (lv_at hl 0 rfl) ?_
    refine mget X fl_X2_17 hP 0 rfl rfl dX2_remember_51 ?_
    by_cases b2 : o_count = 0
    · have h := o_t b2 h
      refine maldq X hP 1 rfl 0 (by decide) b2 dX2_remember_54 ?_
      refine lv_aload_n hx hb dX2_remember_55 rfl (lv_at hl 1 rfl) ?_
      obtain ⟨r3, c3, h⟩ := o_b h
      refine mcallV X (As := [.ref q_p1]) (rest := []) (ws1 := wX2_remember g q_o q_o_kept q_p1 q_p1_ws q_p1_xs q_p1_ys q_o_kept_E q_o_kept_E_ws q_o_kept_E_xs q_o_kept_E_ys o_count (setN o_kept_E_count 0 r3.1) (setN o_kept_E_mode 0 r3.2.2.1) (setN o_kept_E_degree 0 r3.2.1) (setN o_kept_E_ws 0 r3.2.2.2.1) (setN o_kept_E_xs 0 r3.2.2.2.2.1) (setN o_kept_E_ys 0 r3.2.2.2.2.2) p1_count p1_mode p1_degree p1_ws p1_xs p1_ys) (st1 := []) (kX3_copyFrom D g x l (q_o_kept_E 0) (q_o_kept_E_ws 0) (q_o_kept_E_xs 0) (q_o_kept_E_ys 0) q_p1 q_p1_ws q_p1_xs q_p1_ys (o_kept_E_count 0) (o_kept_E_mode 0) (o_kept_E_degree 0) (o_kept_E_ws 0) (o_kept_E_xs 0) (o_kept_E_ys 0) p1_count p1_mode p1_degree p1_ws p1_xs p1_ys  r3 c3) mw_X3_copyFrom ml_X2_22 ⟨Nat.le_of_ble_eq_true rfl, Nat.le_of_ble_eq_true rfl⟩ hP hD hS [2, 3, 4, 5, 42, 43, 44, 45] (by decide +kernel) rfl rfl 2 rfl rfl rfl hl.1 rfl (Nat.le_of_ble_eq_true rfl) dX2_remember_56 ⟨Nat.le_refl _, Nat.le_refl _⟩ rfl rfl (fun H locs hP hD hS => ?_)
      refine lv_aload_n hx hb dX2_remember_59 rfl (lv_at hl 0 rfl) ?_
      refine lv_dup hx hb dX2_remember_60 rfl ?_
      refine mget X fl_X2_17 hP 0 rfl rfl dX2_remember_61 ?_
      refine lv_iconst (v := 1) hx hb dX2_remember_64 (by decide) ?_
      refine lv_iadd hx hb dX2_remember_65 ?_
      refine mputI X fl_X2_17 (ws1 := wX2_remember g q_o q_o_kept q_p1 q_p1_ws q_p1_xs q_p1_ys q_o_kept_E q_o_kept_E_ws q_o_kept_E_xs q_o_kept_E_ys (o_count + 1) (setN o_kept_E_count 0 r3.1) (setN o_kept_E_mode 0 r3.2.2.1) (setN o_kept_E_degree 0 r3.2.1) (setN o_kept_E_ws 0 r3.2.2.2.1) (setN o_kept_E_xs 0 r3.2.2.2.2.1) (setN o_kept_E_ys 0 r3.2.2.2.2.2) p1_count p1_mode p1_degree p1_ws p1_xs p1_ys) hP hD hS 0 rfl rfl ⟨_, rfl, rfl⟩ dX2_remember_66 rfl (fun H locs hP hD hS => ?_)
      cases h
      exact fin _ _ _ _ hP hS dX2_remember_69
    · have h := o_f b2 h
      by_cases b4 : o_count = 1
      · have h := o_t b4 h
        refine maldq X hP 1 rfl 1 (by decide) b4 dX2_remember_54 ?_
        refine lv_aload_n hx hb dX2_remember_55 rfl (lv_at hl 1 rfl) ?_
        obtain ⟨r5, c5, h⟩ := o_b h
        refine mcallV X (As := [.ref q_p1]) (rest := []) (ws1 := wX2_remember g q_o q_o_kept q_p1 q_p1_ws q_p1_xs q_p1_ys q_o_kept_E q_o_kept_E_ws q_o_kept_E_xs q_o_kept_E_ys o_count (setN o_kept_E_count 1 r5.1) (setN o_kept_E_mode 1 r5.2.2.1) (setN o_kept_E_degree 1 r5.2.1) (setN o_kept_E_ws 1 r5.2.2.2.1) (setN o_kept_E_xs 1 r5.2.2.2.2.1) (setN o_kept_E_ys 1 r5.2.2.2.2.2) p1_count p1_mode p1_degree p1_ws p1_xs p1_ys) (st1 := []) (kX3_copyFrom D g x l (q_o_kept_E 1) (q_o_kept_E_ws 1) (q_o_kept_E_xs 1) (q_o_kept_E_ys 1) q_p1 q_p1_ws q_p1_xs q_p1_ys (o_kept_E_count 1) (o_kept_E_mode 1) (o_kept_E_degree 1) (o_kept_E_ws 1) (o_kept_E_xs 1) (o_kept_E_ys 1) p1_count p1_mode p1_degree p1_ws p1_xs p1_ys  r5 c5) mw_X3_copyFrom ml_X2_22 ⟨Nat.le_of_ble_eq_true rfl, Nat.le_of_ble_eq_true rfl⟩ hP hD hS [6, 7, 8, 9, 42, 43, 44, 45] (by decide +kernel) rfl rfl 6 rfl rfl rfl hl.1 rfl (Nat.le_of_ble_eq_true rfl) dX2_remember_56 ⟨Nat.le_refl _, Nat.le_refl _⟩ rfl rfl (fun H locs hP hD hS => ?_)
        refine lv_aload_n hx hb dX2_remember_59 rfl (lv_at hl 0 rfl) ?_
        refine lv_dup hx hb dX2_remember_60 rfl ?_
        refine mget X fl_X2_17 hP 0 rfl rfl dX2_remember_61 ?_
        refine lv_iconst (v := 1) hx hb dX2_remember_64 (by decide) ?_
        refine lv_iadd hx hb dX2_remember_65 ?_
        refine mputI X fl_X2_17 (ws1 := wX2_remember g q_o q_o_kept q_p1 q_p1_ws q_p1_xs q_p1_ys q_o_kept_E q_o_kept_E_ws q_o_kept_E_xs q_o_kept_E_ys (o_count + 1) (setN o_kept_E_count 1 r5.1) (setN o_kept_E_mode 1 r5.2.2.1) (setN o_kept_E_degree 1 r5.2.1) (setN o_kept_E_ws 1 r5.2.2.2.1) (setN o_kept_E_xs 1 r5.2.2.2.2.1) (setN o_kept_E_ys 1 r5.2.2.2.2.2) p1_count p1_mode p1_degree p1_ws p1_xs p1_ys) hP hD hS 0 rfl rfl ⟨_, rfl, rfl⟩ dX2_remember_66 rfl (fun H locs hP hD hS => ?_)
        cases h
        exact fin _ _ _ _ hP hS dX2_remember_69
      · have h := o_f b4 h
        by_cases b6 : o_count = 2
        · have h := o_t b6 h
          refine maldq X hP 1 rfl 2 (by decide) b6 dX2_remember_54 ?_
          refine lv_aload_n hx hb dX2_remember_55 rfl (lv_at hl 1 rfl) ?_
          obtain ⟨r7, c7, h⟩ := o_b h
          refine mcallV X (As := [.ref q_p1]) (rest := []) (ws1 := wX2_remember g q_o q_o_kept q_p1 q_p1_ws q_p1_xs q_p1_ys q_o_kept_E q_o_kept_E_ws q_o_kept_E_xs q_o_kept_E_ys o_count (setN o_kept_E_count 2 r7.1) (setN o_kept_E_mode 2 r7.2.2.1) (setN o_kept_E_degree 2 r7.2.1) (setN o_kept_E_ws 2 r7.2.2.2.1) (setN o_kept_E_xs 2 r7.2.2.2.2.1) (setN o_kept_E_ys 2 r7.2.2.2.2.2) p1_count p1_mode p1_degree p1_ws p1_xs p1_ys) (st1 := []) (kX3_copyFrom D g x l (q_o_kept_E 2) (q_o_kept_E_ws 2) (q_o_kept_E_xs 2) (q_o_kept_E_ys 2) q_p1 q_p1_ws q_p1_xs q_p1_ys (o_kept_E_count 2) (o_kept_E_mode 2) (o_kept_E_degree 2) (o_kept_E_ws 2) (o_kept_E_xs 2) (o_kept_E_ys 2) p1_count p1_mode p1_degree p1_ws p1_xs p1_ys  r7 c7) mw_X3_copyFrom ml_X2_22 ⟨Nat.le_of_ble_eq_true rfl, Nat.le_of_ble_eq_true rfl⟩ hP hD hS [10, 11, 12, 13, 42, 43, 44, 45] (by decide +kernel) rfl rfl 10 rfl rfl rfl hl.1 rfl (Nat.le_of_ble_eq_true rfl) dX2_remember_56 ⟨Nat.le_refl _, Nat.le_refl _⟩ rfl rfl (fun H locs hP hD hS => ?_)
          refine lv_aload_n hx hb dX2_remember_59 rfl (lv_at hl 0 rfl) ?_
          refine lv_dup hx hb dX2_remember_60 rfl ?_
          refine mget X fl_X2_17 hP 0 rfl rfl dX2_remember_61 ?_
          refine lv_iconst (v := 1) hx hb dX2_remember_64 (by decide) ?_
          refine lv_iadd hx hb dX2_remember_65 ?_
          refine mputI X fl_X2_17 (ws1 := wX2_remember g q_o q_o_kept q_p1 q_p1_ws q_p1_xs q_p1_ys q_o_kept_E q_o_kept_E_ws q_o_kept_E_xs q_o_kept_E_ys (o_count + 1) (setN o_kept_E_count 2 r7.1) (setN o_kept_E_mode 2 r7.2.2.1) (setN o_kept_E_degree 2 r7.2.1) (setN o_kept_E_ws 2 r7.2.2.2.1) (setN o_kept_E_xs 2 r7.2.2.2.2.1) (setN o_kept_E_ys 2 r7.2.2.2.2.2) p1_count p1_mode p1_degree p1_ws p1_xs p1_ys) hP hD hS 0 rfl rfl ⟨_, rfl, rfl⟩ dX2_remember_66 rfl (fun H locs hP hD hS => ?_)
          cases h
          exact fin _ _ _ _ hP hS dX2_remember_69
        · have h := o_f b6 h
          by_cases b8 : o_count = 3
          · have h := o_t b8 h
            refine maldq X hP 1 rfl 3 (by decide) b8 dX2_remember_54 ?_
            refine lv_aload_n hx hb dX2_remember_55 rfl (lv_at hl 1 rfl) ?_
            obtain ⟨r9, c9, h⟩ := o_b h
            refine mcallV X (As := [.ref q_p1]) (rest := []) (ws1 := wX2_remember g q_o q_o_kept q_p1 q_p1_ws q_p1_xs q_p1_ys q_o_kept_E q_o_kept_E_ws q_o_kept_E_xs q_o_kept_E_ys o_count (setN o_kept_E_count 3 r9.1) (setN o_kept_E_mode 3 r9.2.2.1) (setN o_kept_E_degree 3 r9.2.1) (setN o_kept_E_ws 3 r9.2.2.2.1) (setN o_kept_E_xs 3 r9.2.2.2.2.1) (setN o_kept_E_ys 3 r9.2.2.2.2.2) p1_count p1_mode p1_degree p1_ws p1_xs p1_ys) (st1 := []) (kX3_copyFrom D g x l (q_o_kept_E 3) (q_o_kept_E_ws 3) (q_o_kept_E_xs 3) (q_o_kept_E_ys 3) q_p1 q_p1_ws q_p1_xs q_p1_ys (o_kept_E_count 3) (o_kept_E_mode 3) (o_kept_E_degree 3) (o_kept_E_ws 3) (o_kept_E_xs 3) (o_kept_E_ys 3) p1_count p1_mode p1_degree p1_ws p1_xs p1_ys  r9 c9) mw_X3_copyFrom ml_X2_22 ⟨Nat.le_of_ble_eq_true rfl, Nat.le_of_ble_eq_true rfl⟩ hP hD hS [14, 15, 16, 17, 42, 43, 44, 45] (by decide +kernel) rfl rfl 14 rfl rfl rfl hl.1 rfl (Nat.le_of_ble_eq_true rfl) dX2_remember_56 ⟨Nat.le_refl _, Nat.le_refl _⟩ rfl rfl (fun H locs hP hD hS => ?_)
            refine lv_aload_n hx hb dX2_remember_59 rfl (lv_at hl 0 rfl) ?_
            refine lv_dup hx hb dX2_remember_60 rfl ?_
            refine mget X fl_X2_17 hP 0 rfl rfl dX2_remember_61 ?_
            refine lv_iconst (v := 1) hx hb dX2_remember_64 (by decide) ?_
            refine lv_iadd hx hb dX2_remember_65 ?_
            refine mputI X fl_X2_17 (ws1 := wX2_remember g q_o q_o_kept q_p1 q_p1_ws q_p1_xs q_p1_ys q_o_kept_E q_o_kept_E_ws q_o_kept_E_xs q_o_kept_E_ys (o_count + 1) (setN o_kept_E_count 3 r9.1) (setN o_kept_E_mode 3 r9.2.2.1) (setN o_kept_E_degree 3 r9.2.1) (setN o_kept_E_ws 3 r9.2.2.2.1) (setN o_kept_E_xs 3 r9.2.2.2.2.1) (setN o_kept_E_ys 3 r9.2.2.2.2.2) p1_count p1_mode p1_degree p1_ws p1_xs p1_ys) hP hD hS 0 rfl rfl ⟨_, rfl, rfl⟩ dX2_remember_66 rfl (fun H locs hP hD hS => ?_)
            cases h
            exact fin _ _ _ _ hP hS dX2_remember_69
          · have h := o_f b8 h
            by_cases b10 : o_count = 4
            · have h := o_t b10 h
              refine maldq X hP 1 rfl 4 (by decide) b10 dX2_remember_54 ?_
              refine lv_aload_n hx hb dX2_remember_55 rfl (lv_at hl 1 rfl) ?_
              obtain ⟨r11, c11, h⟩ := o_b h
              refine mcallV X (As := [.ref q_p1]) (rest := []) (ws1 := wX2_remember g q_o q_o_kept q_p1 q_p1_ws q_p1_xs q_p1_ys q_o_kept_E q_o_kept_E_ws q_o_kept_E_xs q_o_kept_E_ys o_count (setN o_kept_E_count 4 r11.1) (setN o_kept_E_mode 4 r11.2.2.1) (setN o_kept_E_degree 4 r11.2.1) (setN o_kept_E_ws 4 r11.2.2.2.1) (setN o_kept_E_xs 4 r11.2.2.2.2.1) (setN o_kept_E_ys 4 r11.2.2.2.2.2) p1_count p1_mode p1_degree p1_ws p1_xs p1_ys) (st1 := []) (kX3_copyFrom D g x l (q_o_kept_E 4) (q_o_kept_E_ws 4) (q_o_kept_E_xs 4) (q_o_kept_E_ys 4) q_p1 q_p1_ws q_p1_xs q_p1_ys (o_kept_E_count 4) (o_kept_E_mode 4) (o_kept_E_degree 4) (o_kept_E_ws 4) (o_kept_E_xs 4) (o_kept_E_ys 4) p1_count p1_mode p1_degree p1_ws p1_xs p1_ys  r11 c11) mw_X3_copyFrom ml_X2_22 ⟨Nat.le_of_ble_eq_true rfl, Nat.le_of_ble_eq_true rfl⟩ hP hD hS [18, 19, 20, 21, 42, 43, 44, 45] (by decide +kernel) rfl rfl 18 rfl rfl rfl hl.1 rfl (Nat.le_of_ble_eq_true rfl) dX2_remember_56 ⟨Nat.le_refl _, Nat.le_refl _⟩ rfl rfl (fun H locs hP hD hS => ?_)
              refine lv_aload_n hx hb dX2_remember_59 rfl (lv_at hl 0 rfl) ?_
              refine lv_dup hx hb dX2_remember_60 rfl ?_
              refine mget X fl_X2_17 hP 0 rfl rfl dX2_remember_61 ?_
              refine lv_iconst (v := 1) hx hb dX2_remember_64 (by decide) ?_
              refine lv_iadd hx hb dX2_remember_65 ?_
              refine mputI X fl_X2_17 (ws1 := wX2_remember g q_o q_o_kept q_p1 q_p1_ws q_p1_xs q_p1_ys q_o_kept_E q_o_kept_E_ws q_o_kept_E_xs q_o_kept_E_ys (o_count + 1) (setN o_kept_E_count 4 r11.1) (setN o_kept_E_mode 4 r11.2.2.1) (setN o_kept_E_degree 4 r11.2.1) (setN o_kept_E_ws 4 r11.2.2.2.1) (setN o_kept_E_xs 4 r11.2.2.2.2.1) (setN o_kept_E_ys 4 r11.2.2.2.2.2) p1_count p1_mode p1_degree p1_ws p1_xs p1_ys) hP hD hS 0 rfl rfl ⟨_, rfl, rfl⟩ dX2_remember_66 rfl (fun H locs hP hD hS => ?_)
              cases h
              exact fin _ _ _ _ hP hS dX2_remember_69
            · have h := o_f b10 h
              by_cases b12 : o_count = 5
              · have h := o_t b12 h
                refine maldq X hP 1 rfl 5 (by decide) b12 dX2_remember_54 ?_
                refine lv_aload_n hx hb dX2_remember_55 rfl (lv_at hl 1 rfl) ?_
                obtain ⟨r13, c13, h⟩ := o_b h
                refine mcallV X (As := [.ref q_p1]) (rest := []) (ws1 := wX2_remember g q_o q_o_kept q_p1 q_p1_ws q_p1_xs q_p1_ys q_o_kept_E q_o_kept_E_ws q_o_kept_E_xs q_o_kept_E_ys o_count (setN o_kept_E_count 5 r13.1) (setN o_kept_E_mode 5 r13.2.2.1) (setN o_kept_E_degree 5 r13.2.1) (setN o_kept_E_ws 5 r13.2.2.2.1) (setN o_kept_E_xs 5 r13.2.2.2.2.1) (setN o_kept_E_ys 5 r13.2.2.2.2.2) p1_count p1_mode p1_degree p1_ws p1_xs p1_ys) (st1 := []) (kX3_copyFrom D g x l (q_o_kept_E 5) (q_o_kept_E_ws 5) (q_o_kept_E_xs 5) (q_o_kept_E_ys 5) q_p1 q_p1_ws q_p1_xs q_p1_ys (o_kept_E_count 5) (o_kept_E_mode 5) (o_kept_E_degree 5) (o_kept_E_ws 5) (o_kept_E_xs 5) (o_kept_E_ys 5) p1_count p1_mode p1_degree p1_ws p1_xs p1_ys  r13 c13) mw_X3_copyFrom ml_X2_22 ⟨Nat.le_of_ble_eq_true rfl, Nat.le_of_ble_eq_true rfl⟩ hP hD hS [22, 23, 24, 25, 42, 43, 44, 45] (by decide +kernel) rfl rfl 22 rfl rfl rfl hl.1 rfl (Nat.le_of_ble_eq_true rfl) dX2_remember_56 ⟨Nat.le_refl _, Nat.le_refl _⟩ rfl rfl (fun H locs hP hD hS => ?_)
                refine lv_aload_n hx hb dX2_remember_59 rfl (lv_at hl 0 rfl) ?_
                refine lv_dup hx hb dX2_remember_60 rfl ?_
                refine mget X fl_X2_17 hP 0 rfl rfl dX2_remember_61 ?_
                refine lv_iconst (v := 1) hx hb dX2_remember_64 (by decide) ?_
                refine lv_iadd hx hb dX2_remember_65 ?_
                refine mputI X fl_X2_17 (ws1 := wX2_remember g q_o q_o_kept q_p1 q_p1_ws q_p1_xs q_p1_ys q_o_kept_E q_o_kept_E_ws q_o_kept_E_xs q_o_kept_E_ys (o_count + 1) (setN o_kept_E_count 5 r13.1) (setN o_kept_E_mode 5 r13.2.2.1) (setN o_kept_E_degree 5 r13.2.1) (setN o_kept_E_ws 5 r13.2.2.2.1) (setN o_kept_E_xs 5 r13.2.2.2.2.1) (setN o_kept_E_ys 5 r13.2.2.2.2.2) p1_count p1_mode p1_degree p1_ws p1_xs p1_ys) hP hD hS 0 rfl rfl ⟨_, rfl, rfl⟩ dX2_remember_66 rfl (fun H locs hP hD hS => ?_)
                cases h
                exact fin _ _ _ _ hP hS dX2_remember_69
              · have h := o_f b12 h
                by_cases b14 : o_count = 6
                · have h := o_t b14 h
                  refine maldq X hP 1 rfl 6 (by decide) b14 dX2_remember_54 ?_
                  refine lv_aload_n hx hb dX2_remember_55 rfl (lv_at hl 1 rfl) ?_
                  obtain ⟨r15, c15, h⟩ := o_b h
                  refine mcallV X (As := [.ref q_p1]) (rest := []) (ws1 := wX2_remember g q_o q_o_kept q_p1 q_p1_ws q_p1_xs q_p1_ys q_o_kept_E q_o_kept_E_ws q_o_kept_E_xs q_o_kept_E_ys o_count (setN o_kept_E_count 6 r15.1) (setN o_kept_E_mode 6 r15.2.2.1) (setN o_kept_E_degree 6 r15.2.1) (setN o_kept_E_ws 6 r15.2.2.2.1) (setN o_kept_E_xs 6 r15.2.2.2.2.1) (setN o_kept_E_ys 6 r15.2.2.2.2.2) p1_count p1_mode p1_degree p1_ws p1_xs p1_ys) (st1 := []) (kX3_copyFrom D g x l (q_o_kept_E 6) (q_o_kept_E_ws 6) (q_o_kept_E_xs 6) (q_o_kept_E_ys 6) q_p1 q_p1_ws q_p1_xs q_p1_ys (o_kept_E_count 6) (o_kept_E_mode 6) (o_kept_E_degree 6) (o_kept_E_ws 6) (o_kept_E_xs 6) (o_kept_E_ys 6) p1_count p1_mode p1_degree p1_ws p1_xs p1_ys  r15 c15) mw_X3_copyFrom ml_X2_22 ⟨Nat.le_of_ble_eq_true rfl, Nat.le_of_ble_eq_true rfl⟩ hP hD hS [26, 27, 28, 29, 42, 43, 44, 45] (by decide +kernel) rfl rfl 26 rfl rfl rfl hl.1 rfl (Nat.le_of_ble_eq_true rfl) dX2_remember_56 ⟨Nat.le_refl _, Nat.le_refl _⟩ rfl rfl (fun H locs hP hD hS => ?_)
                  refine lv_aload_n hx hb dX2_remember_59 rfl (lv_at hl 0 rfl) ?_
                  refine lv_dup hx hb dX2_remember_60 rfl ?_
                  refine mget X fl_X2_17 hP 0 rfl rfl dX2_remember_61 ?_
                  refine lv_iconst (v := 1) hx hb dX2_remember_64 (by decide) ?_
                  refine lv_iadd hx hb dX2_remember_65 ?_
                  refine mputI X fl_X2_17 (ws1 := wX2_remember g q_o q_o_kept q_p1 q_p1_ws q_p1_xs q_p1_ys q_o_kept_E q_o_kept_E_ws q_o_kept_E_xs q_o_kept_E_ys (o_count + 1) (setN o_kept_E_count 6 r15.1) (setN o_kept_E_mode 6 r15.2.2.1) (setN o_kept_E_degree 6 r15.2.1) (setN o_kept_E_ws 6 r15.2.2.2.1) (setN o_kept_E_xs 6 r15.2.2.2.2.1) (setN o_kept_E_ys 6 r15.2.2.2.2.2) p1_count p1_mode p1_degree p1_ws p1_xs p1_ys) hP hD hS 0 rfl rfl ⟨_, rfl, rfl⟩ dX2_remember_66 rfl (fun H locs hP hD hS => ?_)
                  cases h
                  exact fin _ _ _ _ hP hS dX2_remember_69
                · have h := o_f b14 h
                  by_cases b16 : o_count = 7
                  · have h := o_t b16 h
                    refine maldq X hP 1 rfl 7 (by decide) b16 dX2_remember_54 ?_
                    refine lv_aload_n hx hb dX2_remember_55 rfl (lv_at hl 1 rfl) ?_
                    obtain ⟨r17, c17, h⟩ := o_b h
                    refine mcallV X (As := [.ref q_p1]) (rest := []) (ws1 := wX2_remember g q_o q_o_kept q_p1 q_p1_ws q_p1_xs q_p1_ys q_o_kept_E q_o_kept_E_ws q_o_kept_E_xs q_o_kept_E_ys o_count (setN o_kept_E_count 7 r17.1) (setN o_kept_E_mode 7 r17.2.2.1) (setN o_kept_E_degree 7 r17.2.1) (setN o_kept_E_ws 7 r17.2.2.2.1) (setN o_kept_E_xs 7 r17.2.2.2.2.1) (setN o_kept_E_ys 7 r17.2.2.2.2.2) p1_count p1_mode p1_degree p1_ws p1_xs p1_ys) (st1 := []) (kX3_copyFrom D g x l (q_o_kept_E 7) (q_o_kept_E_ws 7) (q_o_kept_E_xs 7) (q_o_kept_E_ys 7) q_p1 q_p1_ws q_p1_xs q_p1_ys (o_kept_E_count 7) (o_kept_E_mode 7) (o_kept_E_degree 7) (o_kept_E_ws 7) (o_kept_E_xs 7) (o_kept_E_ys 7) p1_count p1_mode p1_degree p1_ws p1_xs p1_ys  r17 c17) mw_X3_copyFrom ml_X2_22 ⟨Nat.le_of_ble_eq_true rfl, Nat.le_of_ble_eq_true rfl⟩ hP hD hS [30, 31, 32, 33, 42, 43, 44, 45] (by decide +kernel) rfl rfl 30 rfl rfl rfl hl.1 rfl (Nat.le_of_ble_eq_true rfl) dX2_remember_56 ⟨Nat.le_refl _, Nat.le_refl _⟩ rfl rfl (fun H locs hP hD hS => ?_)
                    refine lv_aload_n hx hb dX2_remember_59 rfl (lv_at hl 0 rfl) ?_
                    refine lv_dup hx hb dX2_remember_60 rfl ?_
                    refine mget X fl_X2_17 hP 0 rfl rfl dX2_remember_61 ?_
                    refine lv_iconst (v := 1) hx hb dX2_remember_64 (by decide) ?_
                    refine lv_iadd hx hb dX2_remember_65 ?_
                    refine mputI X fl_X2_17 (ws1 := wX2_remember g q_o q_o_kept q_p1 q_p1_ws q_p1_xs q_p1_ys q_o_kept_E q_o_kept_E_ws q_o_kept_E_xs q_o_kept_E_ys (o_count + 1) (setN o_kept_E_count 7 r17.1) (setN o_kept_E_mode 7 r17.2.2.1) (setN o_kept_E_degree 7 r17.2.1) (setN o_kept_E_ws 7 r17.2.2.2.1) (setN o_kept_E_xs 7 r17.2.2.2.2.1) (setN o_kept_E_ys 7 r17.2.2.2.2.2) p1_count p1_mode p1_degree p1_ws p1_xs p1_ys) hP hD hS 0 rfl rfl ⟨_, rfl, rfl⟩ dX2_remember_66 rfl (fun H locs hP hD hS => ?_)
                    cases h
                    exact fin _ _ _ _ hP hS dX2_remember_69
                  · have h := o_f b16 h
                    by_cases b18 : o_count = 8
                    · have h := o_t b18 h
                      refine maldq X hP 1 rfl 8 (by decide) b18 dX2_remember_54 ?_
                      refine lv_aload_n hx hb dX2_remember_55 rfl (lv_at hl 1 rfl) ?_
                      obtain ⟨r19, c19, h⟩ := o_b h
                      refine mcallV X (As := [.ref q_p1]) (rest := []) (ws1 := wX2_remember g q_o q_o_kept q_p1 q_p1_ws q_p1_xs q_p1_ys q_o_kept_E q_o_kept_E_ws q_o_kept_E_xs q_o_kept_E_ys o_count (setN o_kept_E_count 8 r19.1) (setN o_kept_E_mode 8 r19.2.2.1) (setN o_kept_E_degree 8 r19.2.1) (setN o_kept_E_ws 8 r19.2.2.2.1) (setN o_kept_E_xs 8 r19.2.2.2.2.1) (setN o_kept_E_ys 8 r19.2.2.2.2.2) p1_count p1_mode p1_degree p1_ws p1_xs p1_ys) (st1 := []) (kX3_copyFrom D g x l (q_o_kept_E 8) (q_o_kept_E_ws 8) (q_o_kept_E_xs 8) (q_o_kept_E_ys 8) q_p1 q_p1_ws q_p1_xs q_p1_ys (o_kept_E_count 8) (o_kept_E_mode 8) (o_kept_E_degree 8) (o_kept_E_ws 8) (o_kept_E_xs 8) (o_kept_E_ys 8) p1_count p1_mode p1_degree p1_ws p1_xs p1_ys  r19 c19) mw_X3_copyFrom ml_X2_22 ⟨Nat.le_of_ble_eq_true rfl, Nat.le_of_ble_eq_true rfl⟩ hP hD hS [34, 35, 36, 37, 42, 43, 44, 45] (by decide +kernel) rfl rfl 34 rfl rfl rfl hl.1 rfl (Nat.le_of_ble_eq_true rfl) dX2_remember_56 ⟨Nat.le_refl _, Nat.le_refl _⟩ rfl rfl (fun H locs hP hD hS => ?_)
                      refine lv_aload_n hx hb dX2_remember_59 rfl (lv_at hl 0 rfl) ?_
                      refine lv_dup hx hb dX2_remember_60 rfl ?_
                      refine mget X fl_X2_17 hP 0 rfl rfl dX2_remember_61 ?_
                      refine lv_iconst (v := 1) hx hb dX2_remember_64 (by decide) ?_
                      refine lv_iadd hx hb dX2_remember_65 ?_
                      refine mputI X fl_X2_17 (ws1 := wX2_remember g q_o q_o_kept q_p1 q_p1_ws q_p1_xs q_p1_ys q_o_kept_E q_o_kept_E_ws q_o_kept_E_xs q_o_kept_E_ys (o_count + 1) (setN o_kept_E_count 8 r19.1) (setN o_kept_E_mode 8 r19.2.2.1) (setN o_kept_E_degree 8 r19.2.1) (setN o_kept_E_ws 8 r19.2.2.2.1) (setN o_kept_E_xs 8 r19.2.2.2.2.1) (setN o_kept_E_ys 8 r19.2.2.2.2.2) p1_count p1_mode p1_degree p1_ws p1_xs p1_ys) hP hD hS 0 rfl rfl ⟨_, rfl, rfl⟩ dX2_remember_66 rfl (fun H locs hP hD hS => ?_)
                      cases h
                      exact fin _ _ _ _ hP hS dX2_remember_69
                    · have h := o_f b18 h
                      by_cases b20 : o_count = 9
                      · have h := o_t b20 h
                        refine maldq X hP 1 rfl 9 (by decide) b20 dX2_remember_54 ?_
                        refine lv_aload_n hx hb dX2_remember_55 rfl (lv_at hl 1 rfl) ?_
                        obtain ⟨r21, c21, h⟩ := o_b h
                        refine mcallV X (As := [.ref q_p1]) (rest := []) (ws1 := wX2_remember g q_o q_o_kept q_p1 q_p1_ws q_p1_xs q_p1_ys q_o_kept_E q_o_kept_E_ws q_o_kept_E_xs q_o_kept_E_ys o_count (setN o_kept_E_count 9 r21.1) (setN o_kept_E_mode 9 r21.2.2.1) (setN o_kept_E_degree 9 r21.2.1) (setN o_kept_E_ws 9 r21.2.2.2.1) (setN o_kept_E_xs 9 r21.2.2.2.2.1) (setN o_kept_E_ys 9 r21.2.2.2.2.2) p1_count p1_mode p1_degree p1_ws p1_xs p1_ys) (st1 := []) (kX3_copyFrom D g x l (q_o_kept_E 9) (q_o_kept_E_ws 9) (q_o_kept_E_xs 9) (q_o_kept_E_ys 9) q_p1 q_p1_ws q_p1_xs q_p1_ys (o_kept_E_count 9) (o_kept_E_mode 9) (o_kept_E_degree 9) (o_kept_E_ws 9) (o_kept_E_xs 9) (o_kept_E_ys 9) p1_count p1_mode p1_degree p1_ws p1_xs p1_ys  r21 c21) mw_X3_copyFrom ml_X2_22 ⟨Nat.le_of_ble_eq_true rfl, Nat.le_of_ble_eq_true rfl⟩ hP hD hS [38, 39, 40, 41, 42, 43, 44, 45] (by decide +kernel) rfl rfl 38 rfl rfl rfl hl.1 rfl (Nat.le_of_ble_eq_true rfl) dX2_remember_56 ⟨Nat.le_refl _, Nat.le_refl _⟩ rfl rfl (fun H locs hP hD hS => ?_)
                        refine lv_aload_n hx hb dX2_remember_59 rfl (lv_at hl 0 rfl) ?_
                        refine lv_dup hx hb dX2_remember_60 rfl ?_
                        refine mget X fl_X2_17 hP 0 rfl rfl dX2_remember_61 ?_
                        refine lv_iconst (v := 1) hx hb dX2_remember_64 (by decide) ?_
                        refine lv_iadd hx hb dX2_remember_65 ?_
                        refine mputI X fl_X2_17 (ws1 := wX2_remember g q_o q_o_kept q_p1 q_p1_ws q_p1_xs q_p1_ys q_o_kept_E q_o_kept_E_ws q_o_kept_E_xs q_o_kept_E_ys (o_count + 1) (setN o_kept_E_count 9 r21.1) (setN o_kept_E_mode 9 r21.2.2.1) (setN o_kept_E_degree 9 r21.2.1) (setN o_kept_E_ws 9 r21.2.2.2.1) (setN o_kept_E_xs 9 r21.2.2.2.2.1) (setN o_kept_E_ys 9 r21.2.2.2.2.2) p1_count p1_mode p1_degree p1_ws p1_xs p1_ys) hP hD hS 0 rfl rfl ⟨_, rfl, rfl⟩ dX2_remember_66 rfl (fun H locs hP hD hS => ?_)
                        cases h
                        exact fin _ _ _ _ hP hS dX2_remember_69
                      · have h := o_f b20 h
                        cases h
  · have h := o_f b1 h
    refine lv_iconst (v := 1) hx hb dX2_remember_9 (by decide) ?_
    refine lv_istore_n (lv' := [(2, .int 1), (0, .ref q_o), (1, .ref q_p1)]) hx hb dX2_remember_10 rfl hl (by decide) rfl (fun ls hl => ?_)
    refine lv_iload_n hx hb dX2_remember_11 rfl (lv_at hl 0 rfl) ?_
    refine lv_bipush (v := 10) hx hb dX2_remember_12 (by decide) ?_
    refine lv_icmp_ge (tgt := 40) hx hb dX2_remember_14 (by decide) (fun b => absurd b (by decide)) (fun _ => ?_)
    refine lv_aload_n hx hb dX2_remember_17 rfl (lv_at hl 1 rfl) ?_
    refine mget X fl_X2_11 hP 0 rfl rfl dX2_remember_18 ?_
    refine lv_iload_n hx hb dX2_remember_21 rfl (lv_at hl 0 rfl) ?_
    refine lv_iconst (v := 1) hx hb dX2_remember_22 (by decide) ?_
    refine lv_isub hx hb dX2_remember_23 ?_
    refine maldq X hP 1 rfl 0 (by decide) (by decide) dX2_remember_24 ?_
    refine lv_aload_n hx hb dX2_remember_25 rfl (lv_at hl 1 rfl) ?_
    refine mget X fl_X2_11 hP 0 rfl rfl dX2_remember_26 ?_
    refine lv_iload_n hx hb dX2_remember_29 rfl (lv_at hl 0 rfl) ?_
    refine maldq X hP 1 rfl 1 (by decide) (by decide) dX2_remember_30 ?_
    obtain ⟨r23, c23, h⟩ := o_b h
    refine mcallV X (As := [.ref (q_o_kept_E 1)]) (rest := []) (ws1 := wX2_remember g q_o q_o_kept q_p1 q_p1_ws q_p1_xs q_p1_ys q_o_kept_E q_o_kept_E_ws q_o_kept_E_xs q_o_kept_E_ys o_count (setN o_kept_E_count 0 r23.1) (setN o_kept_E_mode 0 r23.2.2.1) (setN o_kept_E_degree 0 r23.2.1) (setN o_kept_E_ws 0 r23.2.2.2.1) (setN o_kept_E_xs 0 r23.2.2.2.2.1) (setN o_kept_E_ys 0 r23.2.2.2.2.2) p1_count p1_mode p1_degree p1_ws p1_xs p1_ys) (st1 := []) (kX3_copyFrom D g x l (q_o_kept_E 0) (q_o_kept_E_ws 0) (q_o_kept_E_xs 0) (q_o_kept_E_ys 0) (q_o_kept_E 1) (q_o_kept_E_ws 1) (q_o_kept_E_xs 1) (q_o_kept_E_ys 1) (o_kept_E_count 0) (o_kept_E_mode 0) (o_kept_E_degree 0) (o_kept_E_ws 0) (o_kept_E_xs 0) (o_kept_E_ys 0) (o_kept_E_count 1) (o_kept_E_mode 1) (o_kept_E_degree 1) (o_kept_E_ws 1) (o_kept_E_xs 1) (o_kept_E_ys 1)  r23 c23) mw_X3_copyFrom ml_X2_22 ⟨Nat.le_of_ble_eq_true rfl, Nat.le_of_ble_eq_true rfl⟩ hP hD hS [2, 3, 4, 5, 6, 7, 8, 9] (by decide +kernel) rfl rfl 2 rfl rfl rfl hl.1 rfl (Nat.le_of_ble_eq_true rfl) dX2_remember_31 ⟨Nat.le_refl _, Nat.le_refl _⟩ rfl rfl (fun H locs hP hD hS => ?_)
    refine lv_iinc (v := 2) (lv' := [(2, .int 2), (0, .ref q_o), (1, .ref q_p1)]) hx hb dX2_remember_34 hl (k := 0) rfl (by decide) (by decide) rfl (fun ls hl => ?_)
    refine lv_goto (tgt := 11) hx hb dX2_remember_37 (by decide) ?_
    refine lv_iload_n hx hb dX2_remember_11 rfl (lv_at hl 0 rfl) ?_
    refine lv_bipush (v := 10) hx hb dX2_remember_12 (by decide) ?_
    refine lv_icmp_ge (tgt := 40) hx hb dX2_remember_14 (by decide) (fun b => absurd b (by decide)) (fun _ => ?_)
    refine lv_aload_n hx hb dX2_remember_17 rfl (lv_at hl 1 rfl) ?_
    refine mget X fl_X2_11 hP 0 rfl rfl dX2_remember_18 ?_
    refine lv_iload_n hx hb dX2_remember_21 rfl (lv_at hl 0 rfl) ?_
    refine lv_iconst (v := 1) hx hb dX2_remember_22 (by decide) ?_
    refine lv_isub hx hb dX2_remember_23 ?_
    refine maldq X hP 1 rfl 1 (by decide) (by decide) dX2_remember_24 ?_
    refine lv_aload_n hx hb dX2_remember_25 rfl (lv_at hl 1 rfl) ?_
    refine mget X fl_X2_11 hP 0 rfl rfl dX2_remember_26 ?_
    refine lv_iload_n hx hb dX2_remember_29 rfl (lv_at hl 0 rfl) ?_
    refine maldq X hP 1 rfl 2 (by decide) (by decide) dX2_remember_30 ?_
    obtain ⟨r25, c25, h⟩ := o_b h
    refine mcallV X (As := [.ref (q_o_kept_E 2)]) (rest := []) (ws1 := wX2_remember g q_o q_o_kept q_p1 q_p1_ws q_p1_xs q_p1_ys q_o_kept_E q_o_kept_E_ws q_o_kept_E_xs q_o_kept_E_ys o_count (setN (setN o_kept_E_count 0 r23.1) 1 r25.1) (setN (setN o_kept_E_mode 0 r23.2.2.1) 1 r25.2.2.1) (setN (setN o_kept_E_degree 0 r23.2.1) 1 r25.2.1) (setN (setN o_kept_E_ws 0 r23.2.2.2.1) 1 r25.2.2.2.1) (setN (setN o_kept_E_xs 0 r23.2.2.2.2.1) 1 r25.2.2.2.2.1) (setN (setN o_kept_E_ys 0 r23.2.2.2.2.2) 1 r25.2.2.2.2.2) p1_count p1_mode p1_degree p1_ws p1_xs p1_ys) (st1 := []) (kX3_copyFrom D g x l (q_o_kept_E 1) (q_o_kept_E_ws 1) (q_o_kept_E_xs 1) (q_o_kept_E_ys 1) (q_o_kept_E 2) (q_o_kept_E_ws 2) (q_o_kept_E_xs 2) (q_o_kept_E_ys 2) ((setN o_kept_E_count 0 r23.1) 1) ((setN o_kept_E_mode 0 r23.2.2.1) 1) ((setN o_kept_E_degree 0 r23.2.1) 1) ((setN o_kept_E_ws 0 r23.2.2.2.1) 1) ((setN o_kept_E_xs 0 r23.2.2.2.2.1) 1) ((setN o_kept_E_ys 0 r23.2.2.2.2.2) 1) ((setN o_kept_E_count 0 r23.1) 2) ((setN o_kept_E_mode 0 r23.2.2.1) 2) ((setN o_kept_E_degree 0 r23.2.1) 2) ((setN o_kept_E_ws 0 r23.2.2.2.1) 2) ((setN o_kept_E_xs 0 r23.2.2.2.2.1) 2) ((setN o_kept_E_ys 0 r23.2.2.2.2.2) 2)  r25 c25) mw_X3_copyFrom ml_X2_22 ⟨Nat.le_of_ble_eq_true rfl, Nat.le_of_ble_eq_true rfl⟩ hP hD hS [6, 7, 8, 9, 10, 11, 12, 13] (by decide +kernel) rfl rfl 6 rfl rfl rfl hl.1 rfl (Nat.le_of_ble_eq_true rfl) dX2_remember_31 ⟨Nat.le_refl _, Nat.le_refl _⟩ rfl rfl (fun H locs hP hD hS => ?_)
    refine lv_iinc (v := 3) (lv' := [(2, .int 3), (0, .ref q_o), (1, .ref q_p1)]) hx hb dX2_remember_34 hl (k := 0) rfl (by decide) (by decide) rfl (fun ls hl => ?_)
    refine lv_goto (tgt := 11) hx hb dX2_remember_37 (by decide) ?_
    refine lv_iload_n hx hb dX2_remember_11 rfl (lv_at hl 0 rfl) ?_
    refine lv_bipush (v := 10) hx hb dX2_remember_12 (by decide) ?_
    refine lv_icmp_ge (tgt := 40) hx hb dX2_remember_14 (by decide) (fun b => absurd b (by decide)) (fun _ => ?_)
    refine lv_aload_n hx hb dX2_remember_17 rfl (lv_at hl 1 rfl) ?_
    refine mget X fl_X2_11 hP 0 rfl rfl dX2_remember_18 ?_
    refine lv_iload_n hx hb dX2_remember_21 rfl (lv_at hl 0 rfl) ?_
    refine lv_iconst (v := 1) hx hb dX2_remember_22 (by decide) ?_
    refine lv_isub hx hb dX2_remember_23 ?_
    refine maldq X hP 1 rfl 2 (by decide) (by decide) dX2_remember_24 ?_
    refine lv_aload_n hx hb dX2_remember_25 rfl (lv_at hl 1 rfl) ?_
    refine mget X fl_X2_11 hP 0 rfl rfl dX2_remember_26 ?_
    refine lv_iload_n hx hb dX2_remember_29 rfl (lv_at hl 0 rfl) ?_
    refine maldq X hP 1 rfl 3 (by decide) (by decide) dX2_remember_30 ?_
    obtain ⟨r27, c27, h⟩ := o_b h
    refine mcallV X (As := [.ref (q_o_kept_E 3)]) (rest := []) (ws1 := wX2_remember g q_o q_o_kept q_p1 q_p1_ws q_p1_xs q_p1_ys q_o_kept_E q_o_kept_E_ws q_o_kept_E_xs q_o_kept_E_ys o_count (setN (setN (setN o_kept_E_count 0 r23.1) 1 r25.1) 2 r27.1) (setN (setN (setN o_kept_E_mode 0 r23.2.2.1) 1 r25.2.2.1) 2 r27.2.2.1) (setN (setN (setN o_kept_E_degree 0 r23.2.1) 1 r25.2.1) 2 r27.2.1) (setN (setN (setN o_kept_E_ws 0 r23.2.2.2.1) 1 r25.2.2.2.1) 2 r27.2.2.2.1) (setN (setN (setN o_kept_E_xs 0 r23.2.2.2.2.1) 1 r25.2.2.2.2.1) 2 r27.2.2.2.2.1) (setN (setN (setN o_kept_E_ys 0 r23.2.2.2.2.2) 1 r25.2.2.2.2.2) 2 r27.2.2.2.2.2) p1_count p1_mode p1_degree p1_ws p1_xs p1_ys) (st1 := []) (kX3_copyFrom D g x l (q_o_kept_E 2) (q_o_kept_E_ws 2) (q_o_kept_E_xs 2) (q_o_kept_E_ys 2) (q_o_kept_E 3) (q_o_kept_E_ws 3) (q_o_kept_E_xs 3) (q_o_kept_E_ys 3) ((setN (setN o_kept_E_count 0 r23.1) 1 r25.1) 2) ((setN (setN o_kept_E_mode 0 r23.2.2.1) 1 r25.2.2.1) 2) ((setN (setN o_kept_E_degree 0 r23.2.1) 1 r25.2.1) 2) ((setN (setN o_kept_E_ws 0 r23.2.2.2.1) 1 r25.2.2.2.1) 2) ((setN (setN o_kept_E_xs 0 r23.2.2.2.2.1) 1 r25.2.2.2.2.1) 2) ((setN (setN o_kept_E_ys 0 r23.2.2.2.2.2) 1 r25.2.2.2.2.2) 2) ((setN (setN o_kept_E_count 0 r23.1) 1 r25.1) 3) ((setN (setN o_kept_E_mode 0 r23.2.2.1) 1 r25.2.2.1) 3) ((setN (setN o_kept_E_degree 0 r23.2.1) 1 r25.2.1) 3) ((setN (setN o_kept_E_ws 0 r23.2.2.2.1) 1 r25.2.2.2.1) 3) ((setN (setN o_kept_E_xs 0 r23.2.2.2.2.1) 1 r25.2.2.2.2.1) 3) ((setN (setN o_kept_E_ys 0 r23.2.2.2.2.2) 1 r25.2.2.2.2.2) 3)  r27 c27) mw_X3_copyFrom ml_X2_22 ⟨Nat.le_of_ble_eq_true rfl, Nat.le_of_ble_eq_true rfl⟩ hP hD hS [10, 11, 12, 13, 14, 15, 16, 17] (by decide +kernel) rfl rfl 10 rfl rfl rfl hl.1 rfl (Nat.le_of_ble_eq_true rfl) dX2_remember_31 ⟨Nat.le_refl _, Nat.le_refl _⟩ rfl rfl (fun H locs hP hD hS => ?_)
    refine lv_iinc (v := 4) (lv' := [(2, .int 4), (0, .ref q_o), (1, .ref q_p1)]) hx hb dX2_remember_34 hl (k := 0) rfl (by decide) (by decide) rfl (fun ls hl => ?_)
    refine lv_goto (tgt := 11) hx hb dX2_remember_37 (by decide) ?_
    refine lv_iload_n hx hb dX2_remember_11 rfl (lv_at hl 0 rfl) ?_
    refine lv_bipush (v := 10) hx hb dX2_remember_12 (by decide) ?_
    refine lv_icmp_ge (tgt := 40) hx hb dX2_remember_14 (by decide) (fun b => absurd b (by decide)) (fun _ => ?_)
    refine lv_aload_n hx hb dX2_remember_17 rfl (lv_at hl 1 rfl) ?_
    refine mget X fl_X2_11 hP 0 rfl rfl dX2_remember_18 ?_
    refine lv_iload_n hx hb dX2_remember_21 rfl (lv_at hl 0 rfl) ?_
    refine lv_iconst (v := 1) hx hb dX2_remember_22 (by decide) ?_
    refine lv_isub hx hb dX2_remember_23 ?_
    refine maldq X hP 1 rfl 3 (by decide) (by decide) dX2_remember_24 ?_
    refine lv_aload_n hx hb dX2_remember_25 rfl (lv_at hl 1 rfl) ?_
    refine mget X fl_X2_11 hP 0 rfl rfl dX2_remember_26 ?_
    refine lv_iload_n hx hb dX2_remember_29 rfl (lv_at hl 0 rfl) ?_
    refine maldq X hP 1 rfl 4 (by decide) (by decide) dX2_remember_30 ?_
    obtain ⟨r29, c29, h⟩ := o_b h
    refine mcallV X (As := [.ref (q_o_kept_E 4)]) (rest := []) (ws1 := wX2_remember g q_o q_o_kept q_p1 q_p1_ws q_p1_xs q_p1_ys q_o_kept_E q_o_kept_E_ws q_o_kept_E_xs q_o_kept_E_ys o_count (setN (setN (setN (setN o_kept_E_count 0 r23.1) 1 r25.1) 2 r27.1) 3 r29.1) (setN (setN (setN (setN o_kept_E_mode 0 r23.2.2.1) 1 r25.2.2.1) 2 r27.2.2.1) 3 r29.2.2.1) (setN (setN (setN (setN o_kept_E_degree 0 r23.2.1) 1 r25.2.1) 2 r27.2.1) 3 r29.2.1) (setN (setN (setN (setN o_kept_E_ws 0 r23.2.2.2.1) 1 r25.2.2.2.1) 2 r27.2.2.2.1) 3 r29.2.2.2.1) (setN (setN (setN (setN o_kept_E_xs 0 r23.2.2.2.2.1) 1 r25.2.2.2.2.1) 2 r27.2.2.2.2.1) 3 r29.2.2.2.2.1) (setN (setN (setN (setN o_kept_E_ys 0 r23.2.2.2.2.2) 1 r25.2.2.2.2.2) 2 r27.2.2.2.2.2) 3 r29.2.2.2.2.2) p1_count p1_mode p1_degree p1_ws p1_xs p1_ys) (st1 := []) (kX3_copyFrom D g x l (q_o_kept_E 3) (q_o_kept_E_ws 3) (q_o_kept_E_xs 3) (q_o_kept_E_ys 3) (q_o_kept_E 4) (q_o_kept_E_ws 4) (q_o_kept_E_xs 4) (q_o_kept_E_ys 4) ((setN (setN (setN o_kept_E_count 0 r23.1) 1 r25.1) 2 r27.1) 3) ((setN (setN (setN o_kept_E_mode 0 r23.2.2.1) 1 r25.2.2.1) 2 r27.2.2.1) 3) ((setN (setN (setN o_kept_E_degree 0 r23.2.1) 1 r25.2.1) 2 r27.2.1) 3) ((setN (setN (setN o_kept_E_ws 0 r23.2.2.2.1) 1 r25.2.2.2.1) 2 r27.2.2.2.1) 3) ((setN (setN (setN o_kept_E_xs 0 r23.2.2.2.2.1) 1 r25.2.2.2.2.1) 2 r27.2.2.2.2.1) 3) ((setN (setN (setN o_kept_E_ys 0 r23.2.2.2.2.2) 1 r25.2.2.2.2.2) 2 r27.2.2.2.2.2) 3) ((setN (setN (setN o_kept_E_count 0 r23.1) 1 r25.1) 2 r27.1) 4) ((setN (setN (setN o_kept_E_mode 0 r23.2.2.1) 1 r25.2.2.1) 2 r27.2.2.1) 4) ((setN (setN (setN o_kept_E_degree 0 r23.2.1) 1 r25.2.1) 2 r27.2.1) 4) ((setN (setN (setN o_kept_E_ws 0 r23.2.2.2.1) 1 r25.2.2.2.1) 2 r27.2.2.2.1) 4) ((setN (setN (setN o_kept_E_xs 0 r23.2.2.2.2.1) 1 r25.2.2.2.2.1) 2 r27.2.2.2.2.1) 4) ((setN (setN (setN o_kept_E_ys 0 r23.2.2.2.2.2) 1 r25.2.2.2.2.2) 2 r27.2.2.2.2.2) 4)  r29 c29) mw_X3_copyFrom ml_X2_22 ⟨Nat.le_of_ble_eq_true rfl, Nat.le_of_ble_eq_true rfl⟩ hP hD hS [14, 15, 16, 17, 18, 19, 20, 21] (by decide +kernel) rfl rfl 14 rfl rfl rfl hl.1 rfl (Nat.le_of_ble_eq_true rfl) dX2_remember_31 ⟨Nat.le_refl _, Nat.le_refl _⟩ rfl rfl (fun H locs hP hD hS => ?_)
    refine lv_iinc (v := 5) (lv' := [(2, .int 5), (0, .ref q_o), (1, .ref q_p1)]) hx hb dX2_remember_34 hl (k := 0) rfl (by decide) (by decide) rfl (fun ls hl => ?_)
    refine lv_goto (tgt := 11) hx hb dX2_remember_37 (by decide) ?_
    refine lv_iload_n hx hb dX2_remember_11 rfl (lv_at hl 0 rfl) ?_
    refine lv_bipush (v := 10) hx hb dX2_remember_12 (by decide) ?_
    refine lv_icmp_ge (tgt := 40) hx hb dX2_remember_14 (by decide) (fun b => absurd b (by decide)) (fun _ => ?_)
    refine lv_aload_n hx hb dX2_remember_17 rfl (lv_at hl 1 rfl) ?_
    refine mget X fl_X2_11 hP 0 rfl rfl dX2_remember_18 ?_
    refine lv_iload_n hx hb dX2_remember_21 rfl (lv_at hl 0 rfl) ?_
    refine lv_iconst (v := 1) hx hb dX2_remember_22 (by decide) ?_
    refine lv_isub hx hb dX2_remember_23 ?_
    refine maldq X hP 1 rfl 4 (by decide) (by decide) dX2_remember_24 ?_
    refine lv_aload_n hx hb dX2_remember_25 rfl (lv_at hl 1 rfl) ?_
    refine mget X fl_X2_11 hP 0 rfl rfl dX2_remember_26 ?_
    refine lv_iload_n hx hb dX2_remember_29 rfl (lv_at hl 0 rfl) ?_
    refine maldq X hP 1 rfl 5 (by decide) (by decide) dX2_remember_30 ?_
    obtain ⟨r31, c31, h⟩ := o_b h
    refine mcallV X (As := [.ref (q_o_kept_E 5)]) (rest := []) (ws1 := wX2_remember g q_o q_o_kept q_p1 q_p1_ws q_p1_xs q_p1_ys q_o_kept_E q_o_kept_E_ws q_o_kept_E_xs q_o_kept_E_ys o_count (setN (setN (setN (setN (setN o_kept_E_count 0 r23.1) 1 r25.1) 2 r27.1) 3 r29.1) 4 r31.1) (setN (setN (setN (setN (setN o_kept_E_mode 0 r23.2.2.1) 1 r25.2.2.1) 2 r27.2.2.1) 3 r29.2.2.1) 4 r31.2.2.1) (setN (setN (setN (setN (setN o_kept_E_degree 0 r23.2.1) 1 r25.2.1) 2 r27.2.1) 3 r29.2.1) 4 r31.2.1) (setN (setN (setN (setN (setN o_kept_E_ws 0 r23.2.2.2.1) 1 r25.2.2.2.1) 2 r27.2.2.2.1) 3 r29.2.2.2.1) 4 r31.2.2.2.1) (setN (setN (setN (setN (setN o_kept_E_xs 0 r23.2.2.2.2.1) 1 r25.2.2.2.2.1) 2 r27.2.2.2.2.1) 3 r29.2.2.2.2.1) 4 r31.2.2.2.2.1) (setN (setN (setN (setN (setN o_kept_E_ys 0 r23.2.2.2.2.2) 1 r25.2.2.2.2.2) 2 r27.2.2.2.2.2) 3 r29.2.2.2.2.2) 4 r31.2.2.2.2.2) p1_count p1_mode p1_degree p1_ws p1_xs p1_ys) (st1 := []) (kX3_copyFrom D g x l (q_o_kept_E 4) (q_o_kept_E_ws 4) (q_o_kept_E_xs 4) (q_o_kept_E_ys 4) (q_o_kept_E 5) (q_o_kept_E_ws 5) (q_o_kept_E_xs 5) (q_o_kept_E_ys 5) ((setN (setN (setN (setN o_kept_E_count 0 r23.1) 1 r25.1) 2 r27.1) 3 r29.1) 4) ((setN (setN (setN (setN o_kept_E_mode 0 r23.2.2.1) 1 r25.2.2.1) 2 r27.2.2.1) 3 r29.2.2.1) 4) ((setN (setN (setN (setN o_kept_E_degree 0 r23.2.1) 1 r25.2.1) 2 r27.2.1) 3 r29.2.1) 4) ((setN (setN (setN (setN o_kept_E_ws 0 r23.2.2.2.1) 1 r25.2.2.2.1) 2 r27.2.2.2.1) 3 r29.2.2.2.1) 4) ((setN (setN (setN (setN o_kept_E_xs 0 r23.2.2.2.2.1) 1 r25.2.2.2.2.1) 2 r27.2.2.2.2.1) 3 r29.2.2.2.2.1) 4) ((setN (setN (setN (setN o_kept_E_ys 0 r23.2.2.2.2.2) 1 r25.2.2.2.2.2) 2 r27.2.2.2.2.2) 3 r29.2.2.2.2.2) 4) ((setN (setN (setN (setN o_kept_E_count 0 r23.1) 1 r25.1) 2 r27.1) 3 r29.1) 5) ((setN (setN (setN (setN o_kept_E_mode 0 r23.2.2.1) 1 r25.2.2.1) 2 r27.2.2.1) 3 r29.2.2.1) 5) ((setN (setN (setN (setN o_kept_E_degree 0 r23.2.1) 1 r25.2.1) 2 r27.2.1) 3 r29.2.1) 5) ((setN (setN (setN (setN o_kept_E_ws 0 r23.2.2.2.1) 1 r25.2.2.2.1) 2 r27.2.2.2.1) 3 r29.2.2.2.1) 5) ((setN (setN (setN (setN o_kept_E_xs 0 r23.2.2.2.2.1) 1 r25.2.2.2.2.1) 2 r27.2.2.2.2.1) 3 r29.2.2.2.2.1) 5) ((setN (setN (setN (setN o_kept_E_ys 0 r23.2.2.2.2.2) 1 r25.2.2.2.2.2) 2 r27.2.2.2.2.2) 3 r29.2.2.2.2.2) 5)  r31 c31) mw_X3_copyFrom ml_X2_22 ⟨Nat.le_of_ble_eq_true rfl, Nat.le_of_ble_eq_true rfl⟩ hP hD hS [18, 19, 20, 21, 22, 23, 24, 25] (by decide +kernel) rfl rfl 18 rfl rfl rfl hl.1 rfl (Nat.le_of_ble_eq_true rfl) dX2_remember_31 ⟨Nat.le_refl _, Nat.le_refl _⟩ rfl rfl (fun H locs hP hD hS => ?_)
    refine lv_iinc (v := 6) (lv' := [(2, .int 6), (0, .ref q_o), (1, .ref q_p1)]) hx hb dX2_remember_34 hl (k := 0) rfl (by decide) (by decide) rfl (fun ls hl => ?_)
    refine lv_goto (tgt := 11) hx hb dX2_remember_37 (by decide) ?_
    refine lv_iload_n hx hb dX2_remember_11 rfl (lv_at hl 0 rfl) ?_
    refine lv_bipush (v := 10) hx hb dX2_remember_12 (by decide) ?_
    refine lv_icmp_ge (tgt := 40) hx hb dX2_remember_14 (by decide) (fun b => absurd b (by decide)) (fun _ => ?_)
    refine lv_aload_n hx hb dX2_remember_17 rfl (lv_at hl 1 rfl) ?_
    refine mget X fl_X2_11 hP 0 rfl rfl dX2_remember_18 ?_
    refine lv_iload_n hx hb dX2_remember_21 rfl (lv_at hl 0 rfl) ?_
    refine lv_iconst (v := 1) hx hb dX2_remember_22 (by decide) ?_
    refine lv_isub hx hb dX2_remember_23 ?_
    refine maldq X hP 1 rfl 5 (by decide) (by decide) dX2_remember_24 ?_
    refine lv_aload_n hx hb dX2_remember_25 rfl (lv_at hl 1 rfl) ?_
    refine mget X fl_X2_11 hP 0 rfl rfl dX2_remember_26 ?_
    refine lv_iload_n hx hb dX2_remember_29 rfl (lv_at hl 0 rfl) ?_
    refine maldq X hP 1 rfl 6 (by decide) (by decide) dX2_remember_30 ?_
    obtain ⟨r33, c33, h⟩ := o_b h
    refine mcallV X (As := [.ref (q_o_kept_E 6)]) (rest := []) (ws1 := wX2_remember g q_o q_o_kept q_p1 q_p1_ws q_p1_xs q_p1_ys q_o_kept_E q_o_kept_E_ws q_o_kept_E_xs q_o_kept_E_ys o_count (setN (setN (setN (setN (setN (setN o_kept_E_count 0 r23.1) 1 r25.1) 2 r27.1) 3 r29.1) 4 r31.1) 5 r33.1) (setN (setN (setN (setN (setN (setN o_kept_E_mode 0 r23.2.2.1) 1 r25.2.2.1) 2 r27.2.2.1) 3 r29.2.2.1) 4 r31.2.2.1) 5 r33.2.2.1) (setN (setN (setN (setN (setN (setN o_kept_E_degree 0 r23.2.1) 1 r25.2.1) 2 r27.2.1) 3 r29.2.1) 4 r31.2.1) 5 r33.2.1) (setN (setN (setN (setN (setN (setN o_kept_E_ws 0 r23.2.2.2.1) 1 r25.2.2.2.1) 2 r27.2.2.2.1) 3 r29.2.2.2.1) 4 r31.2.2.2.1) 5 r33.2.2.2.1) (setN (setN (setN (setN (setN (setN o_kept_E_xs 0 r23.2.2.2.2.1) 1 r25.2.2.2.2.1) 2 r27.2.2.2.2.1) 3 r29.2.2.2.2.1) 4 r31.2.2.2.2.1) 5 r33.2.2.2.2.1) (setN (setN (setN (setN (setN (setN o_kept_E_ys 0 r23.2.2.2.2.2) 1 r25.2.2.2.2.2) 2 r27.2.2.2.2.2) 3 r29.2.2.2.2.2) 4 r31.2.2.2.2.2) 5 r33.2.2.2.2.2) p1_count p1_mode p1_degree p1_ws p1_xs p1_ys) (st1 := []) (kX3_copyFrom D g x l (q_o_kept_E 5) (q_o_kept_E_ws 5) (q_o_kept_E_xs 5) (q_o_kept_E_ys 5) (q_o_kept_E 6) (q_o_kept_E_ws 6) (q_o_kept_E_xs 6) (q_o_kept_E_ys 6) ((setN (setN (setN (setN (setN o_kept_E_count 0 r23.1) 1 r25.1) 2 r27.1) 3 r29.1) 4 r31.1) 5) ((setN (setN (setN (setN (setN o_kept_E_mode 0 r23.2.2.1) 1 r25.2.2.1) 2 r27.2.2.1) 3 r29.2.2.1) 4 r31.2.2.1) 5) ((setN (setN (setN (setN (setN o_kept_E_degree 0 r23.2.1) 1 r25.2.1) 2 r27.2.1) 3 r29.2.1) 4 r31.2.1) 5) ((setN (setN (setN (setN (setN o_kept_E_ws 0 r23.2.2.2.1) 1 r25.2.2.2.1) 2 r27.2.2.2.1) 3 r29.2.2.2.1) 4 r31.2.2.2.1) 5) ((setN (setN (setN (setN (setN o_kept_E_xs 0 r23.2.2.2.2.1) 1 r25.2.2.2.2.1) 2 r27.2.2.2.2.1) 3 r29.2.2.2.2.1) 4 r31.2.2.2.2.1) 5) ((setN (setN (setN (setN (setN o_kept_E_ys 0 r23.2.2.2.2.2) 1 r25.2.2.2.2.2) 2 r27.2.2.2.2.2) 3 r29.2.2.2.2.2) 4 r31.2.2.2.2.2) 5) ((setN (setN (setN (setN (setN o_kept_E_count 0 r23.1) 1 r25.1) 2 r27.1) 3 r29.1) 4 r31.1) 6) ((setN (setN (setN (setN (setN o_kept_E_mode 0 r23.2.2.1) 1 r25.2.2.1) 2 r27.2.2.1) 3 r29.2.2.1) 4 r31.2.2.1) 6) ((setN (setN (setN (setN (setN o_kept_E_degree 0 r23.2.1) 1 r25.2.1) 2 r27.2.1) 3 r29.2.1) 4 r31.2.1) 6) ((setN (setN (setN (setN (setN o_kept_E_ws 0 r23.2.2.2.1) 1 r25.2.2.2.1) 2 r27.2.2.2.1) 3 r29.2.2.2.1) 4 r31.2.2.2.1) 6) ((setN (setN (setN (setN (setN o_kept_E_xs 0 r23.2.2.2.2.1) 1 r25.2.2.2.2.1) 2 r27.2.2.2.2.1) 3 r29.2.2.2.2.1) 4 r31.2.2.2.2.1) 6) ((setN (setN (setN (setN (setN o_kept_E_ys 0 r23.2.2.2.2.2) 1 r25.2.2.2.2.2) 2 r27.2.2.2.2.2) 3 r29.2.2.2.2.2) 4 r31.2.2.2.2.2) 6)  r33 c33) mw_X3_copyFrom ml_X2_22 ⟨Nat.le_of_ble_eq_true rfl, Nat.le_of_ble_eq_true rfl⟩ hP hD hS [22, 23, 24, 25, 26, 27, 28, 29] (by decide +kernel) rfl rfl 22 rfl rfl rfl hl.1 rfl (Nat.le_of_ble_eq_true rfl) dX2_remember_31 ⟨Nat.le_refl _, Nat.le_refl _⟩ rfl rfl (fun H locs hP hD hS => ?_)
    refine lv_iinc (v := 7) (lv' := [(2, .int 7), (0, .ref q_o), (1, .ref q_p1)]) hx hb dX2_remember_34 hl (k := 0) rfl (by decide) (by decide) rfl (fun ls hl => ?_)
    refine lv_goto (tgt := 11) hx hb dX2_remember_37 (by decide) ?_
    refine lv_iload_n hx hb dX2_remember_11 rfl (lv_at hl 0 rfl) ?_
    refine lv_bipush (v := 10) hx hb dX2_remember_12 (by decide) ?_
    refine lv_icmp_ge (tgt := 40) hx hb dX2_remember_14 (by decide) (fun b => absurd b (by decide)) (fun _ => ?_)
    refine lv_aload_n hx hb dX2_remember_17 rfl (lv_at hl 1 rfl) ?_
    refine mget X fl_X2_11 hP 0 rfl rfl dX2_remember_18 ?_
    refine lv_iload_n hx hb dX2_remember_21 rfl (lv_at hl 0 rfl) ?_
    refine lv_iconst (v := 1) hx hb dX2_remember_22 (by decide) ?_
    refine lv_isub hx hb dX2_remember_23 ?_
    refine maldq X hP 1 rfl 6 (by decide) (by decide) dX2_remember_24 ?_
    refine lv_aload_n hx hb dX2_remember_25 rfl (lv_at hl 1 rfl) ?_
    refine mget X fl_X2_11 hP 0 rfl rfl dX2_remember_26 ?_
    refine lv_iload_n hx hb dX2_remember_29 rfl (lv_at hl 0 rfl) ?_
    refine maldq X hP 1 rfl 7 (by decide) (by decide) dX2_remember_30 ?_
    obtain ⟨r35, c35, h⟩ := o_b h
    refine mcallV X (As := [.ref (q_o_kept_E 7)]) (rest := []) (ws1 := wX2_remember g q_o q_o_kept q_p1 q_p1_ws q_p1_xs q_p1_ys q_o_kept_E q_o_kept_E_ws q_o_kept_E_xs q_o_kept_E_ys o_count (setN (setN (setN (setN (setN (setN (setN o_kept_E_count 0 r23.1) 1 r25.1) 2 r27.1) 3 r29.1) 4 r31.1) 5 r33.1) 6 r35.1) (setN (setN (setN (setN (setN (setN (setN o_kept_E_mode 0 r23.2.2.1) 1 r25.2.2.1) 2 r27.2.2.1) 3 r29.2.2.1) 4 r31.2.2.1) 5 r33.2.2.1) 6 r35.2.2.1) (setN (setN (setN (setN (setN (setN (setN o_kept_E_degree 0 r23.2.1) 1 r25.2.1) 2 r27.2.1) 3 r29.2.1) 4 r31.2.1) 5 r33.2.1) 6 r35.2.1) (setN (setN (setN (setN (setN (setN (setN o_kept_E_ws 0 r23.2.2.2.1) 1 r25.2.2.2.1) 2 r27.2.2.2.1) 3 r29.2.2.2.1) 4 r31.2.2.2.1) 5 r33.2.2.2.1) 6 r35.2.2.2.1) (setN (setN (setN (setN (setN (setN (setN o_kept_E_xs 0 r23.2.2.2.2.1) 1 r25.2.2.2.2.1) 2 r27.2.2.2.2.1) 3 r29.2.2.2.2.1) 4 r31.2.2.2.2.1) 5 r33.2.2.2.2.1) 6 r35.2.2.2.2.1) (setN (setN (setN (setN (setN (setN (setN o_kept_E_ys 0 r23.2.2.2.2.2) 1 r25.2.2.2.2.2) 2 r27.2.2.2.2.2) 3 r29.2.2.2.2.2) 4 r31.2.2.2.2.2) 5 r33.2.2.2.2.2) 6 r35.2.2.2.2.2) p1_count p1_mode p1_degree p1_ws p1_xs p1_ys) (st1 := []) (kX3_copyFrom D g x l (q_o_kept_E 6) (q_o_kept_E_ws 6) (q_o_kept_E_xs 6) (q_o_kept_E_ys 6) (q_o_kept_E 7) (q_o_kept_E_ws 7) (q_o_kept_E_xs 7) (q_o_kept_E_ys 7) ((setN (setN (setN (setN (setN (setN o_kept_E_count 0 r23.1) 1 r25.1) 2 r27.1) 3 r29.1) 4 r31.1) 5 r33.1) 6) ((setN (setN (setN (setN (setN (setN o_kept_E_mode 0 r23.2.2.1) 1 r25.2.2.1) 2 r27.2.2.1) 3 r29.2.2.1) 4 r31.2.2.1) 5 r33.2.2.1) 6) ((setN (setN (setN (setN (setN (setN o_kept_E_degree 0 r23.2.1) 1 r25.2.1) 2 r27.2.1) 3 r29.2.1) 4 r31.2.1) 5 r33.2.1) 6) ((setN (setN (setN (setN (setN (setN o_kept_E_ws 0 r23.2.2.2.1) 1 r25.2.2.2.1) 2 r27.2.2.2.1) 3 r29.2.2.2.1) 4 r31.2.2.2.1) 5 r33.2.2.2.1) 6) ((setN (setN (setN (setN (setN (setN o_kept_E_xs 0 r23.2.2.2.2.1) 1 r25.2.2.2.2.1) 2 r27.2.2.2.2.1) 3 r29.2.2.2.2.1) 4 r31.2.2.2.2.1) 5 r33.2.2.2.2.1) 6) ((setN (setN (setN (setN (setN (setN o_kept_E_ys 0 r23.2.2.2.2.2) 1 r25.2.2.2.2.2) 2 r27.2.2.2.2.2) 3 r29.2.2.2.2.2) 4 r31.2.2.2.2.2) 5 r33.2.2.2.2.2) 6) ((setN (setN (setN (setN (setN (setN o_kept_E_count 0 r23.1) 1 r25.1) 2 r27.1) 3 r29.1) 4 r31.1) 5 r33.1) 7) ((setN (setN (setN (setN (setN (setN o_kept_E_mode 0 r23.2.2.1) 1 r25.2.2.1) 2 r27.2.2.1) 3 r29.2.2.1) 4 r31.2.2.1) 5 r33.2.2.1) 7) ((setN (setN (setN (setN (setN (setN o_kept_E_degree 0 r23.2.1) 1 r25.2.1) 2 r27.2.1) 3 r29.2.1) 4 r31.2.1) 5 r33.2.1) 7) ((setN (setN (setN (setN (setN (setN o_kept_E_ws 0 r23.2.2.2.1) 1 r25.2.2.2.1) 2 r27.2.2.2.1) 3 r29.2.2.2.1) 4 r31.2.2.2.1) 5 r33.2.2.2.1) 7) ((setN (setN (setN (setN (setN (setN o_kept_E_xs 0 r23.2.2.2.2.1) 1 r25.2.2.2.2.1) 2 r27.2.2.2.2.1) 3 r29.2.2.2.2.1) 4 r31.2.2.2.2.1) 5 r33.2.2.2.2.1) 7) ((setN (setN (setN (setN (setN (setN o_kept_E_ys 0 r23.2.2.2.2.2) 1 r25.2.2.2.2.2) 2 r27.2.2.2.2.2) 3 r29.2.2.2.2.2) 4 r31.2.2.2.2.2) 5 r33.2.2.2.2.2) 7)  r35 c35) mw_X3_copyFrom ml_X2_22 ⟨Nat.le_of_ble_eq_true rfl, Nat.le_of_ble_eq_true rfl⟩ hP hD hS [26, 27, 28, 29, 30, 31, 32, 33] (by decide +kernel) rfl rfl 26 rfl rfl rfl hl.1 rfl (Nat.le_of_ble_eq_true rfl) dX2_remember_31 ⟨Nat.le_refl _, Nat.le_refl _⟩ rfl rfl (fun H locs hP hD hS => ?_)
    refine lv_iinc (v := 8) (lv' := [(2, .int 8), (0, .ref q_o), (1, .ref q_p1)]) hx hb dX2_remember_34 hl (k := 0) rfl (by decide) (by decide) rfl (fun ls hl => ?_)
    refine lv_goto (tgt := 11) hx hb dX2_remember_37 (by decide) ?_
    refine lv_iload_n hx hb dX2_remember_11 rfl (lv_at hl 0 rfl) ?_
    refine lv_bipush (v := 10) hx hb dX2_remember_12 (by decide) ?_
    refine lv_icmp_ge (tgt := 40) hx hb dX2_remember_14 (by decide) (fun b => absurd b (by decide)) (fun _ => ?_)
    refine lv_aload_n hx hb dX2_remember_17 rfl (lv_at hl 1 rfl) ?_
    refine mget X fl_X2_11 hP 0 rfl rfl dX2_remember_18 ?_
    refine lv_iload_n hx hb dX2_remember_21 rfl (lv_at hl 0 rfl) ?_
    refine lv_iconst (v := 1) hx hb dX2_remember_22 (by decide) ?_
    refine lv_isub hx hb dX2_remember_23 ?_
    refine maldq X hP 1 rfl 7 (by decide) (by decide) dX2_remember_24 ?_
    refine lv_aload_n hx hb dX2_remember_25 rfl (lv_at hl 1 rfl) ?_
    refine mget X fl_X2_11 hP 0 rfl rfl dX2_remember_26 ?_
    refine lv_iload_n hx hb dX2_remember_29 rfl (lv_at hl 0 rfl) ?_
    refine maldq X hP 1 rfl 8 (by decide) (by decide) dX2_remember_30 ?_
    obtain ⟨r37, c37, h⟩ := o_b h
    refine mcallV X (As := [.ref (q_o_kept_E 8)]) (rest := []) (ws1 := wX2_remember g q_o q_o_kept q_p1 q_p1_ws q_p1_xs q_p1_ys q_o_kept_E q_o_kept_E_ws q_o_kept_E_xs q_o_kept_E_ys o_count (setN (setN (setN (setN (setN (setN (setN (setN o_kept_E_count 0 r23.1) 1 r25.1) 2 r27.1) 3 r29.1) 4 r31.1) 5 r33.1) 6 r35.1) 7 r37.1) (setN (setN (setN (setN (setN (setN (setN (setN o_kept_E_mode 0 r23.2.2.1) 1 r25.2.2.1) 2 r27.2.2.1) 3 r29.2.2.1) 4 r31.2.2.1) 5 r33.2.2.1) 6 r35.2.2.1) 7 r37.2.2.1) (setN (setN (setN (setN (setN (setN (setN (setN o_kept_E_degree 0 r23.2.1) 1 r25.2.1) 2 r27.2.1) 3 r29.2.1) 4 r31.2.1) 5 r33.2.1) 6 r35.2.1) 7 r37.2.1) (setN (setN (setN (setN (setN (setN (setN (setN o_kept_E_ws 0 r23.2.2.2.1) 1 r25.2.2.2.1) 2 r27.2.2.2.1) 3 r29.2.2.2.1) 4 r31.2.2.2.1) 5 r33.2.2.2.1) 6 r35.2.2.2.1) 7 r37.2.2.2.1) (setN (setN (setN (setN (setN (setN (setN (setN o_kept_E_xs 0 r23.2.2.2.2.1) 1 r25.2.2.2.2.1) 2 r27.2.2.2.2.1) 3 r29.2.2.2.2.1) 4 r31.2.2.2.2.1) 5 r33.2.2.2.2.1) 6 r35.2.2.2.2.1) 7 r37.2.2.2.2.1) (setN (setN (setN (setN (setN (setN (setN (setN o_kept_E_ys 0 r23.2.2.2.2.2) 1 r25.2.2.2.2.2) 2 r27.2.2.2.2.2) 3 r29.2.2.2.2.2) 4 r31.2.2.2.2.2) 5 r33.2.2.2.2.2) 6 r35.2.2.2.2.2) 7 r37.2.2.2.2.2) p1_count p1_mode p1_degree p1_ws p1_xs p1_ys) (st1 := []) (kX3_copyFrom D g x l (q_o_kept_E 7) (q_o_kept_E_ws 7) (q_o_kept_E_xs 7) (q_o_kept_E_ys 7) (q_o_kept_E 8) (q_o_kept_E_ws 8) (q_o_kept_E_xs 8) (q_o_kept_E_ys 8) ((setN (setN (setN (setN (setN (setN (setN o_kept_E_count 0 r23.1) 1 r25.1) 2 r27.1) 3 r29.1) 4 r31.1) 5 r33.1) 6 r35.1) 7) ((setN (setN (setN (setN (setN (setN (setN o_kept_E_mode 0 r23.2.2.1) 1 r25.2.2.1) 2 r27.2.2.1) 3 r29.2.2.1) 4 r31.2.2.1) 5 r33.2.2.1) 6 r35.2.2.1) 7) ((setN (setN (setN (setN (setN (setN (setN o_kept_E_degree 0 r23.2.1) 1 r25.2.1) 2 r27.2.1) 3 r29.2.1) 4 r31.2.1) 5 r33.2.1) 6 r35.2.1) 7) ((setN (setN (setN (setN (setN (setN (setN o_kept_E_ws 0 r23.2.2.2.1) 1 r25.2.2.2.1) 2 r27.2.2.2.1) 3 r29.2.2.2.1) 4 r31.2.2.2.1) 5 r33.2.2.2.1) 6 r35.2.2.2.1) 7) ((setN (setN (setN (setN (setN (setN (setN o_kept_E_xs 0 r23.2.2.2.2.1) 1 r25.2.2.2.2.1) 2 r27.2.2.2.2.1) 3 r29.2.2.2.2.1) 4 r31.2.2.2.2.1) 5 r33.2.2.2.2.1) 6 r35.2.2.2.2.1) 7) ((setN (setN (setN (setN (setN (setN (setN o_kept_E_ys 0 r23.2.2.2.2.2) 1 r25.2.2.2.2.2) 2 r27.2.2.2.2.2) 3 r29.2.2.2.2.2) 4 r31.2.2.2.2.2) 5 r33.2.2.2.2.2) 6 r35.2.2.2.2.2) 7) ((setN (setN (setN (setN (setN (setN (setN o_kept_E_count 0 r23.1) 1 r25.1) 2 r27.1) 3 r29.1) 4 r31.1) 5 r33.1) 6 r35.1) 8) ((setN (setN (setN (setN (setN (setN (setN o_kept_E_mode 0 r23.2.2.1) 1 r25.2.2.1) 2 r27.2.2.1) 3 r29.2.2.1) 4 r31.2.2.1) 5 r33.2.2.1) 6 r35.2.2.1) 8) ((setN (setN (setN (setN (setN (setN (setN o_kept_E_degree 0 r23.2.1) 1 r25.2.1) 2 r27.2.1) 3 r29.2.1) 4 r31.2.1) 5 r33.2.1) 6 r35.2.1) 8) ((setN (setN (setN (setN (setN (setN (setN o_kept_E_ws 0 r23.2.2.2.1) 1 r25.2.2.2.1) 2 r27.2.2.2.1) 3 r29.2.2.2.1) 4 r31.2.2.2.1) 5 r33.2.2.2.1) 6 r35.2.2.2.1) 8) ((setN (setN (setN (setN (setN (setN (setN o_kept_E_xs 0 r23.2.2.2.2.1) 1 r25.2.2.2.2.1) 2 r27.2.2.2.2.1) 3 r29.2.2.2.2.1) 4 r31.2.2.2.2.1) 5 r33.2.2.2.2.1) 6 r35.2.2.2.2.1) 8) ((setN (setN (setN (setN (setN (setN (setN o_kept_E_ys 0 r23.2.2.2.2.2) 1 r25.2.2.2.2.2) 2 r27.2.2.2.2.2) 3 r29.2.2.2.2.2) 4 r31.2.2.2.2.2) 5 r33.2.2.2.2.2) 6 r35.2.2.2.2.2) 8)  r37 c37) mw_X3_copyFrom ml_X2_22 ⟨Nat.le_of_ble_eq_true rfl, Nat.le_of_ble_eq_true rfl⟩ hP hD hS [30, 31, 32, 33, 34, 35, 36, 37] (by decide +kernel) rfl rfl 30 rfl rfl rfl hl.1 rfl (Nat.le_of_ble_eq_true rfl) dX2_remember_31 ⟨Nat.le_refl _, Nat.le_refl _⟩ rfl rfl (fun H locs hP hD hS => ?_)
    refine lv_iinc (v := 9) (lv' := [(2, .int 9), (0, .ref q_o), (1, .ref q_p1)]) hx hb dX2_remember_34 hl (k := 0) rfl (by decide) (by decide) rfl (fun ls hl => ?_)
    refine lv_goto (tgt := 11) hx hb dX2_remember_37 (by decide) ?_
    refine lv_iload_n hx hb dX2_remember_11 rfl (lv_at hl 0 rfl) ?_
    refine lv_bipush (v := 10) hx hb dX2_remember_12 (by decide) ?_
    refine lv_icmp_ge (tgt := 40) hx hb dX2_remember_14 (by decide) (fun b => absurd b (by decide)) (fun _ => ?_)
    refine lv_aload_n hx hb dX2_remember_17 rfl (lv_at hl 1 rfl) ?_
    refine mget X fl_X2_11 hP 0 rfl rfl dX2_remember_18 ?_
    refine lv_iload_n hx hb dX2_remember_21 rfl (lv_at hl 0 rfl) ?_
    refine lv_iconst (v := 1) hx hb dX2_remember_22 (by decide) ?_
    refine lv_isub hx hb dX2_remember_23 ?_
    refine maldq X hP 1 rfl 8 (by decide) (by decide) dX2_remember_24 ?_
    refine lv_aload_n hx hb dX2_remember_25 rfl (lv_at hl 1 rfl) ?_
    refine mget X fl_X2_11 hP 0 rfl rfl dX2_remember_26 ?_
    refine lv_iload_n hx hb dX2_remember_29 rfl (lv_at hl 0 rfl) ?_
    refine maldq X hP 1 rfl 9 (by decide) (by decide) dX2_remember_30 ?_
    obtain ⟨r39, c39, h⟩ := o_b h
    refine mcallV X (As := [.ref (q_o_kept_E 9)]) (rest := []) (ws1 := wX2_remember g q_o q_o_kept q_p1 q_p1_ws q_p1_xs q_p1_ys q_o_kept_E q_o_kept_E_ws q_o_kept_E_xs q_o_kept_E_ys o_count (setN (setN (setN (setN (setN (setN (setN (setN (setN o_kept_E_count 0 r23.1) 1 r25.1) 2 r27.1) 3 r29.1) 4 r31.1) 5 r33.1) 6 r35.1) 7 r37.1) 8 r39.1) (setN (setN (setN (setN (setN (setN (setN (setN (setN o_kept_E_mode 0 r23.2.2.1) 1 r25.2.2.1) 2 r27.2.2.1) 3 r29.2.2.1) 4 r31.2.2.1) 5 r33.2.2.1) 6 r35.2.2.1) 7 r37.2.2.1) 8 r39.2.2.1) (setN (setN (setN (setN (setN (setN (setN (setN (setN o_kept_E_degree 0 r23.2.1) 1 r25.2.1) 2 r27.2.1) 3 r29.2.1) 4 r31.2.1) 5 r33.2.1) 6 r35.2.1) 7 r37.2.1) 8 r39.2.1) (setN (setN (setN (setN (setN (setN (setN (setN (setN o_kept_E_ws 0 r23.2.2.2.1) 1 r25.2.2.2.1) 2 r27.2.2.2.1) 3 r29.2.2.2.1) 4 r31.2.2.2.1) 5 r33.2.2.2.1) 6 r35.2.2.2.1) 7 r37.2.2.2.1) 8 r39.2.2.2.1) (setN (setN (setN (setN (setN (setN (setN (setN (setN o_kept_E_xs 0 r23.2.2.2.2.1) 1 r25.2.2.2.2.1) 2 r27.2.2.2.2.1) 3 r29.2.2.2.2.1) 4 r31.2.2.2.2.1) 5 r33.2.2.2.2.1) 6 r35.2.2.2.2.1) 7 r37.2.2.2.2.1) 8 r39.2.2.2.2.1) (setN (setN (setN (setN (setN (setN (setN (setN (setN o_kept_E_ys 0 r23.2.2.2.2.2) 1 r25.2.2.2.2.2) 2 r27.2.2.2.2.2) 3 r29.2.2.2.2.2) 4 r31.2.2.2.2.2) 5 r33.2.2.2.2.2) 6 r35.2.2.2.2.2) 7 r37.2.2.2.2.2) 8 r39.2.2.2.2.2) p1_count p1_mode p1_degree p1_ws p1_xs p1_ys) (st1 := []) (kX3_copyFrom D g x l (q_o_kept_E 8) (q_o_kept_E_ws 8) (q_o_kept_E_xs 8) (q_o_kept_E_ys 8) (q_o_kept_E 9) (q_o_kept_E_ws 9) (q_o_kept_E_xs 9) (q_o_kept_E_ys 9) ((setN (setN (setN (setN (setN (setN (setN (setN o_kept_E_count 0 r23.1) 1 r25.1) 2 r27.1) 3 r29.1) 4 r31.1) 5 r33.1) 6 r35.1) 7 r37.1) 8) ((setN (setN (setN (setN (setN (setN (setN (setN o_kept_E_mode 0 r23.2.2.1) 1 r25.2.2.1) 2 r27.2.2.1) 3 r29.2.2.1) 4 r31.2.2.1) 5 r33.2.2.1) 6 r35.2.2.1) 7 r37.2.2.1) 8) ((setN (setN (setN (setN (setN (setN (setN (setN o_kept_E_degree 0 r23.2.1) 1 r25.2.1) 2 r27.2.1) 3 r29.2.1) 4 r31.2.1) 5 r33.2.1) 6 r35.2.1) 7 r37.2.1) 8) ((setN (setN (setN (setN (setN (setN (setN (setN o_kept_E_ws 0 r23.2.2.2.1) 1 r25.2.2.2.1) 2 r27.2.2.2.1) 3 r29.2.2.2.1) 4 r31.2.2.2.1) 5 r33.2.2.2.1) 6 r35.2.2.2.1) 7 r37.2.2.2.1) 8) ((setN (setN (setN (setN (setN (setN (setN (setN o_kept_E_xs 0 r23.2.2.2.2.1) 1 r25.2.2.2.2.1) 2 r27.2.2.2.2.1) 3 r29.2.2.2.2.1) 4 r31.2.2.2.2.1) 5 r33.2.2.2.2.1) 6 r35.2.2.2.2.1) 7 r37.2.2.2.2.1) 8) ((setN (setN (setN (setN (setN (setN (setN (setN o_kept_E_ys 0 r23.2.2.2.2.2) 1 r25.2.2.2.2.2) 2 r27.2.2.2.2.2) 3 r29.2.2.2.2.2) 4 r31.2.2.2.2.2) 5 r33.2.2.2.2.2) 6 r35.2.2.2.2.2) 7 r37.2.2.2.2.2) 8) ((setN (setN (setN (setN (setN (setN (setN (setN o_kept_E_count 0 r23.1) 1 r25.1) 2 r27.1) 3 r29.1) 4 r31.1) 5 r33.1) 6 r35.1) 7 r37.1) 9) ((setN (setN (setN (setN (setN (setN (setN (setN o_kept_E_mode 0 r23.2.2.1) 1 r25.2.2.1) 2 r27.2.2.1) 3 r29.2.2.1) 4 r31.2.2.1) 5 r33.2.2.1) 6 r35.2.2.1) 7 r37.2.2.1) 9) ((setN (setN (setN (setN (setN (setN (setN (setN o_kept_E_degree 0 r23.2.1) 1 r25.2.1) 2 r27.2.1) 3 r29.2.1) 4 r31.2.1) 5 r33.2.1) 6 r35.2.1) 7 r37.2.1) 9) ((setN (setN (setN (setN (setN (setN (setN (setN o_kept_E_ws 0 r23.2.2.2.1) 1 r25.2.2.2.1) 2 r27.2.2.2.1) 3 r29.2.2.2.1) 4 r31.2.2.2.1) 5 r33.2.2.2.1) 6 r35.2.2.2.1) 7 r37.2.2.2.1) 9) ((setN (setN (setN (setN (setN (setN (setN (setN o_kept_E_xs 0 r23.2.2.2.2.1) 1 r25.2.2.2.2.1) 2 r27.2.2.2.2.1) 3 r29.2.2.2.2.1) 4 r31.2.2.2.2.1) 5 r33.2.2.2.2.1) 6 r35.2.2.2.2.1) 7 r37.2.2.2.2.1) 9) ((setN (setN (setN (setN (setN (setN (setN (setN o_kept_E_ys 0 r23.2.2.2.2.2) 1 r25.2.2.2.2.2) 2 r27.2.2.2.2.2) 3 r29.2.2.2.2.2) 4 r31.2.2.2.2.2) 5 r33.2.2.2.2.2) 6 r35.2.2.2.2.2) 7 r37.2.2.2.2.2) 9)  r39 c39) mw_X3_copyFrom ml_X2_22 ⟨Nat.le_of_ble_eq_true rfl, Nat.le_of_ble_eq_true rfl⟩ hP hD hS [34, 35, 36, 37, 38, 39, 40, 41] (by decide +kernel) rfl rfl 34 rfl rfl rfl hl.1 rfl (Nat.le_of_ble_eq_true rfl) dX2_remember_31 ⟨Nat.le_refl _, Nat.le_refl _⟩ rfl rfl (fun H locs hP hD hS => ?_)
    refine lv_iinc (v := 10) (lv' := [(2, .int 10), (0, .ref q_o), (1, .ref q_p1)]) hx hb dX2_remember_34 hl (k := 0) rfl (by decide) (by decide) rfl (fun ls hl => ?_)
    refine lv_goto (tgt := 11) hx hb dX2_remember_37 (by decide) ?_
    refine lv_iload_n hx hb dX2_remember_11 rfl (lv_at hl 0 rfl) ?_
    refine lv_bipush (v := 10) hx hb dX2_remember_12 (by decide) ?_
    refine lv_icmp_ge (tgt := 40) hx hb dX2_remember_14 (by decide) (fun _ => ?_) (fun b => absurd (by decide) b)
    refine lv_aload_n hx hb dX2_remember_40 rfl (lv_at hl 1 rfl) ?_
    refine lv_bipush (v := 9) hx hb dX2_remember_41 (by decide) ?_
    refine mputI X fl_X2_17 (ws1 := wX2_remember g q_o q_o_kept q_p1 q_p1_ws q_p1_xs q_p1_ys q_o_kept_E q_o_kept_E_ws q_o_kept_E_xs q_o_kept_E_ys 9 (setN (setN (setN (setN (setN (setN (setN (setN (setN o_kept_E_count 0 r23.1) 1 r25.1) 2 r27.1) 3 r29.1) 4 r31.1) 5 r33.1) 6 r35.1) 7 r37.1) 8 r39.1) (setN (setN (setN (setN (setN (setN (setN (setN (setN o_kept_E_mode 0 r23.2.2.1) 1 r25.2.2.1) 2 r27.2.2.1) 3 r29.2.2.1) 4 r31.2.2.1) 5 r33.2.2.1) 6 r35.2.2.1) 7 r37.2.2.1) 8 r39.2.2.1) (setN (setN (setN (setN (setN (setN (setN (setN (setN o_kept_E_degree 0 r23.2.1) 1 r25.2.1) 2 r27.2.1) 3 r29.2.1) 4 r31.2.1) 5 r33.2.1) 6 r35.2.1) 7 r37.2.1) 8 r39.2.1) (setN (setN (setN (setN (setN (setN (setN (setN (setN o_kept_E_ws 0 r23.2.2.2.1) 1 r25.2.2.2.1) 2 r27.2.2.2.1) 3 r29.2.2.2.1) 4 r31.2.2.2.1) 5 r33.2.2.2.1) 6 r35.2.2.2.1) 7 r37.2.2.2.1) 8 r39.2.2.2.1) (setN (setN (setN (setN (setN (setN (setN (setN (setN o_kept_E_xs 0 r23.2.2.2.2.1) 1 r25.2.2.2.2.1) 2 r27.2.2.2.2.1) 3 r29.2.2.2.2.1) 4 r31.2.2.2.2.1) 5 r33.2.2.2.2.1) 6 r35.2.2.2.2.1) 7 r37.2.2.2.2.1) 8 r39.2.2.2.2.1) (setN (setN (setN (setN (setN (setN (setN (setN (setN o_kept_E_ys 0 r23.2.2.2.2.2) 1 r25.2.2.2.2.2) 2 r27.2.2.2.2.2) 3 r29.2.2.2.2.2) 4 r31.2.2.2.2.2) 5 r33.2.2.2.2.2) 6 r35.2.2.2.2.2) 7 r37.2.2.2.2.2) 8 r39.2.2.2.2.2) p1_count p1_mode p1_degree p1_ws p1_xs p1_ys) hP hD hS 0 rfl rfl ⟨_, rfl, rfl⟩ dX2_remember_43 rfl (fun H locs hP hD hS => ?_)
    refine lv_aload_n hx hb dX2_remember_46 rfl (lv_at hl 1 rfl) ?_
    refine mget X fl_X2_11 hP 0 rfl rfl dX2_remember_47 ?_
    refine lv_aload_n hx hb dX2_remember_50 rfl (lv_at hl 1 rfl) ?_
    refine mget X fl_X2_17 hP 0 rfl rfl dX2_remember_51 ?_
    refine maldq X hP 1 rfl 9 (by decide) (by decide) dX2_remember_54 ?_
    refine lv_aload_n hx hb dX2_remember_55 rfl (lv_at hl 2 rfl) ?_
    obtain ⟨r41, c41, h⟩ := o_b h
    refine mcallV X (As := [.ref q_p1]) (rest := []) (ws1 := wX2_remember g q_o q_o_kept q_p1 q_p1_ws q_p1_xs q_p1_ys q_o_kept_E q_o_kept_E_ws q_o_kept_E_xs q_o_kept_E_ys 9 (setN (setN (setN (setN (setN (setN (setN (setN (setN (setN o_kept_E_count 0 r23.1) 1 r25.1) 2 r27.1) 3 r29.1) 4 r31.1) 5 r33.1) 6 r35.1) 7 r37.1) 8 r39.1) 9 r41.1) (setN (setN (setN (setN (setN (setN (setN (setN (setN (setN o_kept_E_mode 0 r23.2.2.1) 1 r25.2.2.1) 2 r27.2.2.1) 3 r29.2.2.1) 4 r31.2.2.1) 5 r33.2.2.1) 6 r35.2.2.1) 7 r37.2.2.1) 8 r39.2.2.1) 9 r41.2.2.1) (setN (setN (setN (setN (setN (setN (setN (setN (setN (setN o_kept_E_degree 0 r23.2.1) 1 r25.2.1) 2 r27.2.1) 3 r29.2.1) 4 r31.2.1) 5 r33.2.1) 6 r35.2.1) 7 r37.2.1) 8 r39.2.1) 9 r41.2.1) (setN (setN (setN (setN (setN (setN (setN (setN (setN (setN o_kept_E_ws 0 r23.2.2.2.1) 1 r25.2.2.2.1) 2 r27.2.2.2.1) 3 r29.2.2.2.1) 4 r31.2.2.2.1) 5 r33.2.2.2.1) 6 r35.2.2.2.1) 7 r37.2.2.2.1) 8 r39.2.2.2.1) 9 r41.2.2.2.1) (setN (setN (setN (setN (setN (setN (setN (setN (setN (setN o_kept_E_xs 0 r23.2.2.2.2.1) 1 r25.2.2.2.2.1) 2 r27.2.2.2.2.1) 3 r29.2.2.2.2.1) 4 r31.2.2.2.2.1) 5 r33.2.2.2.2.1) 6 r35.2.2.2.2.1) 7 r37.2.2.2.2.1) 8 r39.2.2.2.2.1) 9 r41.2.2.2.2.1) (setN (setN (setN (setN (setN (setN (setN (setN (setN (setN o_kept_E_ys 0 r23.2.2.2.2.2) 1 r25.2.2.2.2.2) 2 r27.2.2.2.2.2) 3 r29.2.2.2.2.2) 4 r31.2.2.2.2.2) 5 r33.2.2.2.2.2) 6 r35.2.2.2.2.2) 7 r37.2.2.2.2.2) 8 r39.2.2.2.2.2) 9 r41.2.2.2.2.2) p1_count p1_mode p1_degree p1_ws p1_xs p1_ys) (st1 := []) (kX3_copyFrom D g x l (q_o_kept_E 9) (q_o_kept_E_ws 9) (q_o_kept_E_xs 9) (q_o_kept_E_ys 9) q_p1 q_p1_ws q_p1_xs q_p1_ys ((setN (setN (setN (setN (setN (setN (setN (setN (setN o_kept_E_count 0 r23.1) 1 r25.1) 2 r27.1) 3 r29.1) 4 r31.1) 5 r33.1) 6 r35.1) 7 r37.1) 8 r39.1) 9) ((setN (setN (setN (setN (setN (setN (setN (setN (setN o_kept_E_mode 0 r23.2.2.1) 1 r25.2.2.1) 2 r27.2.2.1) 3 r29.2.2.1) 4 r31.2.2.1) 5 r33.2.2.1) 6 r35.2.2.1) 7 r37.2.2.1) 8 r39.2.2.1) 9) ((setN (setN (setN (setN (setN (setN (setN (setN (setN o_kept_E_degree 0 r23.2.1) 1 r25.2.1) 2 r27.2.1) 3 r29.2.1) 4 r31.2.1) 5 r33.2.1) 6 r35.2.1) 7 r37.2.1) 8 r39.2.1) 9) ((setN (setN (setN (setN (setN (setN (setN (setN (setN o_kept_E_ws 0 r23.2.2.2.1) 1 r25.2.2.2.1) 2 r27.2.2.2.1) 3 r29.2.2.2.1) 4 r31.2.2.2.1) 5 r33.2.2.2.1) 6 r35.2.2.2.1) 7 r37.2.2.2.1) 8 r39.2.2.2.1) 9) ((setN (setN (setN (setN (setN (setN (setN (setN (setN o_kept_E_xs 0 r23.2.2.2.2.1) 1 r25.2.2.2.2.1) 2 r27.2.2.2.2.1) 3 r29.2.2.2.2.1) 4 r31.2.2.2.2.1) 5 r33.2.2.2.2.1) 6 r35.2.2.2.2.1) 7 r37.2.2.2.2.1) 8 r39.2.2.2.2.1) 9) ((setN (setN (setN (setN (setN (setN (setN (setN (setN o_kept_E_ys 0 r23.2.2.2.2.2) 1 r25.2.2.2.2.2) 2 r27.2.2.2.2.2) 3 r29.2.2.2.2.2) 4 r31.2.2.2.2.2) 5 r33.2.2.2.2.2) 6 r35.2.2.2.2.2) 7 r37.2.2.2.2.2) 8 r39.2.2.2.2.2) 9) p1_count p1_mode p1_degree p1_ws p1_xs p1_ys  r41 c41) mw_X3_copyFrom ml_X2_22 ⟨Nat.le_of_ble_eq_true rfl, Nat.le_of_ble_eq_true rfl⟩ hP hD hS [38, 39, 40, 41, 42, 43, 44, 45] (by decide +kernel) rfl rfl 38 rfl rfl rfl hl.1 rfl (Nat.le_of_ble_eq_true rfl) dX2_remember_56 ⟨Nat.le_refl _, Nat.le_refl _⟩ rfl rfl (fun H locs hP hD hS => ?_)
    refine lv_aload_n hx hb dX2_remember_59 rfl (lv_at hl 1 rfl) ?_
    refine lv_dup hx hb dX2_remember_60 rfl ?_
    refine mget X fl_X2_17 hP 0 rfl rfl dX2_remember_61 ?_
    refine lv_iconst (v := 1) hx hb dX2_remember_64 (by decide) ?_
    refine lv_iadd hx hb dX2_remember_65 ?_
    refine mputI X fl_X2_17 (ws1 := wX2_remember g q_o q_o_kept q_p1 q_p1_ws q_p1_xs q_p1_ys q_o_kept_E q_o_kept_E_ws q_o_kept_E_xs q_o_kept_E_ys (9 + 1) (setN (setN (setN (setN (setN (setN (setN (setN (setN (setN o_kept_E_count 0 r23.1) 1 r25.1) 2 r27.1) 3 r29.1) 4 r31.1) 5 r33.1) 6 r35.1) 7 r37.1) 8 r39.1) 9 r41.1) (setN (setN (setN (setN (setN (setN (setN (setN (setN (setN o_kept_E_mode 0 r23.2.2.1) 1 r25.2.2.1) 2 r27.2.2.1) 3 r29.2.2.1) 4 r31.2.2.1) 5 r33.2.2.1) 6 r35.2.2.1) 7 r37.2.2.1) 8 r39.2.2.1) 9 r41.2.2.1) (setN (setN (setN (setN (setN (setN (setN (setN (setN (setN o_kept_E_degree 0 r23.2.1) 1 r25.2.1) 2 r27.2.1) 3 r29.2.1) 4 r31.2.1) 5 r33.2.1) 6 r35.2.1) 7 r37.2.1) 8 r39.2.1) 9 r41.2.1) (setN (setN (setN (setN (setN (setN (setN (setN (setN (setN o_kept_E_ws 0 r23.2.2.2.1) 1 r25.2.2.2.1) 2 r27.2.2.2.1) 3 r29.2.2.2.1) 4 r31.2.2.2.1) 5 r33.2.2.2.1) 6 r35.2.2.2.1) 7 r37.2.2.2.1) 8 r39.2.2.2.1) 9 r41.2.2.2.1) (setN (setN (setN (setN (setN (setN (setN (setN (setN (setN o_kept_E_xs 0 r23.2.2.2.2.1) 1 r25.2.2.2.2.1) 2 r27.2.2.2.2.1) 3 r29.2.2.2.2.1) 4 r31.2.2.2.2.1) 5 r33.2.2.2.2.1) 6 r35.2.2.2.2.1) 7 r37.2.2.2.2.1) 8 r39.2.2.2.2.1) 9 r41.2.2.2.2.1) (setN (setN (setN (setN (setN (setN (setN (setN (setN (setN o_kept_E_ys 0 r23.2.2.2.2.2) 1 r25.2.2.2.2.2) 2 r27.2.2.2.2.2) 3 r29.2.2.2.2.2) 4 r31.2.2.2.2.2) 5 r33.2.2.2.2.2) 6 r35.2.2.2.2.2) 7 r37.2.2.2.2.2) 8 r39.2.2.2.2.2) 9 r41.2.2.2.2.2) p1_count p1_mode p1_degree p1_ws p1_xs p1_ys) hP hD hS 0 rfl rfl ⟨_, rfl, rfl⟩ dX2_remember_66 rfl (fun H locs hP hD hS => ?_)
    cases h
    exact fin _ _ _ _ hP hS dX2_remember_69
