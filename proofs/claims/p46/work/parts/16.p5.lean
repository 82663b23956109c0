abbrev wX5_hasRoomFor (g : Nat → ClassId) (q_o q_o_bytes : Nat)  (o_filled : Int32) (o_length : Int32) (o_token : Int32) (o_start : Int32) (o_next : Int32) (o_faultKind : Int32) (o_faultPosition : Int32) : va_W := [(q_o, .inr (5, [.ref q_o_bytes, .int o_filled, .int o_length, .int o_token, .int o_start, .int o_next, .int o_faultKind, .int o_faultPosition]))]
set_option maxHeartbeats 4000000 in
set_option maxRecDepth 100000 in
theorem kX5_hasRoomFor (D : va_G) (g : Nat → ClassId) (x : Xd) (l : Launch) (q_o q_o_bytes : Nat)  (o_filled : Int32) (o_length : Int32) (o_token : Int32) (o_start : Int32) (o_next : Int32) (o_faultKind : Int32) (o_faultPosition : Int32) (p1 : Int32) (R : Int32) (h : mX5_hasRoomFor o_filled p1 = some R) : Cn D g x l yX5_hasRoomFor cX5_hasRoomFor 2 (some .boolean) 0 0 [.ref q_o, .int p1] (wX5_hasRoomFor g q_o q_o_bytes o_filled o_length o_token o_start o_next o_faultKind o_faultPosition) (wX5_hasRoomFor g q_o q_o_bytes o_filled o_length o_token o_start o_next o_faultKind o_faultPosition) (some (.int R)) := by
  refine CnI (by decide +kernel) (Nat.le_of_ble_eq_true rfl) (fun p e s m args below meth c A Q ls X hD hP hS fin hl => ?_)
  obtain ⟨hx, hb, hml, -, -, hown, hts, hK, hA, hE⟩ := id X
  unfold mX5_hasRoomFor at h
  have hl : lv_has ls 2 [(0, .ref q_o), (1, .int p1)] := hl
  refine lv_aload_n hx hb dX5_hasRoomFor_0 rfl (lv_at hl 0 rfl) ?_
  refine mget X fl_X5_15 hP 0 rfl rfl dX5_hasRoomFor_1 ?_
  refine lv_iload_n hx hb dX5_hasRoomFor_4 rfl (lv_at hl 1 rfl) ?_
  refine lv_iadd hx hb dX5_hasRoomFor_5 ?_
  refine lv_sipush (v := 400) hx hb dX5_hasRoomFor_6 (by decide) ?_
  refine lv_icmp_gt (tgt := 16) hx hb dX5_hasRoomFor_9 (by decide) (fun b1 => ?_) (fun b1 => ?_)
  · have h := o_t b1 h
    refine lv_iconst (v := 0) hx hb dX5_hasRoomFor_16 (by decide) ?_
    cases h
    exact fin _ _ _ _ (nar_z (Or.inl rfl)) hP hS dX5_hasRoomFor_17
  · have h := o_f b1 h
    refine lv_iconst (v := 1) hx hb dX5_hasRoomFor_12 (by decide) ?_
    refine lv_goto (tgt := 17) hx hb dX5_hasRoomFor_13 (by decide) ?_
    cases h
    exact fin _ _ _ _ (nar_z (Or.inr rfl)) hP hS dX5_hasRoomFor_17
abbrev wX5_append (g : Nat → ClassId) (q_o q_o_bytes : Nat)  (o_filled : Int32) (o_length : Int32) (o_token : Int32) (o_start : Int32) (o_next : Int32) (o_faultKind : Int32) (o_faultPosition : Int32) (o_bytes : Nat → Int32) : va_W := [(q_o, .inr (5, [.ref q_o_bytes, .int o_filled, .int o_length, .int o_token, .int o_start, .int o_next, .int o_faultKind, .int o_faultPosition])), (q_o_bytes, .inl (g 0, 400, .inl o_bytes))]
set_option maxHeartbeats 4000000 in
set_option maxRecDepth 100000 in
theorem kX5_append (D : va_G) (g : Nat → ClassId) (x : Xd) (l : Launch) (q_o q_o_bytes : Nat)  (o_filled : Int32) (o_length : Int32) (o_token : Int32) (o_start : Int32) (o_next : Int32) (o_faultKind : Int32) (o_faultPosition : Int32) (o_bytes : Nat → Int32) (p1 : Int32) (R : (Nat → Int32) × Int32) (h : mX5_append o_bytes o_filled p1 = some R) : Cn D g x l yX5_append cX5_append 3 none 0 0 [.ref q_o, .int p1] (wX5_append g q_o q_o_bytes o_filled o_length o_token o_start o_next o_faultKind o_faultPosition o_bytes) (wX5_append g q_o q_o_bytes R.2 o_length o_token o_start o_next o_faultKind o_faultPosition R.1) none := by
  refine CnV (by decide +kernel) (Nat.le_of_ble_eq_true rfl) (fun p e s m args below meth c A Q ls X hD hP hS fin hl => ?_)
  obtain ⟨hx, hb, hml, -, -, hown, hts, hK, hA, hE⟩ := id X
  unfold mX5_append at h
  have hl : lv_has ls 3 [(0, .ref q_o), (1, .int p1)] := hl
  refine lv_bipush (v := 24) hx hb dX5_append_0 (by decide) ?_
  refine lv_istore_n (lv' := [(2, .int 24), (0, .ref q_o), (1, .int p1)]) hx hb dX5_append_2 rfl hl (by decide) rfl (fun ls hl => ?_)
  have lp1 : ∀ (n : Nat) (v1_2 : Int32) (u1_o_bytes : Nat → Int32) (u1_o_filled : Int32) (R1 : (Nat → Int32) × Int32) (h : lX5_append_3 p1 n v1_2 u1_o_bytes u1_o_filled = some R1) (H : Heap) (locs : List Loc), va_P D vwCl (wX5_append g q_o q_o_bytes u1_o_filled o_length o_token o_start o_next o_faultKind o_faultPosition u1_o_bytes) H → va_D A (wX5_append g q_o q_o_bytes u1_o_filled o_length o_token o_start o_next o_faultKind o_faultPosition u1_o_bytes) → va_S A s.heap H locs → ∀ (ls : Array Slot), lv_has ls 3 [(0, .ref q_o), (1, .int p1), (2, .int v1_2)] → (∀ (H : Heap) (locs : List Loc) (ls : Array Slot), va_P D vwCl (wX5_append g q_o q_o_bytes R1.2 o_length o_token o_start o_next o_faultKind o_faultPosition R1.1) H → va_D A (wX5_append g q_o q_o_bytes R1.2 o_length o_token o_start o_next o_faultKind o_faultPosition R1.1) → va_S A s.heap H locs → lv_has ls 3 [] → W p l e (rmF 0 0) s m args below meth c H locs 0 0 Q (F0 m 49 ls [])) → W p l e (rmF 0 0) s m args below meth c H locs 0 0 Q (F0 m 3 ls []) := by
    intro n
    induction n with
    | zero =>
      intro v1_2 u1_o_bytes u1_o_filled R1 h
      have h : none = some R1 := h
      cases h
    | succ n ih1 =>
      intro v1_2 u1_o_bytes u1_o_filled R1 h H locs hP hD hS ls hl K1_0
      have h : (if v1_2 < 0 then some (u1_o_bytes, u1_o_filled) else if 400 ≤ u1_o_filled then some (u1_o_bytes, u1_o_filled) else if u1_o_filled < 0 ∨ 400 ≤ Int32.toNatClampNeg u1_o_filled then none else lX5_append_3 p1 n (v1_2 + (-8)) (upd u1_o_bytes (Int32.toNatClampNeg u1_o_filled) (((p1.toUInt32 >>> (Int32.toUInt32 v1_2 &&& Int32.toUInt32 31)).toInt32) &&& 255)) (u1_o_filled + 1) : Option ((Nat → Int32) × Int32)) = some R1 := h
      refine lv_iload_n hx hb dX5_append_3 rfl (lv_at hl 2 rfl) ?_
      refine lv_if_lt (tgt := 49) hx hb dX5_append_4 (by decide) (fun b2 => ?_) (fun b2 => ?_)
      · have h := o_t b2 h
        cases h
        exact K1_0  _ _ _ hP hD hS (lv_sub hl [] rfl)
      · have h := o_f b2 h
        refine lv_aload_n hx hb dX5_append_7 rfl (lv_at hl 0 rfl) ?_
        refine mget X fl_X5_15 hP 0 rfl rfl dX5_append_8 ?_
        refine lv_sipush (v := 400) hx hb dX5_append_11 (by decide) ?_
        refine lv_icmp_ge (tgt := 49) hx hb dX5_append_14 (by decide) (fun b3 => ?_) (fun b3 => ?_)
        · have h := o_t b3 h
          cases h
          exact K1_0  _ _ _ hP hD hS (lv_sub hl [] rfl)
        · have h := o_f b3 h
          refine lv_aload_n hx hb dX5_append_17 rfl (lv_at hl 0 rfl) ?_
          refine mget X fl_X5_9 hP 0 rfl rfl dX5_append_18 ?_
          refine lv_aload_n hx hb dX5_append_21 rfl (lv_at hl 0 rfl) ?_
          refine mget X fl_X5_15 hP 0 rfl rfl dX5_append_22 ?_
          refine lv_iload_n hx hb dX5_append_25 rfl (lv_at hl 1 rfl) ?_
          refine lv_iload_n hx hb dX5_append_26 rfl (lv_at hl 2 rfl) ?_
          refine lv_iushr (v := (p1.toUInt32 >>> (Int32.toUInt32 v1_2 &&& Int32.toUInt32 31)).toInt32) hx hb dX5_append_27 rfl ?_
          refine lv_sipush (v := 255) hx hb dX5_append_28 (by decide) ?_
          refine lv_iand hx hb dX5_append_31 ?_
          obtain ⟨b4, h⟩ := o_no h
          refine mist X (ws1 := wX5_append g q_o q_o_bytes u1_o_filled o_length o_token o_start o_next o_faultKind o_faultPosition (upd u1_o_bytes (Int32.toNatClampNeg u1_o_filled) (((p1.toUInt32 >>> (Int32.toUInt32 v1_2 &&& Int32.toUInt32 31)).toInt32) &&& 255))) hP hD hS 1 rfl b4 dX5_append_32 rfl (fun H locs hP hD hS => ?_)
          refine lv_aload_n hx hb dX5_append_33 rfl (lv_at hl 0 rfl) ?_
          refine lv_dup hx hb dX5_append_34 rfl ?_
          refine mget X fl_X5_15 hP 0 rfl rfl dX5_append_35 ?_
          refine lv_iconst (v := 1) hx hb dX5_append_38 (by decide) ?_
          refine lv_iadd hx hb dX5_append_39 ?_
          refine mputI X fl_X5_15 (ws1 := wX5_append g q_o q_o_bytes (u1_o_filled + 1) o_length o_token o_start o_next o_faultKind o_faultPosition (upd u1_o_bytes (Int32.toNatClampNeg u1_o_filled) (((p1.toUInt32 >>> (Int32.toUInt32 v1_2 &&& Int32.toUInt32 31)).toInt32) &&& 255))) hP hD hS 0 rfl rfl ⟨_, rfl, rfl⟩ dX5_append_40 rfl (fun H locs hP hD hS => ?_)
          refine lv_iinc (v := v1_2 + (-8)) (lv' := [(2, .int (v1_2 + (-8))), (0, .ref q_o), (1, .int p1)]) hx hb dX5_append_43 hl (k := 2) rfl rfl (by decide) rfl (fun ls hl => ?_)
          refine lv_goto (tgt := 3) hx hb dX5_append_46 (by decide) ?_
          exact ih1 (v1_2 + (-8)) (upd u1_o_bytes (Int32.toNatClampNeg u1_o_filled) (((p1.toUInt32 >>> (Int32.toUInt32 v1_2 &&& Int32.toUInt32 31)).toInt32) &&& 255)) (u1_o_filled + 1) _ h _ _ hP hD hS _ (lv_sub hl [1, 2, 0] rfl) K1_0
  obtain ⟨r5, c5, h⟩ := o_b h
  refine lp1 FU 24 o_bytes o_filled r5 c5 _ _ hP hD hS _ (lv_sub hl [1, 2, 0] rfl) (fun H locs ls hP hD hS hl => ?_)
  cases h
  exact fin _ _ _ _ hP hS dX5_append_49
abbrev wX5_filled (g : Nat → ClassId) (q_o q_o_bytes : Nat)  (o_filled : Int32) (o_length : Int32) (o_token : Int32) (o_start : Int32) (o_next : Int32) (o_faultKind : Int32) (o_faultPosition : Int32) : va_W := [(q_o, .inr (5, [.ref q_o_bytes, .int o_filled, .int o_length, .int o_token, .int o_start, .int o_next, .int o_faultKind, .int o_faultPosition]))]
set_option maxHeartbeats 4000000 in
set_option maxRecDepth 100000 in
theorem kX5_filled (D : va_G) (g : Nat → ClassId) (x : Xd) (l : Launch) (q_o q_o_bytes : Nat)  (o_filled : Int32) (o_length : Int32) (o_token : Int32) (o_start : Int32) (o_next : Int32) (o_faultKind : Int32) (o_faultPosition : Int32) (R : Int32) (h : mX5_filled o_filled = some R) : Cn D g x l yX5_filled cX5_filled 1 (some .int) 0 0 [.ref q_o] (wX5_filled g q_o q_o_bytes o_filled o_length o_token o_start o_next o_faultKind o_faultPosition) (wX5_filled g q_o q_o_bytes o_filled o_length o_token o_start o_next o_faultKind o_faultPosition) (some (.int R)) := by
  refine CnI (by decide +kernel) (Nat.le_of_ble_eq_true rfl) (fun p e s m args below meth c A Q ls X hD hP hS fin hl => ?_)
  obtain ⟨hx, hb, hml, -, -, hown, hts, hK, hA, hE⟩ := id X
  unfold mX5_filled at h
  have hl : lv_has ls 1 [(0, .ref q_o)] := hl
  refine lv_aload_n hx hb dX5_filled_0 rfl (lv_at hl 0 rfl) ?_
  refine mget X fl_X5_15 hP 0 rfl rfl dX5_filled_1 ?_
  cases h
  exact fin _ _ _ _ rfl hP hS dX5_filled_4
abbrev wX5_byteAt (g : Nat → ClassId) (q_o q_o_bytes : Nat)  (o_filled : Int32) (o_length : Int32) (o_token : Int32) (o_start : Int32) (o_next : Int32) (o_faultKind : Int32) (o_faultPosition : Int32) (o_bytes : Nat → Int32) : va_W := [(q_o, .inr (5, [.ref q_o_bytes, .int o_filled, .int o_length, .int o_token, .int o_start, .int o_next, .int o_faultKind, .int o_faultPosition])), (q_o_bytes, .inl (g 0, 400, .inl o_bytes))]
set_option maxHeartbeats 4000000 in
set_option maxRecDepth 100000 in
theorem kX5_byteAt (D : va_G) (g : Nat → ClassId) (x : Xd) (l : Launch) (q_o q_o_bytes : Nat)  (o_filled : Int32) (o_length : Int32) (o_token : Int32) (o_start : Int32) (o_next : Int32) (o_faultKind : Int32) (o_faultPosition : Int32) (o_bytes : Nat → Int32) (p1 : Int32) (R : Int32) (h : mX5_byteAt o_bytes o_length p1 = some R) : Cn D g x l yX5_byteAt cX5_byteAt 2 (some .int) 0 0 [.ref q_o, .int p1] (wX5_byteAt g q_o q_o_bytes o_filled o_length o_token o_start o_next o_faultKind o_faultPosition o_bytes) (wX5_byteAt g q_o q_o_bytes o_filled o_length o_token o_start o_next o_faultKind o_faultPosition o_bytes) (some (.int R)) := by
  refine CnI (by decide +kernel) (Nat.le_of_ble_eq_true rfl) (fun p e s m args below meth c A Q ls X hD hP hS fin hl => ?_)
  obtain ⟨hx, hb, hml, -, -, hown, hts, hK, hA, hE⟩ := id X
  unfold mX5_byteAt at h
  have hl : lv_has ls 2 [(0, .ref q_o), (1, .int p1)] := hl
  refine lv_iload_n hx hb dX5_byteAt_0 rfl (lv_at hl 1 rfl) ?_
  refine lv_if_lt (tgt := 28) hx hb dX5_byteAt_1 (by decide) (fun b1 => ?_) (fun b1 => ?_)
  · have h := o_t b1 h
    refine lv_iconst (v := 0) hx hb dX5_byteAt_28 (by decide) ?_
    cases h
    exact fin _ _ _ _ rfl hP hS dX5_byteAt_29
  · have h := o_f b1 h
    refine lv_iload_n hx hb dX5_byteAt_4 rfl (lv_at hl 1 rfl) ?_
    refine lv_aload_n hx hb dX5_byteAt_5 rfl (lv_at hl 0 rfl) ?_
    refine mget X fl_X5_19 hP 0 rfl rfl dX5_byteAt_6 ?_
    refine lv_icmp_ge (tgt := 28) hx hb dX5_byteAt_9 (by decide) (fun b2 => ?_) (fun b2 => ?_)
    · have h := o_t b2 h
      refine lv_iconst (v := 0) hx hb dX5_byteAt_28 (by decide) ?_
      cases h
      exact fin _ _ _ _ rfl hP hS dX5_byteAt_29
    · have h := o_f b2 h
      refine lv_iload_n hx hb dX5_byteAt_12 rfl (lv_at hl 1 rfl) ?_
      refine lv_sipush (v := 400) hx hb dX5_byteAt_13 (by decide) ?_
      refine lv_icmp_ge (tgt := 28) hx hb dX5_byteAt_16 (by decide) (fun b3 => ?_) (fun b3 => ?_)
      · have h := o_t b3 h
        refine lv_iconst (v := 0) hx hb dX5_byteAt_28 (by decide) ?_
        cases h
        exact fin _ _ _ _ rfl hP hS dX5_byteAt_29
      · have h := o_f b3 h
        refine lv_aload_n hx hb dX5_byteAt_19 rfl (lv_at hl 0 rfl) ?_
        refine mget X fl_X5_9 hP 0 rfl rfl dX5_byteAt_20 ?_
        refine lv_iload_n hx hb dX5_byteAt_23 rfl (lv_at hl 1 rfl) ?_
        obtain ⟨b4, h⟩ := o_no h
        refine mild X hP 1 rfl b4 dX5_byteAt_24 ?_
        refine lv_goto (tgt := 29) hx hb dX5_byteAt_25 (by decide) ?_
        cases h
        exact fin _ _ _ _ rfl hP hS dX5_byteAt_29
abbrev wX5_isLetter (g : Nat → ClassId)   : va_W := []
set_option maxHeartbeats 4000000 in
set_option maxRecDepth 100000 in
theorem kX5_isLetter (D : va_G) (g : Nat → ClassId) (x : Xd) (l : Launch) (p1 : Int32) (R : Int32) (h : mX5_isLetter p1 = some R) : Cn D g x l yX5_isLetter cX5_isLetter 1 (some .boolean) 0 0 [.int p1] (wX5_isLetter g  ) (wX5_isLetter g  ) (some (.int R)) := by
  refine CnI (by decide +kernel) (Nat.le_of_ble_eq_true rfl) (fun p e s m args below meth c A Q ls X hD hP hS fin hl => ?_)
  obtain ⟨hx, hb, hml, -, -, hown, hts, hK, hA, hE⟩ := id X
  unfold mX5_isLetter at h
  have hl : lv_has ls 1 [(0, .int p1)] := hl
  refine lv_iload_n hx hb dX5_isLetter_0 rfl (lv_at hl 0 rfl) ?_
  refine lv_bipush (v := 97) hx hb dX5_isLetter_1 (by decide) ?_
  refine lv_icmp_lt (tgt := 16) hx hb dX5_isLetter_3 (by decide) (fun b1 => ?_) (fun b1 => ?_)
  · have h := o_t b1 h
    refine lv_iconst (v := 0) hx hb dX5_isLetter_16 (by decide) ?_
    cases h
    exact fin _ _ _ _ (nar_z (Or.inl rfl)) hP hS dX5_isLetter_17
  · have h := o_f b1 h
    refine lv_iload_n hx hb dX5_isLetter_6 rfl (lv_at hl 0 rfl) ?_
    refine lv_bipush (v := 122) hx hb dX5_isLetter_7 (by decide) ?_
    refine lv_icmp_gt (tgt := 16) hx hb dX5_isLetter_9 (by decide) (fun b2 => ?_) (fun b2 => ?_)
    · have h := o_t b2 h
      refine lv_iconst (v := 0) hx hb dX5_isLetter_16 (by decide) ?_
      cases h
      exact fin _ _ _ _ (nar_z (Or.inl rfl)) hP hS dX5_isLetter_17
    · have h := o_f b2 h
      refine lv_iconst (v := 1) hx hb dX5_isLetter_12 (by decide) ?_
      refine lv_goto (tgt := 17) hx hb dX5_isLetter_13 (by decide) ?_
      cases h
      exact fin _ _ _ _ (nar_z (Or.inr rfl)) hP hS dX5_isLetter_17
abbrev wX5_isDigit (g : Nat → ClassId)   : va_W := []
set_option maxHeartbeats 4000000 in
set_option maxRecDepth 100000 in
theorem kX5_isDigit (D : va_G) (g : Nat → ClassId) (x : Xd) (l : Launch) (p1 : Int32) (R : Int32) (h : mX5_isDigit p1 = some R) : Cn D g x l yX5_isDigit cX5_isDigit 1 (some .boolean) 0 0 [.int p1] (wX5_isDigit g  ) (wX5_isDigit g  ) (some (.int R)) := by
  refine CnI (by decide +kernel) (Nat.le_of_ble_eq_true rfl) (fun p e s m args below meth c A Q ls X hD hP hS fin hl => ?_)
  obtain ⟨hx, hb, hml, -, -, hown, hts, hK, hA, hE⟩ := id X
  unfold mX5_isDigit at h
  have hl : lv_has ls 1 [(0, .int p1)] := hl
  refine lv_iload_n hx hb dX5_isDigit_0 rfl (lv_at hl 0 rfl) ?_
  refine lv_bipush (v := 48) hx hb dX5_isDigit_1 (by decide) ?_
  refine lv_icmp_lt (tgt := 16) hx hb dX5_isDigit_3 (by decide) (fun b1 => ?_) (fun b1 => ?_)
  · have h := o_t b1 h
    refine lv_iconst (v := 0) hx hb dX5_isDigit_16 (by decide) ?_
    cases h
    exact fin _ _ _ _ (nar_z (Or.inl rfl)) hP hS dX5_isDigit_17
  · have h := o_f b1 h
    refine lv_iload_n hx hb dX5_isDigit_6 rfl (lv_at hl 0 rfl) ?_
    refine lv_bipush (v := 57) hx hb dX5_isDigit_7 (by decide) ?_
    refine lv_icmp_gt (tgt := 16) hx hb dX5_isDigit_9 (by decide) (fun b2 => ?_) (fun b2 => ?_)
    · have h := o_t b2 h
      refine lv_iconst (v := 0) hx hb dX5_isDigit_16 (by decide) ?_
      cases h
      exact fin _ _ _ _ (nar_z (Or.inl rfl)) hP hS dX5_isDigit_17
    · have h := o_f b2 h
      refine lv_iconst (v := 1) hx hb dX5_isDigit_12 (by decide) ?_
      refine lv_goto (tgt := 17) hx hb dX5_isDigit_13 (by decide) ?_
      cases h
      exact fin _ _ _ _ (nar_z (Or.inr rfl)) hP hS dX5_isDigit_17
abbrev wX5_step (g : Nat → ClassId) (q_o q_o_bytes : Nat)  (o_filled : Int32) (o_length : Int32) (o_token : Int32) (o_start : Int32) (o_next : Int32) (o_faultKind : Int32) (o_faultPosition : Int32) (o_bytes : Nat → Int32) : va_W := [(q_o, .inr (5, [.ref q_o_bytes, .int o_filled, .int o_length, .int o_token, .int o_start, .int o_next, .int o_faultKind, .int o_faultPosition])), (q_o_bytes, .inl (g 0, 400, .inl o_bytes))]
set_option maxHeartbeats 4000000 in
set_option maxRecDepth 100000 in
theorem kX5_step (D : va_G) (g : Nat → ClassId) (x : Xd) (l : Launch) (q_o q_o_bytes : Nat)  (o_filled : Int32) (o_length : Int32) (o_token : Int32) (o_start : Int32) (o_next : Int32) (o_faultKind : Int32) (o_faultPosition : Int32) (o_bytes : Nat → Int32) (R : Int32 × Int32 × Int32) (h : mX5_step o_bytes o_length o_next o_start o_token = some R) : Cn D g x l yX5_step cX5_step 5 none 1 21 [.ref q_o] (wX5_step g q_o q_o_bytes o_filled o_length o_token o_start o_next o_faultKind o_faultPosition o_bytes) (wX5_step g q_o q_o_bytes o_filled o_length R.2.2 R.2.1 R.1 o_faultKind o_faultPosition o_bytes) none := by
  refine CnV (by decide +kernel) (Nat.le_of_ble_eq_true rfl) (fun p e s m args below meth c A Q ls X hD hP hS fin hl => ?_)
  obtain ⟨hx, hb, hml, -, -, hown, hts, hK, hA, hE⟩ := id X
  unfold mX5_step at h
  have hl : lv_has ls 5 [(0, .ref q_o)] := hl
  refine lv_aload_n hx hb dX5_step_0 rfl (lv_at hl 0 rfl) ?_
  refine lv_aload_n hx hb dX5_step_1 rfl (lv_at hl 0 rfl) ?_
  refine mget X fl_X5_28 hP 0 rfl rfl dX5_step_2 ?_
  refine mputI X fl_X5_25 (ws1 := wX5_step g q_o q_o_bytes o_filled o_length o_token o_next o_next o_faultKind o_faultPosition o_bytes) hP hD hS 0 rfl rfl ⟨_, rfl, rfl⟩ dX5_step_5 rfl (fun H locs hP hD hS => ?_)
  refine lv_aload_n hx hb dX5_step_8 rfl (lv_at hl 0 rfl) ?_
  refine mget X fl_X5_28 hP 0 rfl rfl dX5_step_9 ?_
  refine lv_istore_n (lv' := [(1, .int o_next), (0, .ref q_o)]) hx hb dX5_step_12 rfl hl (by decide) rfl (fun ls hl => ?_)
  have lp1 : ∀ (n : Nat) (v1_1 : Int32) (u1_o_start : Int32) (R1 : Int32) (h : lX5_step_13 o_length o_bytes n v1_1 u1_o_start = some R1) (H : Heap) (locs : List Loc), va_P D vwCl (wX5_step g q_o q_o_bytes o_filled o_length o_token u1_o_start o_next o_faultKind o_faultPosition o_bytes) H → va_D A (wX5_step g q_o q_o_bytes o_filled o_length o_token u1_o_start o_next o_faultKind o_faultPosition o_bytes) → va_S A s.heap H locs → ∀ (ls : Array Slot), lv_has ls 5 [(0, .ref q_o), (1, .int v1_1)] → (∀ (H : Heap) (locs : List Loc) (ls : Array Slot), va_P D vwCl (wX5_step g q_o q_o_bytes o_filled o_length o_token R1 o_next o_faultKind o_faultPosition o_bytes) H → va_D A (wX5_step g q_o q_o_bytes o_filled o_length o_token R1 o_next o_faultKind o_faultPosition o_bytes) → va_S A s.heap H locs → lv_has ls 5 [(0, .ref q_o)] → W p l e (rmF 1 21) s m args below meth c H locs 0 0 Q (F0 m 54 ls [])) → W p l e (rmF 1 21) s m args below meth c H locs 0 0 Q (F0 m 13 ls []) := by
    intro n
    induction n with
    | zero =>
      intro v1_1 u1_o_start R1 h
      have h : none = some R1 := h
      cases h
    | succ n ih1 =>
      intro v1_1 u1_o_start R1 h H locs hP hD hS ls hl K1_0
      have h : (if o_length ≤ v1_1 then some u1_o_start else (mX5_byteAt o_bytes o_length v1_1).bind fun r3 => if r3 = 32 then lX5_step_13 o_length o_bytes n (v1_1 + 1) (v1_1 + 1) else (mX5_byteAt o_bytes o_length v1_1).bind fun r5 => if r5 = 10 then lX5_step_13 o_length o_bytes n (v1_1 + 1) (v1_1 + 1) else some u1_o_start : Option (Int32)) = some R1 := h
      refine lv_iload_n hx hb dX5_step_13 rfl (lv_at hl 1 rfl) ?_
      refine lv_aload_n hx hb dX5_step_14 rfl (lv_at hl 0 rfl) ?_
      refine mget X fl_X5_19 hP 0 rfl rfl dX5_step_15 ?_
      refine lv_icmp_ge (tgt := 54) hx hb dX5_step_18 (by decide) (fun b2 => ?_) (fun b2 => ?_)
      · have h := o_t b2 h
        cases h
        exact K1_0  _ _ _ hP hD hS (lv_sub hl [0] rfl)
      · have h := o_f b2 h
        refine lv_aload_n hx hb dX5_step_21 rfl (lv_at hl 0 rfl) ?_
        refine lv_iload_n hx hb dX5_step_22 rfl (lv_at hl 1 rfl) ?_
        obtain ⟨r3, c3, h⟩ := o_b h
        refine mcallV X (As := [.int v1_1]) (rest := []) (ws1 := wX5_step g q_o q_o_bytes o_filled o_length o_token u1_o_start o_next o_faultKind o_faultPosition o_bytes) (st1 := [.int r3]) (kX5_byteAt D g x l q_o q_o_bytes o_filled o_length o_token u1_o_start o_next o_faultKind o_faultPosition o_bytes v1_1 r3 c3) mw_X5_byteAt ml_X5_97 ⟨Nat.le_of_ble_eq_true rfl, Nat.le_of_ble_eq_true rfl⟩ hP hD hS [0, 1] (by decide +kernel) rfl rfl 0 rfl rfl rfl hl.1 rfl (Nat.le_of_ble_eq_true rfl) dX5_step_23 ⟨Nat.le_refl _, Nat.le_refl _⟩ rfl rfl (fun H locs hP hD hS => ?_)
        refine lv_bipush (v := 32) hx hb dX5_step_26 (by decide) ?_
        refine lv_icmp_eq (tgt := 41) hx hb dX5_step_28 (by decide) (fun b4 => ?_) (fun b4 => ?_)
        · have h := o_t b4 h
          refine lv_aload_n hx hb dX5_step_41 rfl (lv_at hl 0 rfl) ?_
          refine lv_iload_n hx hb dX5_step_42 rfl (lv_at hl 1 rfl) ?_
          refine lv_iconst (v := 1) hx hb dX5_step_43 (by decide) ?_
          refine lv_iadd hx hb dX5_step_44 ?_
          refine mputI X fl_X5_25 (ws1 := wX5_step g q_o q_o_bytes o_filled o_length o_token (v1_1 + 1) o_next o_faultKind o_faultPosition o_bytes) hP hD hS 0 rfl rfl ⟨_, rfl, rfl⟩ dX5_step_45 rfl (fun H locs hP hD hS => ?_)
          refine lv_iinc (v := v1_1 + 1) (lv' := [(1, .int (v1_1 + 1)), (0, .ref q_o)]) hx hb dX5_step_48 hl (k := 1) rfl rfl (by decide) rfl (fun ls hl => ?_)
          refine lv_goto (tgt := 13) hx hb dX5_step_51 (by decide) ?_
          exact ih1 (v1_1 + 1) (v1_1 + 1) _ h _ _ hP hD hS _ (lv_sub hl [1, 0] rfl) K1_0
        · have h := o_f b4 h
          refine lv_aload_n hx hb dX5_step_31 rfl (lv_at hl 0 rfl) ?_
          refine lv_iload_n hx hb dX5_step_32 rfl (lv_at hl 1 rfl) ?_
          obtain ⟨r5, c5, h⟩ := o_b h
          refine mcallV X (As := [.int v1_1]) (rest := []) (ws1 := wX5_step g q_o q_o_bytes o_filled o_length o_token u1_o_start o_next o_faultKind o_faultPosition o_bytes) (st1 := [.int r5]) (kX5_byteAt D g x l q_o q_o_bytes o_filled o_length o_token u1_o_start o_next o_faultKind o_faultPosition o_bytes v1_1 r5 c5) mw_X5_byteAt ml_X5_97 ⟨Nat.le_of_ble_eq_true rfl, Nat.le_of_ble_eq_true rfl⟩ hP hD hS [0, 1] (by decide +kernel) rfl rfl 0 rfl rfl rfl hl.1 rfl (Nat.le_of_ble_eq_true rfl) dX5_step_33 ⟨Nat.le_refl _, Nat.le_refl _⟩ rfl rfl (fun H locs hP hD hS => ?_)
          refine lv_bipush (v := 10) hx hb dX5_step_36 (by decide) ?_
          refine lv_icmp_ne (tgt := 54) hx hb dX5_step_38 (by decide) (fun b6 => ?_) (fun b6 => ?_)
          · have h := o_f b6 h
            cases h
            exact K1_0  _ _ _ hP hD hS (lv_sub hl [0] rfl)
          · have h := o_t b6 h
            refine lv_aload_n hx hb dX5_step_41 rfl (lv_at hl 0 rfl) ?_
            refine lv_iload_n hx hb dX5_step_42 rfl (lv_at hl 1 rfl) ?_
            refine lv_iconst (v := 1) hx hb dX5_step_43 (by decide) ?_
            refine lv_iadd hx hb dX5_step_44 ?_
            refine mputI X fl_X5_25 (ws1 := wX5_step g q_o q_o_bytes o_filled o_length o_token (v1_1 + 1) o_next o_faultKind o_faultPosition o_bytes) hP hD hS 0 rfl rfl ⟨_, rfl, rfl⟩ dX5_step_45 rfl (fun H locs hP hD hS => ?_)
            refine lv_iinc (v := v1_1 + 1) (lv' := [(1, .int (v1_1 + 1)), (0, .ref q_o)]) hx hb dX5_step_48 hl (k := 1) rfl rfl (by decide) rfl (fun ls hl => ?_)
            refine lv_goto (tgt := 13) hx hb dX5_step_51 (by decide) ?_
            exact ih1 (v1_1 + 1) (v1_1 + 1) _ h _ _ hP hD hS _ (lv_sub hl [1, 0] rfl) K1_0
  obtain ⟨r7, c7, h⟩ := o_b h
  refine lp1 FU o_next o_next r7 c7 _ _ hP hD hS _ (lv_sub hl [1, 0] rfl) (fun H locs ls hP hD hS hl => ?_)
  refine lv_aload_n hx hb dX5_step_54 rfl (lv_at hl 0 rfl) ?_
  refine lv_aload_n hx hb dX5_step_55 rfl (lv_at hl 0 rfl) ?_
  refine mget X fl_X5_25 hP 0 rfl rfl dX5_step_56 ?_
  obtain ⟨r8, c8, h⟩ := o_b h
  refine mcallV X (As := [.int r7]) (rest := []) (ws1 := wX5_step g q_o q_o_bytes o_filled o_length o_token r7 o_next o_faultKind o_faultPosition o_bytes) (st1 := [.int r8]) (kX5_byteAt D g x l q_o q_o_bytes o_filled o_length o_token r7 o_next o_faultKind o_faultPosition o_bytes r7 r8 c8) mw_X5_byteAt ml_X5_97 ⟨Nat.le_of_ble_eq_true rfl, Nat.le_of_ble_eq_true rfl⟩ hP hD hS [0, 1] (by decide +kernel) rfl rfl 0 rfl rfl rfl hl.1 rfl (Nat.le_of_ble_eq_true rfl) dX5_step_59 ⟨Nat.le_refl _, Nat.le_refl _⟩ rfl rfl (fun H locs hP hD hS => ?_)
  refine lv_istore_n (lv' := [(1, .int r8), (0, .ref q_o)]) hx hb dX5_step_62 rfl hl (by decide) rfl (fun ls hl => ?_)
  refine lv_iload_n hx hb dX5_step_63 rfl (lv_at hl 0 rfl) ?_
  obtain ⟨r9, c9, h⟩ := o_b h
  refine mcallS X (As := [.int r8]) (rest := []) (ws1 := wX5_step g q_o q_o_bytes o_filled o_length o_token r7 o_next o_faultKind o_faultPosition o_bytes) (st1 := [.int r9]) (kX5_isLetter D g x l   r8 r9 c9) mw_X5_isLetter ml_X5_109 ⟨Nat.le_of_ble_eq_true rfl, Nat.le_of_ble_eq_true rfl⟩ hP hD hS [] (by decide +kernel) rfl rfl rfl hl.1 rfl (Nat.le_of_ble_eq_true rfl) dX5_step_64 ⟨Nat.le_refl _, Nat.le_refl _⟩ rfl rfl (fun H locs hP hD hS => ?_)
  refine lv_istore_n (lv' := [(2, .int r9), (1, .int r8), (0, .ref q_o)]) hx hb dX5_step_67 rfl hl (by decide) rfl (fun ls hl => ?_)
  refine lv_iload_n hx hb dX5_step_68 rfl (lv_at hl 1 rfl) ?_
  obtain ⟨r10, c10, h⟩ := o_b h
  refine mcallS X (As := [.int r8]) (rest := []) (ws1 := wX5_step g q_o q_o_bytes o_filled o_length o_token r7 o_next o_faultKind o_faultPosition o_bytes) (st1 := [.int r10]) (kX5_isDigit D g x l   r8 r10 c10) mw_X5_isDigit ml_X5_112 ⟨Nat.le_of_ble_eq_true rfl, Nat.le_of_ble_eq_true rfl⟩ hP hD hS [] (by decide +kernel) rfl rfl rfl hl.1 rfl (Nat.le_of_ble_eq_true rfl) dX5_step_69 ⟨Nat.le_refl _, Nat.le_refl _⟩ rfl rfl (fun H locs hP hD hS => ?_)
  refine lv_istore_n (lv' := [(3, .int r10), (2, .int r9), (1, .int r8), (0, .ref q_o)]) hx hb dX5_step_72 rfl hl (by decide) rfl (fun ls hl => ?_)
  refine lv_aload_n hx hb dX5_step_73 rfl (lv_at hl 3 rfl) ?_
  refine lv_aload_n hx hb dX5_step_74 rfl (lv_at hl 3 rfl) ?_
  refine mget X fl_X5_25 hP 0 rfl rfl dX5_step_75 ?_
  refine lv_iconst (v := 1) hx hb dX5_step_78 (by decide) ?_
  refine lv_iadd hx hb dX5_step_79 ?_
  refine mputI X fl_X5_28 (ws1 := wX5_step g q_o q_o_bytes o_filled o_length o_token r7 (r7 + 1) o_faultKind o_faultPosition o_bytes) hP hD hS 0 rfl rfl ⟨_, rfl, rfl⟩ dX5_step_80 rfl (fun H locs hP hD hS => ?_)
  refine lv_aload_n hx hb dX5_step_83 rfl (lv_at hl 3 rfl) ?_
  refine mget X fl_X5_28 hP 0 rfl rfl dX5_step_84 ?_
  refine lv_istore (lv' := [(4, .int (r7 + 1)), (3, .int r10), (2, .int r9), (1, .int r8), (0, .ref q_o)]) hx hb dX5_step_87 hl (by decide) rfl (fun ls hl => ?_)
  have lp11 : ∀ (n : Nat) (v11_4 : Int32) (u11_o_next : Int32) (R11 : Int32) (h : lX5_step_89 r9 r10 o_length o_bytes n v11_4 u11_o_next = some R11) (H : Heap) (locs : List Loc), va_P D vwCl (wX5_step g q_o q_o_bytes o_filled o_length o_token r7 u11_o_next o_faultKind o_faultPosition o_bytes) H → va_D A (wX5_step g q_o q_o_bytes o_filled o_length o_token r7 u11_o_next o_faultKind o_faultPosition o_bytes) → va_S A s.heap H locs → ∀ (ls : Array Slot), lv_has ls 5 [(0, .ref q_o), (1, .int r8), (2, .int r9), (3, .int r10), (4, .int v11_4)] → (∀ (H : Heap) (locs : List Loc) (ls : Array Slot), va_P D vwCl (wX5_step g q_o q_o_bytes o_filled o_length o_token r7 R11 o_faultKind o_faultPosition o_bytes) H → va_D A (wX5_step g q_o q_o_bytes o_filled o_length o_token r7 R11 o_faultKind o_faultPosition o_bytes) → va_S A s.heap H locs → lv_has ls 5 [(0, .ref q_o), (1, .int r8), (2, .int r9), (3, .int r10)] → W p l e (rmF 1 21) s m args below meth c H locs 0 0 Q (F0 m 144 ls [])) → W p l e (rmF 1 21) s m args below meth c H locs 0 0 Q (F0 m 89 ls []) := by
    intro n
    induction n with
    | zero =>
      intro v11_4 u11_o_next R11 h
      have h : none = some R11 := h
      cases h
    | succ n ih11 =>
      intro v11_4 u11_o_next R11 h H locs hP hD hS ls hl K11_0
      have h : (if o_length ≤ v11_4 then some u11_o_next else if r9 = 0 then if r10 = 0 then some u11_o_next else (mX5_byteAt o_bytes o_length v11_4).bind fun r15 => (mX5_isDigit r15).bind fun r16 => if r16 = 0 then some u11_o_next else lX5_step_89 r9 r10 o_length o_bytes n (v11_4 + 1) (v11_4 + 1) else (mX5_byteAt o_bytes o_length v11_4).bind fun r18 => (mX5_isLetter r18).bind fun r19 => if r19 = 0 then if r10 = 0 then some u11_o_next else (mX5_byteAt o_bytes o_length v11_4).bind fun r22 => (mX5_isDigit r22).bind fun r23 => if r23 = 0 then some u11_o_next else lX5_step_89 r9 r10 o_length o_bytes n (v11_4 + 1) (v11_4 + 1) else lX5_step_89 r9 r10 o_length o_bytes n (v11_4 + 1) (v11_4 + 1) : Option (Int32)) = some R11 := h
      refine lv_iload hx hb dX5_step_89 (lv_at hl 4 rfl) ?_
      refine lv_aload_n hx hb dX5_step_91 rfl (lv_at hl 0 rfl) ?_
      refine mget X fl_X5_19 hP 0 rfl rfl dX5_step_92 ?_
      refine lv_icmp_ge (tgt := 144) hx hb dX5_step_95 (by decide) (fun b12 => ?_) (fun b12 => ?_)
      · have h := o_t b12 h
        cases h
        exact K11_0  _ _ _ hP hD hS (lv_sub hl [0, 1, 2, 3] rfl)
      · have h := o_f b12 h
        refine lv_iload_n hx hb dX5_step_98 rfl (lv_at hl 2 rfl) ?_
        refine lv_if_eq (tgt := 114) hx hb dX5_step_99 (by decide) (fun b13 => ?_) (fun b13 => ?_)
        · have h := o_t b13 h
          refine lv_iload_n hx hb dX5_step_114 rfl (lv_at hl 3 rfl) ?_
          refine lv_if_eq (tgt := 144) hx hb dX5_step_115 (by decide) (fun b14 => ?_) (fun b14 => ?_)
          · have h := o_t b14 h
            cases h
            exact K11_0  _ _ _ hP hD hS (lv_sub hl [0, 1, 2, 3] rfl)
          · have h := o_f b14 h
            refine lv_aload_n hx hb dX5_step_118 rfl (lv_at hl 0 rfl) ?_
            refine lv_iload hx hb dX5_step_119 (lv_at hl 4 rfl) ?_
            obtain ⟨r15, c15, h⟩ := o_b h
            refine mcallV X (As := [.int v11_4]) (rest := []) (ws1 := wX5_step g q_o q_o_bytes o_filled o_length o_token r7 u11_o_next o_faultKind o_faultPosition o_bytes) (st1 := [.int r15]) (kX5_byteAt D g x l q_o q_o_bytes o_filled o_length o_token r7 u11_o_next o_faultKind o_faultPosition o_bytes v11_4 r15 c15) mw_X5_byteAt ml_X5_97 ⟨Nat.le_of_ble_eq_true rfl, Nat.le_of_ble_eq_true rfl⟩ hP hD hS [0, 1] (by decide +kernel) rfl rfl 0 rfl rfl rfl hl.1 rfl (Nat.le_of_ble_eq_true rfl) dX5_step_121 ⟨Nat.le_refl _, Nat.le_refl _⟩ rfl rfl (fun H locs hP hD hS => ?_)
            obtain ⟨r16, c16, h⟩ := o_b h
            refine mcallS X (As := [.int r15]) (rest := []) (ws1 := wX5_step g q_o q_o_bytes o_filled o_length o_token r7 u11_o_next o_faultKind o_faultPosition o_bytes) (st1 := [.int r16]) (kX5_isDigit D g x l   r15 r16 c16) mw_X5_isDigit ml_X5_112 ⟨Nat.le_of_ble_eq_true rfl, Nat.le_of_ble_eq_true rfl⟩ hP hD hS [] (by decide +kernel) rfl rfl rfl hl.1 rfl (Nat.le_of_ble_eq_true rfl) dX5_step_124 ⟨Nat.le_refl _, Nat.le_refl _⟩ rfl rfl (fun H locs hP hD hS => ?_)
            refine lv_if_eq (tgt := 144) hx hb dX5_step_127 (by decide) (fun b17 => ?_) (fun b17 => ?_)
            · have h := o_t b17 h
              cases h
              exact K11_0  _ _ _ hP hD hS (lv_sub hl [0, 1, 2, 3] rfl)
            · have h := o_f b17 h
              refine lv_aload_n hx hb dX5_step_130 rfl (lv_at hl 0 rfl) ?_
              refine lv_iload hx hb dX5_step_131 (lv_at hl 4 rfl) ?_
              refine lv_iconst (v := 1) hx hb dX5_step_133 (by decide) ?_
              refine lv_iadd hx hb dX5_step_134 ?_
              refine mputI X fl_X5_28 (ws1 := wX5_step g q_o q_o_bytes o_filled o_length o_token r7 (v11_4 + 1) o_faultKind o_faultPosition o_bytes) hP hD hS 0 rfl rfl ⟨_, rfl, rfl⟩ dX5_step_135 rfl (fun H locs hP hD hS => ?_)
              refine lv_iinc (v := v11_4 + 1) (lv' := [(4, .int (v11_4 + 1)), (0, .ref q_o), (1, .int r8), (2, .int r9), (3, .int r10)]) hx hb dX5_step_138 hl (k := 4) rfl rfl (by decide) rfl (fun ls hl => ?_)
              refine lv_goto (tgt := 89) hx hb dX5_step_141 (by decide) ?_
              exact ih11 (v11_4 + 1) (v11_4 + 1) _ h _ _ hP hD hS _ (lv_sub hl [1, 2, 3, 4, 0] rfl) K11_0
        · have h := o_f b13 h
          refine lv_aload_n hx hb dX5_step_102 rfl (lv_at hl 0 rfl) ?_
          refine lv_iload hx hb dX5_step_103 (lv_at hl 4 rfl) ?_
          obtain ⟨r18, c18, h⟩ := o_b h
          refine mcallV X (As := [.int v11_4]) (rest := []) (ws1 := wX5_step g q_o q_o_bytes o_filled o_length o_token r7 u11_o_next o_faultKind o_faultPosition o_bytes) (st1 := [.int r18]) (kX5_byteAt D g x l q_o q_o_bytes o_filled o_length o_token r7 u11_o_next o_faultKind o_faultPosition o_bytes v11_4 r18 c18) mw_X5_byteAt ml_X5_97 ⟨Nat.le_of_ble_eq_true rfl, Nat.le_of_ble_eq_true rfl⟩ hP hD hS [0, 1] (by decide +kernel) rfl rfl 0 rfl rfl rfl hl.1 rfl (Nat.le_of_ble_eq_true rfl) dX5_step_105 ⟨Nat.le_refl _, Nat.le_refl _⟩ rfl rfl (fun H locs hP hD hS => ?_)
          obtain ⟨r19, c19, h⟩ := o_b h
          refine mcallS X (As := [.int r18]) (rest := []) (ws1 := wX5_step g q_o q_o_bytes o_filled o_length o_token r7 u11_o_next o_faultKind o_faultPosition o_bytes) (st1 := [.int r19]) (kX5_isLetter D g x l   r18 r19 c19) mw_X5_isLetter ml_X5_109 ⟨Nat.le_of_ble_eq_true rfl, Nat.le_of_ble_eq_true rfl⟩ hP hD hS [] (by decide +kernel) rfl rfl rfl hl.1 rfl (Nat.le_of_ble_eq_true rfl) dX5_step_108 ⟨Nat.le_refl _, Nat.le_refl _⟩ rfl rfl (fun H locs hP hD hS => ?_)
          refine lv_if_ne (tgt := 130) hx hb dX5_step_111 (by decide) (fun b20 => ?_) (fun b20 => ?_)
          · have h := o_f b20 h
            refine lv_aload_n hx hb dX5_step_130 rfl (lv_at hl 0 rfl) ?_
            refine lv_iload hx hb dX5_step_131 (lv_at hl 4 rfl) ?_
            refine lv_iconst (v := 1) hx hb dX5_step_133 (by decide) ?_
            refine lv_iadd hx hb dX5_step_134 ?_
            refine mputI X fl_X5_28 (ws1 := wX5_step g q_o q_o_bytes o_filled o_length o_token r7 (v11_4 + 1) o_faultKind o_faultPosition o_bytes) hP hD hS 0 rfl rfl ⟨_, rfl, rfl⟩ dX5_step_135 rfl (fun H locs hP hD hS => ?_)
            refine lv_iinc (v := v11_4 + 1) (lv' := [(4, .int (v11_4 + 1)), (0, .ref q_o), (1, .int r8), (2, .int r9), (3, .int r10)]) hx hb dX5_step_138 hl (k := 4) rfl rfl (by decide) rfl (fun ls hl => ?_)
            refine lv_goto (tgt := 89) hx hb dX5_step_141 (by decide) ?_
            exact ih11 (v11_4 + 1) (v11_4 + 1) _ h _ _ hP hD hS _ (lv_sub hl [1, 2, 3, 4, 0] rfl) K11_0
          · have h := o_t b20 h
            refine lv_iload_n hx hb dX5_step_114 rfl (lv_at hl 3 rfl) ?_
            refine lv_if_eq (tgt := 144) hx hb dX5_step_115 (by decide) (fun b21 => ?_) (fun b21 => ?_)
            · have h := o_t b21 h
              cases h
              exact K11_0  _ _ _ hP hD hS (lv_sub hl [0, 1, 2, 3] rfl)
            · have h := o_f b21 h
              refine lv_aload_n hx hb dX5_step_118 rfl (lv_at hl 0 rfl) ?_
              refine lv_iload hx hb dX5_step_119 (lv_at hl 4 rfl) ?_
              obtain ⟨r22, c22, h⟩ := o_b h
              refine mcallV X (As := [.int v11_4]) (rest := []) (ws1 := wX5_step g q_o q_o_bytes o_filled o_length o_token r7 u11_o_next o_faultKind o_faultPosition o_bytes) (st1 := [.int r22]) (kX5_byteAt D g x l q_o q_o_bytes o_filled o_length o_token r7 u11_o_next o_faultKind o_faultPosition o_bytes v11_4 r22 c22) mw_X5_byteAt ml_X5_97 ⟨Nat.le_of_ble_eq_true rfl, Nat.le_of_ble_eq_true rfl⟩ hP hD hS [0, 1] (by decide +kernel) rfl rfl 0 rfl rfl rfl hl.1 rfl (Nat.le_of_ble_eq_true rfl) dX5_step_121 ⟨Nat.le_refl _, Nat.le_refl _⟩ rfl rfl (fun H locs hP hD hS => ?_)
              obtain ⟨r23, c23, h⟩ := o_b h
              refine mcallS X (As := [.int r22]) (rest := []) (ws1 := wX5_step g q_o q_o_bytes o_filled o_length o_token r7 u11_o_next o_faultKind o_faultPosition o_bytes) (st1 := [.int r23]) (kX5_isDigit D g x l   r22 r23 c23) mw_X5_isDigit ml_X5_112 ⟨Nat.le_of_ble_eq_true rfl, Nat.le_of_ble_eq_true rfl⟩ hP hD hS [] (by decide +kernel) rfl rfl rfl hl.1 rfl (Nat.le_of_ble_eq_true rfl) dX5_step_124 ⟨Nat.le_refl _, Nat.le_refl _⟩ rfl rfl (fun H locs hP hD hS => ?_)
              refine lv_if_eq (tgt := 144) hx hb dX5_step_127 (by decide) (fun b24 => ?_) (fun b24 => ?_)
              · have h := o_t b24 h
                cases h
                exact K11_0  _ _ _ hP hD hS (lv_sub hl [0, 1, 2, 3] rfl)
              · have h := o_f b24 h
                refine lv_aload_n hx hb dX5_step_130 rfl (lv_at hl 0 rfl) ?_
                refine lv_iload hx hb dX5_step_131 (lv_at hl 4 rfl) ?_
                refine lv_iconst (v := 1) hx hb dX5_step_133 (by decide) ?_
                refine lv_iadd hx hb dX5_step_134 ?_
                refine mputI X fl_X5_28 (ws1 := wX5_step g q_o q_o_bytes o_filled o_length o_token r7 (v11_4 + 1) o_faultKind o_faultPosition o_bytes) hP hD hS 0 rfl rfl ⟨_, rfl, rfl⟩ dX5_step_135 rfl (fun H locs hP hD hS => ?_)
                refine lv_iinc (v := v11_4 + 1) (lv' := [(4, .int (v11_4 + 1)), (0, .ref q_o), (1, .int r8), (2, .int r9), (3, .int r10)]) hx hb dX5_step_138 hl (k := 4) rfl rfl (by decide) rfl (fun ls hl => ?_)
                refine lv_goto (tgt := 89) hx hb dX5_step_141 (by decide) ?_
                exact ih11 (v11_4 + 1) (v11_4 + 1) _ h _ _ hP hD hS _ (lv_sub hl [1, 2, 3, 4, 0] rfl) K11_0
  obtain ⟨r25, c25, h⟩ := o_b h
  refine lp11 FU (r7 + 1) (r7 + 1) r25 c25 _ _ hP hD hS _ (lv_sub hl [4, 3, 2, 1, 0] rfl) (fun H locs ls hP hD hS hl => ?_)
  refine lv_aload_n hx hb dX5_step_144 rfl (lv_at hl 0 rfl) ?_
  refine mget X fl_X5_25 hP 0 rfl rfl dX5_step_145 ?_
  refine lv_aload_n hx hb dX5_step_148 rfl (lv_at hl 0 rfl) ?_
  refine mget X fl_X5_19 hP 0 rfl rfl dX5_step_149 ?_
  refine lv_icmp_lt (tgt := 163) hx hb dX5_step_152 (by decide) (fun b26 => ?_) (fun b26 => ?_)
  · have h := o_t b26 h
    refine lv_iload_n hx hb dX5_step_163 rfl (lv_at hl 2 rfl) ?_
    refine lv_if_eq (tgt := 193) hx hb dX5_step_164 (by decide) (fun b27 => ?_) (fun b27 => ?_)
    · have h := o_t b27 h
      refine lv_iload_n hx hb dX5_step_193 rfl (lv_at hl 3 rfl) ?_
      refine lv_if_eq (tgt := 222) hx hb dX5_step_194 (by decide) (fun b28 => ?_) (fun b28 => ?_)
      · have h := o_t b28 h
        refine lv_iload_n hx hb dX5_step_222 rfl (lv_at hl 1 rfl) ?_
        refine lv_bipush (v := 45) hx hb dX5_step_223 (by decide) ?_
        refine lv_icmp_ne (tgt := 236) hx hb dX5_step_225 (by decide) (fun b29 => ?_) (fun b29 => ?_)
        · have h := o_f b29 h
          refine lv_aload_n hx hb dX5_step_236 rfl (lv_at hl 0 rfl) ?_
          refine lv_iload_n hx hb dX5_step_237 rfl (lv_at hl 1 rfl) ?_
          refine lv_bipush (v := 59) hx hb dX5_step_238 (by decide) ?_
          refine lv_icmp_ne (tgt := 247) hx hb dX5_step_240 (by decide) (fun b30 => ?_) (fun b30 => ?_)
          · have h := o_f b30 h
            refine lv_iconst (v := 0) hx hb dX5_step_247 (by decide) ?_
            refine mputI X fl_X5_22 (ws1 := wX5_step g q_o q_o_bytes o_filled o_length 0 r7 r25 o_faultKind o_faultPosition o_bytes) hP hD hS 0 rfl rfl ⟨_, rfl, rfl⟩ dX5_step_248 rfl (fun H locs hP hD hS => ?_)
            cases h
            exact fin _ _ _ _ hP hS dX5_step_251
          · have h := o_t b30 h
            refine lv_iconst (v := 4) hx hb dX5_step_243 (by decide) ?_
            refine lv_goto (tgt := 248) hx hb dX5_step_244 (by decide) ?_
            refine mputI X fl_X5_22 (ws1 := wX5_step g q_o q_o_bytes o_filled o_length 4 r7 r25 o_faultKind o_faultPosition o_bytes) hP hD hS 0 rfl rfl ⟨_, rfl, rfl⟩ dX5_step_248 rfl (fun H locs hP hD hS => ?_)
            cases h
            exact fin _ _ _ _ hP hS dX5_step_251
        · have h := o_t b29 h
          refine lv_aload_n hx hb dX5_step_228 rfl (lv_at hl 0 rfl) ?_
          refine lv_iconst (v := 3) hx hb dX5_step_229 (by decide) ?_
          refine mputI X fl_X5_22 (ws1 := wX5_step g q_o q_o_bytes o_filled o_length 3 r7 r25 o_faultKind o_faultPosition o_bytes) hP hD hS 0 rfl rfl ⟨_, rfl, rfl⟩ dX5_step_230 rfl (fun H locs hP hD hS => ?_)
          refine lv_goto (tgt := 251) hx hb dX5_step_233 (by decide) ?_
          cases h
          exact fin _ _ _ _ hP hS dX5_step_251
      · have h := o_f b28 h
        refine lv_aload_n hx hb dX5_step_197 rfl (lv_at hl 0 rfl) ?_
        refine lv_aload_n hx hb dX5_step_198 rfl (lv_at hl 0 rfl) ?_
        refine mget X fl_X5_28 hP 0 rfl rfl dX5_step_199 ?_
        refine lv_aload_n hx hb dX5_step_202 rfl (lv_at hl 0 rfl) ?_
        refine mget X fl_X5_25 hP 0 rfl rfl dX5_step_203 ?_
        refine lv_isub hx hb dX5_step_206 ?_
        refine lv_iconst (v := 2) hx hb dX5_step_207 (by decide) ?_
        refine lv_icmp_le (tgt := 215) hx hb dX5_step_208 (by decide) (fun b31 => ?_) (fun b31 => ?_)
        · have h := o_t b31 h
          refine lv_iconst (v := 2) hx hb dX5_step_215 (by decide) ?_
          refine mputI X fl_X5_22 (ws1 := wX5_step g q_o q_o_bytes o_filled o_length 2 r7 r25 o_faultKind o_faultPosition o_bytes) hP hD hS 0 rfl rfl ⟨_, rfl, rfl⟩ dX5_step_216 rfl (fun H locs hP hD hS => ?_)
          refine lv_goto (tgt := 251) hx hb dX5_step_219 (by decide) ?_
          cases h
          exact fin _ _ _ _ hP hS dX5_step_251
        · have h := o_f b31 h
          refine lv_iconst (v := 0) hx hb dX5_step_211 (by decide) ?_
          refine lv_goto (tgt := 216) hx hb dX5_step_212 (by decide) ?_
          refine mputI X fl_X5_22 (ws1 := wX5_step g q_o q_o_bytes o_filled o_length 0 r7 r25 o_faultKind o_faultPosition o_bytes) hP hD hS 0 rfl rfl ⟨_, rfl, rfl⟩ dX5_step_216 rfl (fun H locs hP hD hS => ?_)
          refine lv_goto (tgt := 251) hx hb dX5_step_219 (by decide) ?_
          cases h
          exact fin _ _ _ _ hP hS dX5_step_251
    · have h := o_f b27 h
      refine lv_aload_n hx hb dX5_step_167 rfl (lv_at hl 0 rfl) ?_
      refine lv_aload_n hx hb dX5_step_168 rfl (lv_at hl 0 rfl) ?_
      refine mget X fl_X5_28 hP 0 rfl rfl dX5_step_169 ?_
      refine lv_aload_n hx hb dX5_step_172 rfl (lv_at hl 0 rfl) ?_
      refine mget X fl_X5_25 hP 0 rfl rfl dX5_step_173 ?_
      refine lv_isub hx hb dX5_step_176 ?_
      refine lv_bipush (v := 8) hx hb dX5_step_177 (by decide) ?_
      refine lv_icmp_le (tgt := 186) hx hb dX5_step_179 (by decide) (fun b32 => ?_) (fun b32 => ?_)
      · have h := o_t b32 h
        refine lv_iconst (v := 1) hx hb dX5_step_186 (by decide) ?_
        refine mputI X fl_X5_22 (ws1 := wX5_step g q_o q_o_bytes o_filled o_length 1 r7 r25 o_faultKind o_faultPosition o_bytes) hP hD hS 0 rfl rfl ⟨_, rfl, rfl⟩ dX5_step_187 rfl (fun H locs hP hD hS => ?_)
        refine lv_goto (tgt := 251) hx hb dX5_step_190 (by decide) ?_
        cases h
        exact fin _ _ _ _ hP hS dX5_step_251
      · have h := o_f b32 h
        refine lv_iconst (v := 0) hx hb dX5_step_182 (by decide) ?_
        refine lv_goto (tgt := 187) hx hb dX5_step_183 (by decide) ?_
        refine mputI X fl_X5_22 (ws1 := wX5_step g q_o q_o_bytes o_filled o_length 0 r7 r25 o_faultKind o_faultPosition o_bytes) hP hD hS 0 rfl rfl ⟨_, rfl, rfl⟩ dX5_step_187 rfl (fun H locs hP hD hS => ?_)
        refine lv_goto (tgt := 251) hx hb dX5_step_190 (by decide) ?_
        cases h
        exact fin _ _ _ _ hP hS dX5_step_251
  · have h := o_f b26 h
    refine lv_aload_n hx hb dX5_step_155 rfl (lv_at hl 0 rfl) ?_
    refine lv_iconst (v := 5) hx hb dX5_step_156 (by decide) ?_
    refine mputI X fl_X5_22 (ws1 := wX5_step g q_o q_o_bytes o_filled o_length 5 r7 r25 o_faultKind o_faultPosition o_bytes) hP hD hS 0 rfl rfl ⟨_, rfl, rfl⟩ dX5_step_157 rfl (fun H locs hP hD hS => ?_)
    refine lv_goto (tgt := 251) hx hb dX5_step_160 (by decide) ?_
    cases h
    exact fin _ _ _ _ hP hS dX5_step_251
abbrev wX5_isWord (g : Nat → ClassId) (q_o q_o_bytes : Nat)  (o_filled : Int32) (o_length : Int32) (o_token : Int32) (o_start : Int32) (o_next : Int32) (o_faultKind : Int32) (o_faultPosition : Int32) (o_bytes : Nat → Int32) : va_W := [(q_o, .inr (5, [.ref q_o_bytes, .int o_filled, .int o_length, .int o_token, .int o_start, .int o_next, .int o_faultKind, .int o_faultPosition])), (q_o_bytes, .inl (g 0, 400, .inl o_bytes))]
set_option maxHeartbeats 4000000 in
set_option maxRecDepth 100000 in
theorem kX5_isWord (D : va_G) (g : Nat → ClassId) (x : Xd) (l : Launch) (q_o q_o_bytes : Nat)  (o_filled : Int32) (o_length : Int32) (o_token : Int32) (o_start : Int32) (o_next : Int32) (o_faultKind : Int32) (o_faultPosition : Int32) (o_bytes : Nat → Int32) (p1 : Nat) (hp1 : p1 < 13) (R : Int32) (h : mX5_isWord o_bytes o_length o_next o_start o_token p1 = some R) : Cn D g x l yX5_isWord cX5_isWord 3 (some .boolean) 4 201 [.ref q_o, .ref (x.1 p1)] (wX5_isWord g q_o q_o_bytes o_filled o_length o_token o_start o_next o_faultKind o_faultPosition o_bytes) (wX5_isWord g q_o q_o_bytes o_filled o_length o_token o_start o_next o_faultKind o_faultPosition o_bytes) (some (.int R)) := by
  refine CnI (by decide +kernel) (Nat.le_of_ble_eq_true rfl) (fun p e s m args below meth c A Q ls X hD hP hS fin hl => ?_)
  obtain ⟨hx, hb, hml, -, -, hown, hts, hK, hA, hE⟩ := id X
  unfold mX5_isWord at h
  have hl : lv_has ls 3 [(0, .ref q_o), (1, .ref (x.1 p1))] := hl
  refine lv_aload_n hx hb dX5_isWord_0 rfl (lv_at hl 0 rfl) ?_
  refine mget X fl_X5_22 hP 0 rfl rfl dX5_isWord_1 ?_
  refine lv_iconst (v := 1) hx hb dX5_isWord_4 (by decide) ?_
  refine lv_icmp_ne (tgt := 24) hx hb dX5_isWord_5 (by decide) (fun b1 => ?_) (fun b1 => ?_)
  · have h := o_f b1 h
    refine lv_iconst (v := 0) hx hb dX5_isWord_24 (by decide) ?_
    cases h
    exact fin _ _ _ _ (nar_z (Or.inl rfl)) hP hS dX5_isWord_25
  · have h := o_t b1 h
    refine lv_aload_n hx hb dX5_isWord_8 rfl (lv_at hl 0 rfl) ?_
    refine mget X fl_X5_28 hP 0 rfl rfl dX5_isWord_9 ?_
    refine lv_aload_n hx hb dX5_isWord_12 rfl (lv_at hl 0 rfl) ?_
    refine mget X fl_X5_25 hP 0 rfl rfl dX5_isWord_13 ?_
    refine lv_isub hx hb dX5_isWord_16 ?_
    refine lv_aload_n hx hb dX5_isWord_17 rfl (lv_at hl 1 rfl) ?_
    refine mcallE X (As := []) (rest := [.int (o_next - o_start)]) (st1 := [.int (nI (litB p1).length), .int (o_next - o_start)]) (kJ0_length D g x l p1 hp1) hp1 rfl mw_J0_length_8abf5 ml_X5_100 ⟨Nat.le_of_ble_eq_true rfl, Nat.le_of_ble_eq_true rfl⟩ hP hD hS rfl hl.1 rfl (Nat.le_of_ble_eq_true rfl) dX5_isWord_18 ⟨Nat.le_refl _, Nat.le_refl _⟩ rfl (fun H locs hP hD hS => ?_)
    refine lv_icmp_eq (tgt := 26) hx hb dX5_isWord_21 (by decide) (fun b2 => ?_) (fun b2 => ?_)
    · have h := o_t b2 h
      refine lv_iconst (v := 0) hx hb dX5_isWord_26 (by decide) ?_
      refine lv_istore_n (lv' := [(2, .int 0), (0, .ref q_o), (1, .ref (x.1 p1))]) hx hb dX5_isWord_27 rfl hl (by decide) rfl (fun ls hl => ?_)
      have lp3 : ∀ (n : Nat) (v3_2 : Int32) (R3 : Nat) (h : lX5_isWord_28 p1 o_length o_start o_bytes n v3_2 = some R3) (H : Heap) (locs : List Loc), va_P D vwCl (wX5_isWord g q_o q_o_bytes o_filled o_length o_token o_start o_next o_faultKind o_faultPosition o_bytes) H → va_D A (wX5_isWord g q_o q_o_bytes o_filled o_length o_token o_start o_next o_faultKind o_faultPosition o_bytes) → va_S A s.heap H locs → ∀ (ls : Array Slot), lv_has ls 3 [(0, .ref q_o), (1, .ref (x.1 p1)), (2, .int v3_2)] → (R3 = 0 → ∀ (H : Heap) (locs : List Loc) (ls : Array Slot), va_P D vwCl (wX5_isWord g q_o q_o_bytes o_filled o_length o_token o_start o_next o_faultKind o_faultPosition o_bytes) H → va_D A (wX5_isWord g q_o q_o_bytes o_filled o_length o_token o_start o_next o_faultKind o_faultPosition o_bytes) → va_S A s.heap H locs → lv_has ls 3 [] → W p l e (rmF 4 201) s m args below meth c H locs 0 0 Q (F0 m 54 ls [])) → (¬ R3 = 0 → ∀ (H : Heap) (locs : List Loc) (ls : Array Slot), va_P D vwCl (wX5_isWord g q_o q_o_bytes o_filled o_length o_token o_start o_next o_faultKind o_faultPosition o_bytes) H → va_D A (wX5_isWord g q_o q_o_bytes o_filled o_length o_token o_start o_next o_faultKind o_faultPosition o_bytes) → va_S A s.heap H locs → lv_has ls 3 [] → W p l e (rmF 4 201) s m args below meth c H locs 0 0 Q (F0 m 62 ls [])) → W p l e (rmF 4 201) s m args below meth c H locs 0 0 Q (F0 m 28 ls []) := by
        intro n
        induction n with
        | zero =>
          intro v3_2 R3 h
          have h : none = some R3 := h
          cases h
        | succ n ih3 =>
          intro v3_2 R3 h H locs hP hD hS ls hl K3_0 K3_1
          have h : (if (nI (litB p1).length) ≤ v3_2 then some (1 : Nat) else (mX5_byteAt o_bytes o_length (o_start + v3_2)).bind fun r5 => if v3_2 < 0 ∨ (litB p1).length ≤ Int32.toNatClampNeg v3_2 then none else if r5 = (litC p1 v3_2) then lX5_isWord_28 p1 o_length o_start o_bytes n (v3_2 + 1) else some (0 : Nat) : Option (Nat)) = some R3 := h
          refine lv_iload_n hx hb dX5_isWord_28 rfl (lv_at hl 2 rfl) ?_
          refine lv_aload_n hx hb dX5_isWord_29 rfl (lv_at hl 1 rfl) ?_
          refine mcallE X (As := []) (rest := [.int v3_2]) (st1 := [.int (nI (litB p1).length), .int v3_2]) (kJ0_length D g x l p1 hp1) hp1 rfl mw_J0_length_8abf5 ml_X5_100 ⟨Nat.le_of_ble_eq_true rfl, Nat.le_of_ble_eq_true rfl⟩ hP hD hS rfl hl.1 rfl (Nat.le_of_ble_eq_true rfl) dX5_isWord_30 ⟨Nat.le_refl _, Nat.le_refl _⟩ rfl (fun H locs hP hD hS => ?_)
          refine lv_icmp_ge (tgt := 62) hx hb dX5_isWord_33 (by decide) (fun b4 => ?_) (fun b4 => ?_)
          · have h := o_t b4 h
            cases h
            exact K3_1 (show ¬ (1 : Nat) = 0 from by decide) _ _ _ hP hD hS (lv_sub hl [] rfl)
          · have h := o_f b4 h
            refine lv_aload_n hx hb dX5_isWord_36 rfl (lv_at hl 0 rfl) ?_
            refine lv_aload_n hx hb dX5_isWord_37 rfl (lv_at hl 0 rfl) ?_
            refine mget X fl_X5_25 hP 0 rfl rfl dX5_isWord_38 ?_
            refine lv_iload_n hx hb dX5_isWord_41 rfl (lv_at hl 2 rfl) ?_
            refine lv_iadd hx hb dX5_isWord_42 ?_
            obtain ⟨r5, c5, h⟩ := o_b h
            refine mcallV X (As := [.int (o_start + v3_2)]) (rest := []) (ws1 := wX5_isWord g q_o q_o_bytes o_filled o_length o_token o_start o_next o_faultKind o_faultPosition o_bytes) (st1 := [.int r5]) (kX5_byteAt D g x l q_o q_o_bytes o_filled o_length o_token o_start o_next o_faultKind o_faultPosition o_bytes (o_start + v3_2) r5 c5) mw_X5_byteAt ml_X5_97 ⟨Nat.le_of_ble_eq_true rfl, Nat.le_of_ble_eq_true rfl⟩ hP hD hS [0, 1] (by decide +kernel) rfl rfl 0 rfl rfl rfl hl.1 rfl (Nat.le_of_ble_eq_true rfl) dX5_isWord_43 ⟨Nat.le_refl _, Nat.le_refl _⟩ rfl rfl (fun H locs hP hD hS => ?_)
            refine lv_aload_n hx hb dX5_isWord_46 rfl (lv_at hl 1 rfl) ?_
            refine lv_iload_n hx hb dX5_isWord_47 rfl (lv_at hl 2 rfl) ?_
            obtain ⟨b6, h⟩ := o_no h
            refine mcallE X (As := [.int v3_2]) (rest := [.int r5]) (st1 := [.int (litC p1 v3_2), .int r5]) (kJ0_charAt D g x l p1 hp1 v3_2 b6) hp1 rfl mw_J0_charAt_5068e ml_X5_105 ⟨Nat.le_of_ble_eq_true rfl, Nat.le_of_ble_eq_true rfl⟩ hP hD hS rfl hl.1 rfl (Nat.le_of_ble_eq_true rfl) dX5_isWord_48 ⟨Nat.le_refl _, Nat.le_refl _⟩ rfl (fun H locs hP hD hS => ?_)
            refine lv_icmp_eq (tgt := 56) hx hb dX5_isWord_51 (by decide) (fun b7 => ?_) (fun b7 => ?_)
            · have h := o_t b7 h
              refine lv_iinc (v := v3_2 + 1) (lv' := [(2, .int (v3_2 + 1)), (0, .ref q_o), (1, .ref (x.1 p1))]) hx hb dX5_isWord_56 hl (k := 2) rfl rfl (by decide) rfl (fun ls hl => ?_)
              refine lv_goto (tgt := 28) hx hb dX5_isWord_59 (by decide) ?_
              exact ih3 (v3_2 + 1) _ h _ _ hP hD hS _ (lv_sub hl [1, 2, 0] rfl) K3_0 K3_1
            · have h := o_f b7 h
              cases h
              exact K3_0 rfl _ _ _ hP hD hS (lv_sub hl [] rfl)
      obtain ⟨r8, c8, h⟩ := o_b h
      refine lp3 FU 0 r8 c8 _ _ hP hD hS _ (lv_sub hl [1, 2, 0] rfl) (fun t3_0 H locs ls hP hD hS hl => ?_) (fun t3_0 H locs ls hP hD hS hl => ?_)
      · have h := o_t t3_0 h
        refine lv_iconst (v := 0) hx hb dX5_isWord_54 (by decide) ?_
        cases h
        exact fin _ _ _ _ (nar_z (Or.inl rfl)) hP hS dX5_isWord_55
      · have h := o_f t3_0 h
        refine lv_iconst (v := 1) hx hb dX5_isWord_62 (by decide) ?_
        cases h
        exact fin _ _ _ _ (nar_z (Or.inr rfl)) hP hS dX5_isWord_63
    · have h := o_f b2 h
      refine lv_iconst (v := 0) hx hb dX5_isWord_24 (by decide) ?_
      cases h
      exact fin _ _ _ _ (nar_z (Or.inl rfl)) hP hS dX5_isWord_25
abbrev wX5_fail (g : Nat → ClassId) (q_o q_o_bytes : Nat)  (o_filled : Int32) (o_length : Int32) (o_token : Int32) (o_start : Int32) (o_next : Int32) (o_faultKind : Int32) (o_faultPosition : Int32) : va_W := [(q_o, .inr (5, [.ref q_o_bytes, .int o_filled, .int o_length, .int o_token, .int o_start, .int o_next, .int o_faultKind, .int o_faultPosition]))]
set_option maxHeartbeats 4000000 in
set_option maxRecDepth 100000 in
theorem kX5_fail (D : va_G) (g : Nat → ClassId) (x : Xd) (l : Launch) (q_o q_o_bytes : Nat)  (o_filled : Int32) (o_length : Int32) (o_token : Int32) (o_start : Int32) (o_next : Int32) (o_faultKind : Int32) (o_faultPosition : Int32) (p1 : Int32) (R : Int32 × Int32 × Int32) (h : mX5_fail o_faultKind o_faultPosition o_start o_token p1 = some R) : Cn D g x l yX5_fail cX5_fail 2 (some .boolean) 0 0 [.ref q_o, .int p1] (wX5_fail g q_o q_o_bytes o_filled o_length o_token o_start o_next o_faultKind o_faultPosition) (wX5_fail g q_o q_o_bytes o_filled o_length o_token o_start o_next R.2.1 R.2.2) (some (.int R.1)) := by
  refine CnI (by decide +kernel) (Nat.le_of_ble_eq_true rfl) (fun p e s m args below meth c A Q ls X hD hP hS fin hl => ?_)
  obtain ⟨hx, hb, hml, -, -, hown, hts, hK, hA, hE⟩ := id X
  unfold mX5_fail at h
  have hl : lv_has ls 2 [(0, .ref q_o), (1, .int p1)] := hl
  refine lv_aload_n hx hb dX5_fail_0 rfl (lv_at hl 0 rfl) ?_
  refine lv_aload_n hx hb dX5_fail_1 rfl (lv_at hl 0 rfl) ?_
  refine mget X fl_X5_22 hP 0 rfl rfl dX5_fail_2 ?_
  refine lv_if_ne (tgt := 12) hx hb dX5_fail_5 (by decide) (fun b1 => ?_) (fun b1 => ?_)
  · have h := o_f b1 h
    refine lv_iload_n hx hb dX5_fail_12 rfl (lv_at hl 1 rfl) ?_
    refine mputI X fl_X5_31 (ws1 := wX5_fail g q_o q_o_bytes o_filled o_length o_token o_start o_next p1 o_faultPosition) hP hD hS 0 rfl rfl ⟨_, rfl, rfl⟩ dX5_fail_13 rfl (fun H locs hP hD hS => ?_)
    refine lv_aload_n hx hb dX5_fail_16 rfl (lv_at hl 0 rfl) ?_
    refine lv_aload_n hx hb dX5_fail_17 rfl (lv_at hl 0 rfl) ?_
    refine mget X fl_X5_25 hP 0 rfl rfl dX5_fail_18 ?_
    refine mputI X fl_X5_34 (ws1 := wX5_fail g q_o q_o_bytes o_filled o_length o_token o_start o_next p1 o_start) hP hD hS 0 rfl rfl ⟨_, rfl, rfl⟩ dX5_fail_21 rfl (fun H locs hP hD hS => ?_)
    refine lv_iconst (v := 0) hx hb dX5_fail_24 (by decide) ?_
    cases h
    exact fin _ _ _ _ (nar_z (Or.inl rfl)) hP hS dX5_fail_25
  · have h := o_t b1 h
    refine lv_iconst (v := 1) hx hb dX5_fail_8 (by decide) ?_
    refine lv_goto (tgt := 13) hx hb dX5_fail_9 (by decide) ?_
    refine mputI X fl_X5_31 (ws1 := wX5_fail g q_o q_o_bytes o_filled o_length o_token o_start o_next 1 o_faultPosition) hP hD hS 0 rfl rfl ⟨_, rfl, rfl⟩ dX5_fail_13 rfl (fun H locs hP hD hS => ?_)
    refine lv_aload_n hx hb dX5_fail_16 rfl (lv_at hl 0 rfl) ?_
    refine lv_aload_n hx hb dX5_fail_17 rfl (lv_at hl 0 rfl) ?_
    refine mget X fl_X5_25 hP 0 rfl rfl dX5_fail_18 ?_
    refine mputI X fl_X5_34 (ws1 := wX5_fail g q_o q_o_bytes o_filled o_length o_token o_start o_next 1 o_start) hP hD hS 0 rfl rfl ⟨_, rfl, rfl⟩ dX5_fail_21 rfl (fun H locs hP hD hS => ?_)
    refine lv_iconst (v := 0) hx hb dX5_fail_24 (by decide) ?_
    cases h
    exact fin _ _ _ _ (nar_z (Or.inl rfl)) hP hS dX5_fail_25
abbrev wX5_readDigits (g : Nat → ClassId) (q_o q_o_bytes : Nat)  (o_filled : Int32) (o_length : Int32) (o_token : Int32) (o_start : Int32) (o_next : Int32) (o_faultKind : Int32) (o_faultPosition : Int32) (o_bytes : Nat → Int32) : va_W := [(q_o, .inr (5, [.ref q_o_bytes, .int o_filled, .int o_length, .int o_token, .int o_start, .int o_next, .int o_faultKind, .int o_faultPosition])), (q_o_bytes, .inl (g 0, 400, .inl o_bytes))]
set_option maxHeartbeats 4000000 in
set_option maxRecDepth 100000 in
theorem kX5_readDigits (D : va_G) (g : Nat → ClassId) (x : Xd) (l : Launch) (q_o q_o_bytes : Nat)  (o_filled : Int32) (o_length : Int32) (o_token : Int32) (o_start : Int32) (o_next : Int32) (o_faultKind : Int32) (o_faultPosition : Int32) (o_bytes : Nat → Int32) (p1 : Int32) (R : Int32 × Int32 × Int32) (h : mX5_readDigits o_bytes o_faultKind o_faultPosition o_length o_next o_start o_token p1 = some R) : Cn D g x l yX5_readDigits cX5_readDigits 4 (some .int) 1 21 [.ref q_o, .int p1] (wX5_readDigits g q_o q_o_bytes o_filled o_length o_token o_start o_next o_faultKind o_faultPosition o_bytes) (wX5_readDigits g q_o q_o_bytes o_filled o_length o_token o_start o_next R.2.1 R.2.2 o_bytes) (some (.int R.1)) := by
  refine CnI (by decide +kernel) (Nat.le_of_ble_eq_true rfl) (fun p e s m args below meth c A Q ls X hD hP hS fin hl => ?_)
  obtain ⟨hx, hb, hml, -, -, hown, hts, hK, hA, hE⟩ := id X
  unfold mX5_readDigits at h
  have hl : lv_has ls 4 [(0, .ref q_o), (1, .int p1)] := hl
  refine lv_aload_n hx hb dX5_readDigits_0 rfl (lv_at hl 0 rfl) ?_
  refine mget X fl_X5_22 hP 0 rfl rfl dX5_readDigits_1 ?_
  refine lv_iconst (v := 2) hx hb dX5_readDigits_4 (by decide) ?_
  refine lv_icmp_eq (tgt := 16) hx hb dX5_readDigits_5 (by decide) (fun b1 => ?_) (fun b1 => ?_)
  · have h := o_t b1 h
    refine lv_iconst (v := 0) hx hb dX5_readDigits_16 (by decide) ?_
    refine lv_istore_n (lv' := [(2, .int 0), (0, .ref q_o), (1, .int p1)]) hx hb dX5_readDigits_17 rfl hl (by decide) rfl (fun ls hl => ?_)
    refine lv_aload_n hx hb dX5_readDigits_18 rfl (lv_at hl 1 rfl) ?_
    refine mget X fl_X5_25 hP 0 rfl rfl dX5_readDigits_19 ?_
    refine lv_istore_n (lv' := [(3, .int o_start), (2, .int 0), (0, .ref q_o), (1, .int p1)]) hx hb dX5_readDigits_22 rfl hl (by decide) rfl (fun ls hl => ?_)
    have lp2 : ∀ (n : Nat) (v2_2 : Int32) (v2_3 : Int32) (R2 : Int32) (h : lX5_readDigits_23 o_length o_next o_bytes n v2_2 v2_3 = some R2) (H : Heap) (locs : List Loc), va_P D vwCl (wX5_readDigits g q_o q_o_bytes o_filled o_length o_token o_start o_next o_faultKind o_faultPosition o_bytes) H → va_D A (wX5_readDigits g q_o q_o_bytes o_filled o_length o_token o_start o_next o_faultKind o_faultPosition o_bytes) → va_S A s.heap H locs → ∀ (ls : Array Slot), lv_has ls 4 [(0, .ref q_o), (1, .int p1), (2, .int v2_2), (3, .int v2_3)] → (∀ (H : Heap) (locs : List Loc) (ls : Array Slot), va_P D vwCl (wX5_readDigits g q_o q_o_bytes o_filled o_length o_token o_start o_next o_faultKind o_faultPosition o_bytes) H → va_D A (wX5_readDigits g q_o q_o_bytes o_filled o_length o_token o_start o_next o_faultKind o_faultPosition o_bytes) → va_S A s.heap H locs → lv_has ls 4 [(0, .ref q_o), (1, .int p1), (2, .int R2)] → W p l e (rmF 1 21) s m args below meth c H locs 0 0 Q (F0 m 51 ls [])) → W p l e (rmF 1 21) s m args below meth c H locs 0 0 Q (F0 m 23 ls []) := by
      intro n
      induction n with
      | zero =>
        intro v2_2 v2_3 R2 h
        have h : none = some R2 := h
        cases h
      | succ n ih2 =>
        intro v2_2 v2_3 R2 h H locs hP hD hS ls hl K2_0
        have h : (if o_next ≤ v2_3 then some v2_2 else (mX5_byteAt o_bytes o_length v2_3).bind fun r4 => lX5_readDigits_23 o_length o_next o_bytes n (((v2_2 * 10) + r4) - 48) (v2_3 + 1) : Option (Int32)) = some R2 := h
        refine lv_iload_n hx hb dX5_readDigits_23 rfl (lv_at hl 3 rfl) ?_
        refine lv_aload_n hx hb dX5_readDigits_24 rfl (lv_at hl 0 rfl) ?_
        refine mget X fl_X5_28 hP 0 rfl rfl dX5_readDigits_25 ?_
        refine lv_icmp_ge (tgt := 51) hx hb dX5_readDigits_28 (by decide) (fun b3 => ?_) (fun b3 => ?_)
        · have h := o_t b3 h
          cases h
          exact K2_0  _ _ _ hP hD hS (lv_sub hl [0, 1, 2] rfl)
        · have h := o_f b3 h
          refine lv_iload_n hx hb dX5_readDigits_31 rfl (lv_at hl 2 rfl) ?_
          refine lv_bipush (v := 10) hx hb dX5_readDigits_32 (by decide) ?_
          refine lv_imul hx hb dX5_readDigits_34 ?_
          refine lv_aload_n hx hb dX5_readDigits_35 rfl (lv_at hl 0 rfl) ?_
          refine lv_iload_n hx hb dX5_readDigits_36 rfl (lv_at hl 3 rfl) ?_
          obtain ⟨r4, c4, h⟩ := o_b h
          refine mcallV X (As := [.int v2_3]) (rest := [.int (v2_2 * 10)]) (ws1 := wX5_readDigits g q_o q_o_bytes o_filled o_length o_token o_start o_next o_faultKind o_faultPosition o_bytes) (st1 := [.int r4, .int (v2_2 * 10)]) (kX5_byteAt D g x l q_o q_o_bytes o_filled o_length o_token o_start o_next o_faultKind o_faultPosition o_bytes v2_3 r4 c4) mw_X5_byteAt ml_X5_97 ⟨Nat.le_of_ble_eq_true rfl, Nat.le_of_ble_eq_true rfl⟩ hP hD hS [0, 1] (by decide +kernel) rfl rfl 0 rfl rfl rfl hl.1 rfl (Nat.le_of_ble_eq_true rfl) dX5_readDigits_37 ⟨Nat.le_refl _, Nat.le_refl _⟩ rfl rfl (fun H locs hP hD hS => ?_)
          refine lv_iadd hx hb dX5_readDigits_40 ?_
          refine lv_bipush (v := 48) hx hb dX5_readDigits_41 (by decide) ?_
          refine lv_isub hx hb dX5_readDigits_43 ?_
          refine lv_istore_n (lv' := [(2, .int (((v2_2 * 10) + r4) - 48)), (0, .ref q_o), (1, .int p1), (3, .int v2_3)]) hx hb dX5_readDigits_44 rfl hl (by decide) rfl (fun ls hl => ?_)
          refine lv_iinc (v := v2_3 + 1) (lv' := [(3, .int (v2_3 + 1)), (2, .int (((v2_2 * 10) + r4) - 48)), (0, .ref q_o), (1, .int p1)]) hx hb dX5_readDigits_45 hl (k := 3) rfl rfl (by decide) rfl (fun ls hl => ?_)
          refine lv_goto (tgt := 23) hx hb dX5_readDigits_48 (by decide) ?_
          exact ih2 (((v2_2 * 10) + r4) - 48) (v2_3 + 1) _ h _ _ hP hD hS _ (lv_sub hl [2, 3, 1, 0] rfl) K2_0
    obtain ⟨r5, c5, h⟩ := o_b h
    refine lp2 FU 0 o_start r5 c5 _ _ hP hD hS _ (lv_sub hl [2, 3, 1, 0] rfl) (fun H locs ls hP hD hS hl => ?_)
    refine lv_iload_n hx hb dX5_readDigits_51 rfl (lv_at hl 2 rfl) ?_
    refine lv_iload_n hx hb dX5_readDigits_52 rfl (lv_at hl 1 rfl) ?_
    refine lv_icmp_le (tgt := 64) hx hb dX5_readDigits_53 (by decide) (fun b6 => ?_) (fun b6 => ?_)
    · have h := o_t b6 h
      refine lv_iload_n hx hb dX5_readDigits_64 rfl (lv_at hl 2 rfl) ?_
      cases h
      exact fin _ _ _ _ rfl hP hS dX5_readDigits_65
    · have h := o_f b6 h
      refine lv_aload_n hx hb dX5_readDigits_56 rfl (lv_at hl 0 rfl) ?_
      refine lv_iconst (v := 3) hx hb dX5_readDigits_57 (by decide) ?_
      obtain ⟨r7, c7, h⟩ := o_b h
      refine mcallV X (As := [.int 3]) (rest := []) (ws1 := wX5_readDigits g q_o q_o_bytes o_filled o_length o_token o_start o_next r7.2.1 r7.2.2 o_bytes) (st1 := [.int r7.1]) (kX5_fail D g x l q_o q_o_bytes o_filled o_length o_token o_start o_next o_faultKind o_faultPosition 3 r7 c7) mw_X5_fail ml_X5_74 ⟨Nat.le_of_ble_eq_true rfl, Nat.le_of_ble_eq_true rfl⟩ hP hD hS [0] (by decide +kernel) rfl rfl 0 rfl rfl rfl hl.1 rfl (Nat.le_of_ble_eq_true rfl) dX5_readDigits_58 ⟨Nat.le_refl _, Nat.le_refl _⟩ rfl rfl (fun H locs hP hD hS => ?_)
      refine lv_pop hx hb dX5_readDigits_61 rfl ?_
      refine lv_iconst (v := 0) hx hb dX5_readDigits_62 (by decide) ?_
      cases h
      exact fin _ _ _ _ rfl hP hS dX5_readDigits_63
  · have h := o_f b1 h
    refine lv_aload_n hx hb dX5_readDigits_8 rfl (lv_at hl 0 rfl) ?_
    refine lv_iconst (v := 2) hx hb dX5_readDigits_9 (by decide) ?_
    obtain ⟨r8, c8, h⟩ := o_b h
    refine mcallV X (As := [.int 2]) (rest := []) (ws1 := wX5_readDigits g q_o q_o_bytes o_filled o_length o_token o_start o_next r8.2.1 r8.2.2 o_bytes) (st1 := [.int r8.1]) (kX5_fail D g x l q_o q_o_bytes o_filled o_length o_token o_start o_next o_faultKind o_faultPosition 2 r8 c8) mw_X5_fail ml_X5_74 ⟨Nat.le_of_ble_eq_true rfl, Nat.le_of_ble_eq_true rfl⟩ hP hD hS [0] (by decide +kernel) rfl rfl 0 rfl rfl rfl hl.1 rfl (Nat.le_of_ble_eq_true rfl) dX5_readDigits_10 ⟨Nat.le_refl _, Nat.le_refl _⟩ rfl rfl (fun H locs hP hD hS => ?_)
    refine lv_pop hx hb dX5_readDigits_13 rfl ?_
    refine lv_iconst (v := 0) hx hb dX5_readDigits_14 (by decide) ?_
    cases h
    exact fin _ _ _ _ rfl hP hS dX5_readDigits_15
abbrev wX5_readSemicolon (g : Nat → ClassId) (q_o q_o_bytes : Nat)  (o_filled : Int32) (o_length : Int32) (o_token : Int32) (o_start : Int32) (o_next : Int32) (o_faultKind : Int32) (o_faultPosition : Int32) (o_bytes : Nat → Int32) : va_W := [(q_o, .inr (5, [.ref q_o_bytes, .int o_filled, .int o_length, .int o_token, .int o_start, .int o_next, .int o_faultKind, .int o_faultPosition])), (q_o_bytes, .inl (g 0, 400, .inl o_bytes))]
set_option maxHeartbeats 4000000 in
set_option maxRecDepth 100000 in
theorem kX5_readSemicolon (D : va_G) (g : Nat → ClassId) (x : Xd) (l : Launch) (q_o q_o_bytes : Nat)  (o_filled : Int32) (o_length : Int32) (o_token : Int32) (o_start : Int32) (o_next : Int32) (o_faultKind : Int32) (o_faultPosition : Int32) (o_bytes : Nat → Int32) (R : Int32 × Int32 × Int32 × Int32 × Int32 × Int32) (h : mX5_readSemicolon o_bytes o_faultKind o_faultPosition o_length o_next o_start o_token = some R) : Cn D g x l yX5_readSemicolon cX5_readSemicolon 1 (some .boolean) 2 45 [.ref q_o] (wX5_readSemicolon g q_o q_o_bytes o_filled o_length o_token o_start o_next o_faultKind o_faultPosition o_bytes) (wX5_readSemicolon g q_o q_o_bytes o_filled o_length R.2.2.2.2.2 R.2.2.2.2.1 R.2.2.2.1 R.2.1 R.2.2.1 o_bytes) (some (.int R.1)) := by
  refine CnI (by decide +kernel) (Nat.le_of_ble_eq_true rfl) (fun p e s m args below meth c A Q ls X hD hP hS fin hl => ?_)
  obtain ⟨hx, hb, hml, -, -, hown, hts, hK, hA, hE⟩ := id X
  unfold mX5_readSemicolon at h
  have hl : lv_has ls 1 [(0, .ref q_o)] := hl
  refine lv_aload_n hx hb dX5_readSemicolon_0 rfl (lv_at hl 0 rfl) ?_
  obtain ⟨r1, c1, h⟩ := o_b h
  refine mcallV X (As := []) (rest := []) (ws1 := wX5_readSemicolon g q_o q_o_bytes o_filled o_length r1.2.2 r1.2.1 r1.1 o_faultKind o_faultPosition o_bytes) (st1 := []) (kX5_step D g x l q_o q_o_bytes o_filled o_length o_token o_start o_next o_faultKind o_faultPosition o_bytes  r1 c1) mw_X5_step ml_X5_42 ⟨Nat.le_of_ble_eq_true rfl, Nat.le_of_ble_eq_true rfl⟩ hP hD hS [0, 1] (by decide +kernel) rfl rfl 0 rfl rfl rfl hl.1 rfl (Nat.le_of_ble_eq_true rfl) dX5_readSemicolon_1 ⟨Nat.le_refl _, Nat.le_refl _⟩ rfl rfl (fun H locs hP hD hS => ?_)
  refine lv_aload_n hx hb dX5_readSemicolon_4 rfl (lv_at hl 0 rfl) ?_
  refine mget X fl_X5_22 hP 0 rfl rfl dX5_readSemicolon_5 ?_
  refine lv_iconst (v := 4) hx hb dX5_readSemicolon_8 (by decide) ?_
  refine lv_icmp_eq (tgt := 20) hx hb dX5_readSemicolon_9 (by decide) (fun b2 => ?_) (fun b2 => ?_)
  · have h := o_t b2 h
    refine lv_iconst (v := 1) hx hb dX5_readSemicolon_20 (by decide) ?_
    refine lv_goto (tgt := 25) hx hb dX5_readSemicolon_21 (by decide) ?_
    cases h
    exact fin _ _ _ _ (nar_z (Or.inr rfl)) hP hS dX5_readSemicolon_25
  · have h := o_f b2 h
    refine lv_aload_n hx hb dX5_readSemicolon_12 rfl (lv_at hl 0 rfl) ?_
    refine lv_iconst (v := 2) hx hb dX5_readSemicolon_13 (by decide) ?_
    obtain ⟨r3, c3, h⟩ := o_b h
    refine mcallV X (As := [.int 2]) (rest := []) (ws1 := wX5_readSemicolon g q_o q_o_bytes o_filled o_length r1.2.2 r1.2.1 r1.1 r3.2.1 r3.2.2 o_bytes) (st1 := [.int r3.1]) (kX5_fail D g x l q_o q_o_bytes o_filled o_length r1.2.2 r1.2.1 r1.1 o_faultKind o_faultPosition 2 r3 c3) mw_X5_fail ml_X5_74 ⟨Nat.le_of_ble_eq_true rfl, Nat.le_of_ble_eq_true rfl⟩ hP hD hS [0] (by decide +kernel) rfl rfl 0 rfl rfl rfl hl.1 rfl (Nat.le_of_ble_eq_true rfl) dX5_readSemicolon_14 ⟨Nat.le_refl _, Nat.le_refl _⟩ rfl rfl (fun H locs hP hD hS => ?_)
    refine lv_if_eq (tgt := 24) hx hb dX5_readSemicolon_17 (by decide) (fun b4 => ?_) (fun b4 => ?_)
    · have h := o_t b4 h
      refine lv_iconst (v := 0) hx hb dX5_readSemicolon_24 (by decide) ?_
      cases h
      exact fin _ _ _ _ (nar_z (Or.inl rfl)) hP hS dX5_readSemicolon_25
    · have h := o_f b4 h
      refine lv_iconst (v := 1) hx hb dX5_readSemicolon_20 (by decide) ?_
      refine lv_goto (tgt := 25) hx hb dX5_readSemicolon_21 (by decide) ?_
      cases h
      exact fin _ _ _ _ (nar_z (Or.inr rfl)) hP hS dX5_readSemicolon_25
abbrev wX5_readSigned (g : Nat → ClassId) (q_o q_o_bytes : Nat)  (o_filled : Int32) (o_length : Int32) (o_token : Int32) (o_start : Int32) (o_next : Int32) (o_faultKind : Int32) (o_faultPosition : Int32) (o_bytes : Nat → Int32) : va_W := [(q_o, .inr (5, [.ref q_o_bytes, .int o_filled, .int o_length, .int o_token, .int o_start, .int o_next, .int o_faultKind, .int o_faultPosition])), (q_o_bytes, .inl (g 0, 400, .inl o_bytes))]
set_option maxHeartbeats 4000000 in
set_option maxRecDepth 100000 in
theorem kX5_readSigned (D : va_G) (g : Nat → ClassId) (x : Xd) (l : Launch) (q_o q_o_bytes : Nat)  (o_filled : Int32) (o_length : Int32) (o_token : Int32) (o_start : Int32) (o_next : Int32) (o_faultKind : Int32) (o_faultPosition : Int32) (o_bytes : Nat → Int32) (p1 : Int32) (R : Int32 × Int32 × Int32 × Int32 × Int32 × Int32) (h : mX5_readSigned o_bytes o_faultKind o_faultPosition o_length o_next o_start o_token p1 = some R) : Cn D g x l yX5_readSigned cX5_readSigned 2 (some .int) 2 45 [.ref q_o, .int p1] (wX5_readSigned g q_o q_o_bytes o_filled o_length o_token o_start o_next o_faultKind o_faultPosition o_bytes) (wX5_readSigned g q_o q_o_bytes o_filled o_length R.2.2.2.2.2 R.2.2.2.2.1 R.2.2.2.1 R.2.1 R.2.2.1 o_bytes) (some (.int R.1)) := by
  refine CnI (by decide +kernel) (Nat.le_of_ble_eq_true rfl) (fun p e s m args below meth c A Q ls X hD hP hS fin hl => ?_)
  obtain ⟨hx, hb, hml, -, -, hown, hts, hK, hA, hE⟩ := id X
  unfold mX5_readSigned at h
  have hl : lv_has ls 2 [(0, .ref q_o), (1, .int p1)] := hl
  refine lv_aload_n hx hb dX5_readSigned_0 rfl (lv_at hl 0 rfl) ?_
  obtain ⟨r1, c1, h⟩ := o_b h
  refine mcallV X (As := []) (rest := []) (ws1 := wX5_readSigned g q_o q_o_bytes o_filled o_length r1.2.2 r1.2.1 r1.1 o_faultKind o_faultPosition o_bytes) (st1 := []) (kX5_step D g x l q_o q_o_bytes o_filled o_length o_token o_start o_next o_faultKind o_faultPosition o_bytes  r1 c1) mw_X5_step ml_X5_42 ⟨Nat.le_of_ble_eq_true rfl, Nat.le_of_ble_eq_true rfl⟩ hP hD hS [0, 1] (by decide +kernel) rfl rfl 0 rfl rfl rfl hl.1 rfl (Nat.le_of_ble_eq_true rfl) dX5_readSigned_1 ⟨Nat.le_refl _, Nat.le_refl _⟩ rfl rfl (fun H locs hP hD hS => ?_)
  refine lv_aload_n hx hb dX5_readSigned_4 rfl (lv_at hl 0 rfl) ?_
  refine mget X fl_X5_22 hP 0 rfl rfl dX5_readSigned_5 ?_
  refine lv_iconst (v := 3) hx hb dX5_readSigned_8 (by decide) ?_
  refine lv_icmp_eq (tgt := 18) hx hb dX5_readSigned_9 (by decide) (fun b2 => ?_) (fun b2 => ?_)
  · have h := o_t b2 h
    refine lv_aload_n hx hb dX5_readSigned_18 rfl (lv_at hl 0 rfl) ?_
    obtain ⟨r3, c3, h⟩ := o_b h
    refine mcallV X (As := []) (rest := []) (ws1 := wX5_readSigned g q_o q_o_bytes o_filled o_length r3.2.2 r3.2.1 r3.1 o_faultKind o_faultPosition o_bytes) (st1 := []) (kX5_step D g x l q_o q_o_bytes o_filled o_length r1.2.2 r1.2.1 r1.1 o_faultKind o_faultPosition o_bytes  r3 c3) mw_X5_step ml_X5_42 ⟨Nat.le_of_ble_eq_true rfl, Nat.le_of_ble_eq_true rfl⟩ hP hD hS [0, 1] (by decide +kernel) rfl rfl 0 rfl rfl rfl hl.1 rfl (Nat.le_of_ble_eq_true rfl) dX5_readSigned_19 ⟨Nat.le_refl _, Nat.le_refl _⟩ rfl rfl (fun H locs hP hD hS => ?_)
    refine lv_aload_n hx hb dX5_readSigned_22 rfl (lv_at hl 0 rfl) ?_
    refine lv_iload_n hx hb dX5_readSigned_23 rfl (lv_at hl 1 rfl) ?_
    obtain ⟨r4, c4, h⟩ := o_b h
    refine mcallV X (As := [.int p1]) (rest := []) (ws1 := wX5_readSigned g q_o q_o_bytes o_filled o_length r3.2.2 r3.2.1 r3.1 r4.2.1 r4.2.2 o_bytes) (st1 := [.int r4.1]) (kX5_readDigits D g x l q_o q_o_bytes o_filled o_length r3.2.2 r3.2.1 r3.1 o_faultKind o_faultPosition o_bytes p1 r4 c4) mw_X5_readDigits ml_X5_67 ⟨Nat.le_of_ble_eq_true rfl, Nat.le_of_ble_eq_true rfl⟩ hP hD hS [0, 1] (by decide +kernel) rfl rfl 0 rfl rfl rfl hl.1 rfl (Nat.le_of_ble_eq_true rfl) dX5_readSigned_24 ⟨Nat.le_refl _, Nat.le_refl _⟩ rfl rfl (fun H locs hP hD hS => ?_)
    refine lv_ineg hx hb dX5_readSigned_27 ?_
    cases h
    exact fin _ _ _ _ rfl hP hS dX5_readSigned_28
  · have h := o_f b2 h
    refine lv_aload_n hx hb dX5_readSigned_12 rfl (lv_at hl 0 rfl) ?_
    refine lv_iload_n hx hb dX5_readSigned_13 rfl (lv_at hl 1 rfl) ?_
    obtain ⟨r5, c5, h⟩ := o_b h
    refine mcallV X (As := [.int p1]) (rest := []) (ws1 := wX5_readSigned g q_o q_o_bytes o_filled o_length r1.2.2 r1.2.1 r1.1 r5.2.1 r5.2.2 o_bytes) (st1 := [.int r5.1]) (kX5_readDigits D g x l q_o q_o_bytes o_filled o_length r1.2.2 r1.2.1 r1.1 o_faultKind o_faultPosition o_bytes p1 r5 c5) mw_X5_readDigits ml_X5_67 ⟨Nat.le_of_ble_eq_true rfl, Nat.le_of_ble_eq_true rfl⟩ hP hD hS [0, 1] (by decide +kernel) rfl rfl 0 rfl rfl rfl hl.1 rfl (Nat.le_of_ble_eq_true rfl) dX5_readSigned_14 ⟨Nat.le_refl _, Nat.le_refl _⟩ rfl rfl (fun H locs hP hD hS => ?_)
    cases h
    exact fin _ _ _ _ rfl hP hS dX5_readSigned_17
abbrev wX5_readPoint (g : Nat → ClassId) (q_o q_o_bytes q_p1 q_p1_ws q_p1_xs q_p1_ys : Nat)  (o_filled : Int32) (o_length : Int32) (o_token : Int32) (o_start : Int32) (o_next : Int32) (o_faultKind : Int32) (o_faultPosition : Int32) (o_bytes : Nat → Int32) (p1_count : Int32) (p1_mode : Int32) (p1_degree : Int32) (p1_ws : Nat → Int32) (p1_xs : Nat → Int32) (p1_ys : Nat → Int32) : va_W := [(q_o, .inr (5, [.ref q_o_bytes, .int o_filled, .int o_length, .int o_token, .int o_start, .int o_next, .int o_faultKind, .int o_faultPosition])), (q_o_bytes, .inl (g 0, 400, .inl o_bytes)), (q_p1, .inr (3, [.ref q_p1_xs, .ref q_p1_ys, .ref q_p1_ws, .int p1_count, .int p1_mode, .int p1_degree])), (q_p1_ws, .inl (g 0, 5, .inl p1_ws)), (q_p1_xs, .inl (g 0, 5, .inl p1_xs)), (q_p1_ys, .inl (g 0, 5, .inl p1_ys))]
set_option maxHeartbeats 4000000 in
set_option maxRecDepth 100000 in
theorem kX5_readPoint (D : va_G) (g : Nat → ClassId) (x : Xd) (l : Launch) (q_o q_o_bytes q_p1 q_p1_ws q_p1_xs q_p1_ys : Nat)  (o_filled : Int32) (o_length : Int32) (o_token : Int32) (o_start : Int32) (o_next : Int32) (o_faultKind : Int32) (o_faultPosition : Int32) (o_bytes : Nat → Int32) (p1_count : Int32) (p1_mode : Int32) (p1_degree : Int32) (p1_ws : Nat → Int32) (p1_xs : Nat → Int32) (p1_ys : Nat → Int32) (R : Int32 × Int32 × Int32 × Int32 × Int32 × Int32 × Int32 × (Nat → Int32) × (Nat → Int32) × (Nat → Int32)) (h : mX5_readPoint o_bytes o_faultKind o_faultPosition o_length o_next o_start o_token p1_count p1_ws p1_xs p1_ys = some R) : Cn D g x l yX5_readPoint cX5_readPoint 5 (some .boolean) 5 223 [.ref q_o, .ref q_p1] (wX5_readPoint g q_o q_o_bytes q_p1 q_p1_ws q_p1_xs q_p1_ys o_filled o_length o_token o_start o_next o_faultKind o_faultPosition o_bytes p1_count p1_mode p1_degree p1_ws p1_xs p1_ys) (wX5_readPoint g q_o q_o_bytes q_p1 q_p1_ws q_p1_xs q_p1_ys o_filled o_length R.2.2.2.2.2.1 R.2.2.2.2.1 R.2.2.2.1 R.2.1 R.2.2.1 o_bytes R.2.2.2.2.2.2.1 p1_mode p1_degree R.2.2.2.2.2.2.2.1 R.2.2.2.2.2.2.2.2.1 R.2.2.2.2.2.2.2.2.2) (some (.int R.1)) := by
  refine CnI (by decide +kernel) (Nat.le_of_ble_eq_true rfl) (fun p e s m args below meth c A Q ls X hD hP hS fin hl => ?_)
  obtain ⟨hx, hb, hml, -, -, hown, hts, hK, hA, hE⟩ := id X
  unfold mX5_readPoint at h
  have hl : lv_has ls 5 [(0, .ref q_o), (1, .ref q_p1)] := hl
  refine lv_aload_n hx hb dX5_readPoint_0 rfl (lv_at hl 1 rfl) ?_
  obtain ⟨r1, c1, h⟩ := o_b h
  refine mcallV X (As := []) (rest := []) (ws1 := wX5_readPoint g q_o q_o_bytes q_p1 q_p1_ws q_p1_xs q_p1_ys o_filled o_length o_token o_start o_next o_faultKind o_faultPosition o_bytes p1_count p1_mode p1_degree p1_ws p1_xs p1_ys) (st1 := [.int r1]) (kX3_isFull D g x l q_p1 q_p1_xs q_p1_ys q_p1_ws p1_count p1_mode p1_degree  r1 c1) mw_X3_isFull ml_X5_82 ⟨Nat.le_of_ble_eq_true rfl, Nat.le_of_ble_eq_true rfl⟩ hP hD hS [2] (by decide +kernel) rfl rfl 2 rfl rfl rfl hl.1 rfl (Nat.le_of_ble_eq_true rfl) dX5_readPoint_1 ⟨Nat.le_refl _, Nat.le_refl _⟩ rfl rfl (fun H locs hP hD hS => ?_)
  refine lv_if_eq (tgt := 13) hx hb dX5_readPoint_4 (by decide) (fun b2 => ?_) (fun b2 => ?_)
  · have h := o_t b2 h
    refine lv_aload_n hx hb dX5_readPoint_13 rfl (lv_at hl 0 rfl) ?_
    refine lv_bipush (v := 9) hx hb dX5_readPoint_14 (by decide) ?_
    obtain ⟨r3, c3, h⟩ := o_b h
    refine mcallV X (As := [.int 9]) (rest := []) (ws1 := wX5_readPoint g q_o q_o_bytes q_p1 q_p1_ws q_p1_xs q_p1_ys o_filled o_length r3.2.2.2.2.2 r3.2.2.2.2.1 r3.2.2.2.1 r3.2.1 r3.2.2.1 o_bytes p1_count p1_mode p1_degree p1_ws p1_xs p1_ys) (st1 := [.int r3.1]) (kX5_readSigned D g x l q_o q_o_bytes o_filled o_length o_token o_start o_next o_faultKind o_faultPosition o_bytes 9 r3 c3) mw_X5_readSigned ml_X5_85 ⟨Nat.le_of_ble_eq_true rfl, Nat.le_of_ble_eq_true rfl⟩ hP hD hS [0, 1] (by decide +kernel) rfl rfl 0 rfl rfl rfl hl.1 rfl (Nat.le_of_ble_eq_true rfl) dX5_readPoint_16 ⟨Nat.le_refl _, Nat.le_refl _⟩ rfl rfl (fun H locs hP hD hS => ?_)
    refine lv_istore_n (lv' := [(2, .int r3.1), (0, .ref q_o), (1, .ref q_p1)]) hx hb dX5_readPoint_19 rfl hl (by decide) rfl (fun ls hl => ?_)
    refine lv_aload_n hx hb dX5_readPoint_20 rfl (lv_at hl 1 rfl) ?_
    refine mget X fl_X5_31 hP 0 rfl rfl dX5_readPoint_21 ?_
    refine lv_if_ne (tgt := 42) hx hb dX5_readPoint_24 (by decide) (fun b4 => ?_) (fun b4 => ?_)
    · have h := o_f b4 h
      refine lv_aload_n hx hb dX5_readPoint_42 rfl (lv_at hl 1 rfl) ?_
      refine mget X fl_X5_31 hP 0 rfl rfl dX5_readPoint_43 ?_
      refine lv_if_ne (tgt := 58) hx hb dX5_readPoint_46 (by decide) (fun b5 => ?_) (fun b5 => ?_)
      · have h := o_f b5 h
        refine lv_iconst (v := 0) hx hb dX5_readPoint_58 (by decide) ?_
        refine lv_istore_n (lv' := [(3, .int 0), (2, .int r3.1), (0, .ref q_o), (1, .ref q_p1)]) hx hb dX5_readPoint_59 rfl hl (by decide) rfl (fun ls hl => ?_)
        refine lv_aload_n hx hb dX5_readPoint_60 rfl (lv_at hl 2 rfl) ?_
        refine mget X fl_X5_31 hP 0 rfl rfl dX5_readPoint_61 ?_
        refine lv_if_eq (tgt := 69) hx hb dX5_readPoint_64 (by decide) (fun b6 => ?_) (fun b6 => ?_)
        · have h := o_t b6 h
          refine lv_iconst (v := 1) hx hb dX5_readPoint_69 (by decide) ?_
          refine lv_istore (lv' := [(4, .int 1), (3, .int 0), (2, .int r3.1), (0, .ref q_o), (1, .ref q_p1)]) hx hb dX5_readPoint_70 hl (by decide) rfl (fun ls hl => ?_)
          refine lv_aload_n hx hb dX5_readPoint_72 rfl (lv_at hl 3 rfl) ?_
          obtain ⟨r7, c7, h⟩ := o_b h
          refine mcallV X (As := []) (rest := []) (ws1 := wX5_readPoint g q_o q_o_bytes q_p1 q_p1_ws q_p1_xs q_p1_ys o_filled o_length r7.2.2 r7.2.1 r7.1 r3.2.1 r3.2.2.1 o_bytes p1_count p1_mode p1_degree p1_ws p1_xs p1_ys) (st1 := []) (kX5_step D g x l q_o q_o_bytes o_filled o_length r3.2.2.2.2.2 r3.2.2.2.2.1 r3.2.2.2.1 r3.2.1 r3.2.2.1 o_bytes  r7 c7) mw_X5_step ml_X5_42 ⟨Nat.le_of_ble_eq_true rfl, Nat.le_of_ble_eq_true rfl⟩ hP hD hS [0, 1] (by decide +kernel) rfl rfl 0 rfl rfl rfl hl.1 rfl (Nat.le_of_ble_eq_true rfl) dX5_readPoint_73 ⟨Nat.le_refl _, Nat.le_refl _⟩ rfl rfl (fun H locs hP hD hS => ?_)
          refine lv_aload_n hx hb dX5_readPoint_76 rfl (lv_at hl 3 rfl) ?_
          refine va_ldcS hx hb hown (ldc_X5_91 hE) dX5_readPoint_77 ?_
          obtain ⟨r8, c8, h⟩ := o_b h
          refine mcallV X (As := [.ref (x.1 4)]) (rest := []) (ws1 := wX5_readPoint g q_o q_o_bytes q_p1 q_p1_ws q_p1_xs q_p1_ys o_filled o_length r7.2.2 r7.2.1 r7.1 r3.2.1 r3.2.2.1 o_bytes p1_count p1_mode p1_degree p1_ws p1_xs p1_ys) (st1 := [.int r8]) (kX5_isWord D g x l q_o q_o_bytes o_filled o_length r7.2.2 r7.2.1 r7.1 r3.2.1 r3.2.2.1 o_bytes 4 (by decide) r8 c8) mw_X5_isWord ml_X5_51 ⟨Nat.le_of_ble_eq_true rfl, Nat.le_of_ble_eq_true rfl⟩ hP hD hS [0, 1] (by decide +kernel) rfl rfl 0 rfl rfl rfl hl.1 rfl (Nat.le_of_ble_eq_true rfl) dX5_readPoint_79 ⟨Nat.le_refl _, Nat.le_refl _⟩ rfl rfl (fun H locs hP hD hS => ?_)
          refine lv_if_eq (tgt := 106) hx hb dX5_readPoint_82 (by decide) (fun b9 => ?_) (fun b9 => ?_)
          · have h := o_t b9 h
            refine lv_aload_n hx hb dX5_readPoint_106 rfl (lv_at hl 4 rfl) ?_
            refine lv_iload_n hx hb dX5_readPoint_107 rfl (lv_at hl 2 rfl) ?_
            refine lv_iload_n hx hb dX5_readPoint_108 rfl (lv_at hl 1 rfl) ?_
            refine lv_iload hx hb dX5_readPoint_109 (lv_at hl 0 rfl) ?_
            obtain ⟨r10, c10, h⟩ := o_b h
            refine mcallV X (As := [.int r3.1, .int 0, .int 1]) (rest := []) (ws1 := wX5_readPoint g q_o q_o_bytes q_p1 q_p1_ws q_p1_xs q_p1_ys o_filled o_length r7.2.2 r7.2.1 r7.1 r3.2.1 r3.2.2.1 o_bytes r10.1 p1_mode p1_degree r10.2.1 r10.2.2.1 r10.2.2.2) (st1 := []) (kX3_append D g x l q_p1 q_p1_ws q_p1_xs q_p1_ys p1_count p1_mode p1_degree p1_ws p1_xs p1_ys r3.1 0 1 r10 c10) mw_X3_append ml_X5_93 ⟨Nat.le_of_ble_eq_true rfl, Nat.le_of_ble_eq_true rfl⟩ hP hD hS [2, 3, 4, 5] (by decide +kernel) rfl rfl 2 rfl rfl rfl hl.1 rfl (Nat.le_of_ble_eq_true rfl) dX5_readPoint_111 ⟨Nat.le_refl _, Nat.le_refl _⟩ rfl rfl (fun H locs hP hD hS => ?_)
            refine lv_aload_n hx hb dX5_readPoint_114 rfl (lv_at hl 3 rfl) ?_
            refine mget X fl_X5_22 hP 0 rfl rfl dX5_readPoint_115 ?_
            refine lv_iconst (v := 4) hx hb dX5_readPoint_118 (by decide) ?_
            refine lv_icmp_eq (tgt := 130) hx hb dX5_readPoint_119 (by decide) (fun b11 => ?_) (fun b11 => ?_)
            · have h := o_t b11 h
              refine lv_iconst (v := 1) hx hb dX5_readPoint_130 (by decide) ?_
              refine lv_goto (tgt := 135) hx hb dX5_readPoint_131 (by decide) ?_
              cases h
              exact fin _ _ _ _ (nar_z (Or.inr rfl)) hP hS dX5_readPoint_135
            · have h := o_f b11 h
              refine lv_aload_n hx hb dX5_readPoint_122 rfl (lv_at hl 3 rfl) ?_
              refine lv_iconst (v := 2) hx hb dX5_readPoint_123 (by decide) ?_
              obtain ⟨r12, c12, h⟩ := o_b h
              refine mcallV X (As := [.int 2]) (rest := []) (ws1 := wX5_readPoint g q_o q_o_bytes q_p1 q_p1_ws q_p1_xs q_p1_ys o_filled o_length r7.2.2 r7.2.1 r7.1 r12.2.1 r12.2.2 o_bytes r10.1 p1_mode p1_degree r10.2.1 r10.2.2.1 r10.2.2.2) (st1 := [.int r12.1]) (kX5_fail D g x l q_o q_o_bytes o_filled o_length r7.2.2 r7.2.1 r7.1 r3.2.1 r3.2.2.1 2 r12 c12) mw_X5_fail ml_X5_74 ⟨Nat.le_of_ble_eq_true rfl, Nat.le_of_ble_eq_true rfl⟩ hP hD hS [0] (by decide +kernel) rfl rfl 0 rfl rfl rfl hl.1 rfl (Nat.le_of_ble_eq_true rfl) dX5_readPoint_124 ⟨Nat.le_refl _, Nat.le_refl _⟩ rfl rfl (fun H locs hP hD hS => ?_)
              refine lv_if_eq (tgt := 134) hx hb dX5_readPoint_127 (by decide) (fun b13 => ?_) (fun b13 => ?_)
              · have h := o_t b13 h
                refine lv_iconst (v := 0) hx hb dX5_readPoint_134 (by decide) ?_
                cases h
                exact fin _ _ _ _ (nar_z (Or.inl rfl)) hP hS dX5_readPoint_135
              · have h := o_f b13 h
                refine lv_iconst (v := 1) hx hb dX5_readPoint_130 (by decide) ?_
                refine lv_goto (tgt := 135) hx hb dX5_readPoint_131 (by decide) ?_
                cases h
                exact fin _ _ _ _ (nar_z (Or.inr rfl)) hP hS dX5_readPoint_135
          · have h := o_f b9 h
            refine lv_aload_n hx hb dX5_readPoint_85 rfl (lv_at hl 3 rfl) ?_
            refine lv_bipush (v := 9) hx hb dX5_readPoint_86 (by decide) ?_
            obtain ⟨r14, c14, h⟩ := o_b h
            refine mcallV X (As := [.int 9]) (rest := []) (ws1 := wX5_readPoint g q_o q_o_bytes q_p1 q_p1_ws q_p1_xs q_p1_ys o_filled o_length r14.2.2.2.2.2 r14.2.2.2.2.1 r14.2.2.2.1 r14.2.1 r14.2.2.1 o_bytes p1_count p1_mode p1_degree p1_ws p1_xs p1_ys) (st1 := [.int r14.1]) (kX5_readSigned D g x l q_o q_o_bytes o_filled o_length r7.2.2 r7.2.1 r7.1 r3.2.1 r3.2.2.1 o_bytes 9 r14 c14) mw_X5_readSigned ml_X5_85 ⟨Nat.le_of_ble_eq_true rfl, Nat.le_of_ble_eq_true rfl⟩ hP hD hS [0, 1] (by decide +kernel) rfl rfl 0 rfl rfl rfl hl.1 rfl (Nat.le_of_ble_eq_true rfl) dX5_readPoint_88 ⟨Nat.le_refl _, Nat.le_refl _⟩ rfl rfl (fun H locs hP hD hS => ?_)
            refine lv_istore (lv' := [(4, .int r14.1), (3, .int 0), (2, .int r3.1), (0, .ref q_o), (1, .ref q_p1)]) hx hb dX5_readPoint_91 hl (by decide) rfl (fun ls hl => ?_)
            refine lv_aload_n hx hb dX5_readPoint_93 rfl (lv_at hl 3 rfl) ?_
            refine mget X fl_X5_31 hP 0 rfl rfl dX5_readPoint_94 ?_
            refine lv_if_eq (tgt := 102) hx hb dX5_readPoint_97 (by decide) (fun b15 => ?_) (fun b15 => ?_)
            · have h := o_t b15 h
              refine lv_aload_n hx hb dX5_readPoint_102 rfl (lv_at hl 3 rfl) ?_
              obtain ⟨r16, c16, h⟩ := o_b h
              refine mcallV X (As := []) (rest := []) (ws1 := wX5_readPoint g q_o q_o_bytes q_p1 q_p1_ws q_p1_xs q_p1_ys o_filled o_length r16.2.2 r16.2.1 r16.1 r14.2.1 r14.2.2.1 o_bytes p1_count p1_mode p1_degree p1_ws p1_xs p1_ys) (st1 := []) (kX5_step D g x l q_o q_o_bytes o_filled o_length r14.2.2.2.2.2 r14.2.2.2.2.1 r14.2.2.2.1 r14.2.1 r14.2.2.1 o_bytes  r16 c16) mw_X5_step ml_X5_42 ⟨Nat.le_of_ble_eq_true rfl, Nat.le_of_ble_eq_true rfl⟩ hP hD hS [0, 1] (by decide +kernel) rfl rfl 0 rfl rfl rfl hl.1 rfl (Nat.le_of_ble_eq_true rfl) dX5_readPoint_103 ⟨Nat.le_refl _, Nat.le_refl _⟩ rfl rfl (fun H locs hP hD hS => ?_)
              refine lv_aload_n hx hb dX5_readPoint_106 rfl (lv_at hl 4 rfl) ?_
              refine lv_iload_n hx hb dX5_readPoint_107 rfl (lv_at hl 2 rfl) ?_
              refine lv_iload_n hx hb dX5_readPoint_108 rfl (lv_at hl 1 rfl) ?_
              refine lv_iload hx hb dX5_readPoint_109 (lv_at hl 0 rfl) ?_
              obtain ⟨r17, c17, h⟩ := o_b h
              refine mcallV X (As := [.int r3.1, .int 0, .int r14.1]) (rest := []) (ws1 := wX5_readPoint g q_o q_o_bytes q_p1 q_p1_ws q_p1_xs q_p1_ys o_filled o_length r16.2.2 r16.2.1 r16.1 r14.2.1 r14.2.2.1 o_bytes r17.1 p1_mode p1_degree r17.2.1 r17.2.2.1 r17.2.2.2) (st1 := []) (kX3_append D g x l q_p1 q_p1_ws q_p1_xs q_p1_ys p1_count p1_mode p1_degree p1_ws p1_xs p1_ys r3.1 0 r14.1 r17 c17) mw_X3_append ml_X5_93 ⟨Nat.le_of_ble_eq_true rfl, Nat.le_of_ble_eq_true rfl⟩ hP hD hS [2, 3, 4, 5] (by decide +kernel) rfl rfl 2 rfl rfl rfl hl.1 rfl (Nat.le_of_ble_eq_true rfl) dX5_readPoint_111 ⟨Nat.le_refl _, Nat.le_refl _⟩ rfl rfl (fun H locs hP hD hS => ?_)
              refine lv_aload_n hx hb dX5_readPoint_114 rfl (lv_at hl 3 rfl) ?_
              refine mget X fl_X5_22 hP 0 rfl rfl dX5_readPoint_115 ?_
              refine lv_iconst (v := 4) hx hb dX5_readPoint_118 (by decide) ?_
              refine lv_icmp_eq (tgt := 130) hx hb dX5_readPoint_119 (by decide) (fun b18 => ?_) (fun b18 => ?_)
              · have h := o_t b18 h
                refine lv_iconst (v := 1) hx hb dX5_readPoint_130 (by decide) ?_
                refine lv_goto (tgt := 135) hx hb dX5_readPoint_131 (by decide) ?_
                cases h
                exact fin _ _ _ _ (nar_z (Or.inr rfl)) hP hS dX5_readPoint_135
              · have h := o_f b18 h
                refine lv_aload_n hx hb dX5_readPoint_122 rfl (lv_at hl 3 rfl) ?_
                refine lv_iconst (v := 2) hx hb dX5_readPoint_123 (by decide) ?_
                obtain ⟨r19, c19, h⟩ := o_b h
                refine mcallV X (As := [.int 2]) (rest := []) (ws1 := wX5_readPoint g q_o q_o_bytes q_p1 q_p1_ws q_p1_xs q_p1_ys o_filled o_length r16.2.2 r16.2.1 r16.1 r19.2.1 r19.2.2 o_bytes r17.1 p1_mode p1_degree r17.2.1 r17.2.2.1 r17.2.2.2) (st1 := [.int r19.1]) (kX5_fail D g x l q_o q_o_bytes o_filled o_length r16.2.2 r16.2.1 r16.1 r14.2.1 r14.2.2.1 2 r19 c19) mw_X5_fail ml_X5_74 ⟨Nat.le_of_ble_eq_true rfl, Nat.le_of_ble_eq_true rfl⟩ hP hD hS [0] (by decide +kernel) rfl rfl 0 rfl rfl rfl hl.1 rfl (Nat.le_of_ble_eq_true rfl) dX5_readPoint_124 ⟨Nat.le_refl _, Nat.le_refl _⟩ rfl rfl (fun H locs hP hD hS => ?_)
                refine lv_if_eq (tgt := 134) hx hb dX5_readPoint_127 (by decide) (fun b20 => ?_) (fun b20 => ?_)
                · have h := o_t b20 h
                  refine lv_iconst (v := 0) hx hb dX5_readPoint_134 (by decide) ?_
                  cases h
                  exact fin _ _ _ _ (nar_z (Or.inl rfl)) hP hS dX5_readPoint_135
                · have h := o_f b20 h
                  refine lv_iconst (v := 1) hx hb dX5_readPoint_130 (by decide) ?_
                  refine lv_goto (tgt := 135) hx hb dX5_readPoint_131 (by decide) ?_
                  cases h
                  exact fin _ _ _ _ (nar_z (Or.inr rfl)) hP hS dX5_readPoint_135
            · have h := o_f b15 h
              refine lv_iconst (v := 0) hx hb dX5_readPoint_100 (by decide) ?_
              cases h
              exact fin _ _ _ _ (nar_z (Or.inl rfl)) hP hS dX5_readPoint_101
        · have h := o_f b6 h
          refine lv_iconst (v := 0) hx hb dX5_readPoint_67 (by decide) ?_
          cases h
          exact fin _ _ _ _ (nar_z (Or.inl rfl)) hP hS dX5_readPoint_68
      · have h := o_t b5 h
        refine lv_aload_n hx hb dX5_readPoint_49 rfl (lv_at hl 1 rfl) ?_
        refine lv_bipush (v := 20) hx hb dX5_readPoint_50 (by decide) ?_
        obtain ⟨r21, c21, h⟩ := o_b h
        refine mcallV X (As := [.int 20]) (rest := []) (ws1 := wX5_readPoint g q_o q_o_bytes q_p1 q_p1_ws q_p1_xs q_p1_ys o_filled o_length r21.2.2.2.2.2 r21.2.2.2.2.1 r21.2.2.2.1 r21.2.1 r21.2.2.1 o_bytes p1_count p1_mode p1_degree p1_ws p1_xs p1_ys) (st1 := [.int r21.1]) (kX5_readSigned D g x l q_o q_o_bytes o_filled o_length r3.2.2.2.2.2 r3.2.2.2.2.1 r3.2.2.2.1 r3.2.1 r3.2.2.1 o_bytes 20 r21 c21) mw_X5_readSigned ml_X5_85 ⟨Nat.le_of_ble_eq_true rfl, Nat.le_of_ble_eq_true rfl⟩ hP hD hS [0, 1] (by decide +kernel) rfl rfl 0 rfl rfl rfl hl.1 rfl (Nat.le_of_ble_eq_true rfl) dX5_readPoint_52 ⟨Nat.le_refl _, Nat.le_refl _⟩ rfl rfl (fun H locs hP hD hS => ?_)
        refine lv_goto (tgt := 59) hx hb dX5_readPoint_55 (by decide) ?_
        refine lv_istore_n (lv' := [(3, .int r21.1), (2, .int r3.1), (0, .ref q_o), (1, .ref q_p1)]) hx hb dX5_readPoint_59 rfl hl (by decide) rfl (fun ls hl => ?_)
        refine lv_aload_n hx hb dX5_readPoint_60 rfl (lv_at hl 2 rfl) ?_
        refine mget X fl_X5_31 hP 0 rfl rfl dX5_readPoint_61 ?_
        refine lv_if_eq (tgt := 69) hx hb dX5_readPoint_64 (by decide) (fun b22 => ?_) (fun b22 => ?_)
        · have h := o_t b22 h
          refine lv_iconst (v := 1) hx hb dX5_readPoint_69 (by decide) ?_
          refine lv_istore (lv' := [(4, .int 1), (3, .int r21.1), (2, .int r3.1), (0, .ref q_o), (1, .ref q_p1)]) hx hb dX5_readPoint_70 hl (by decide) rfl (fun ls hl => ?_)
          refine lv_aload_n hx hb dX5_readPoint_72 rfl (lv_at hl 3 rfl) ?_
          obtain ⟨r23, c23, h⟩ := o_b h
          refine mcallV X (As := []) (rest := []) (ws1 := wX5_readPoint g q_o q_o_bytes q_p1 q_p1_ws q_p1_xs q_p1_ys o_filled o_length r23.2.2 r23.2.1 r23.1 r21.2.1 r21.2.2.1 o_bytes p1_count p1_mode p1_degree p1_ws p1_xs p1_ys) (st1 := []) (kX5_step D g x l q_o q_o_bytes o_filled o_length r21.2.2.2.2.2 r21.2.2.2.2.1 r21.2.2.2.1 r21.2.1 r21.2.2.1 o_bytes  r23 c23) mw_X5_step ml_X5_42 ⟨Nat.le_of_ble_eq_true rfl, Nat.le_of_ble_eq_true rfl⟩ hP hD hS [0, 1] (by decide +kernel) rfl rfl 0 rfl rfl rfl hl.1 rfl (Nat.le_of_ble_eq_true rfl) dX5_readPoint_73 ⟨Nat.le_refl _, Nat.le_refl _⟩ rfl rfl (fun H locs hP hD hS => ?_)
          refine lv_aload_n hx hb dX5_readPoint_76 rfl (lv_at hl 3 rfl) ?_
          refine va_ldcS hx hb hown (ldc_X5_91 hE) dX5_readPoint_77 ?_
          obtain ⟨r24, c24, h⟩ := o_b h
          refine mcallV X (As := [.ref (x.1 4)]) (rest := []) (ws1 := wX5_readPoint g q_o q_o_bytes q_p1 q_p1_ws q_p1_xs q_p1_ys o_filled o_length r23.2.2 r23.2.1 r23.1 r21.2.1 r21.2.2.1 o_bytes p1_count p1_mode p1_degree p1_ws p1_xs p1_ys) (st1 := [.int r24]) (kX5_isWord D g x l q_o q_o_bytes o_filled o_length r23.2.2 r23.2.1 r23.1 r21.2.1 r21.2.2.1 o_bytes 4 (by decide) r24 c24) mw_X5_isWord ml_X5_51 ⟨Nat.le_of_ble_eq_true rfl, Nat.le_of_ble_eq_true rfl⟩ hP hD hS [0, 1] (by decide +kernel) rfl rfl 0 rfl rfl rfl hl.1 rfl (Nat.le_of_ble_eq_true rfl) dX5_readPoint_79 ⟨Nat.le_refl _, Nat.le_refl _⟩ rfl rfl (fun H locs hP hD hS => ?_)
          refine lv_if_eq (tgt := 106) hx hb dX5_readPoint_82 (by decide) (fun b25 => ?_) (fun b25 => ?_)
          · have h := o_t b25 h
            refine lv_aload_n hx hb dX5_readPoint_106 rfl (lv_at hl 4 rfl) ?_
            refine lv_iload_n hx hb dX5_readPoint_107 rfl (lv_at hl 2 rfl) ?_
            refine lv_iload_n hx hb dX5_readPoint_108 rfl (lv_at hl 1 rfl) ?_
            refine lv_iload hx hb dX5_readPoint_109 (lv_at hl 0 rfl) ?_
            obtain ⟨r26, c26, h⟩ := o_b h
            refine mcallV X (As := [.int r3.1, .int r21.1, .int 1]) (rest := []) (ws1 := wX5_readPoint g q_o q_o_bytes q_p1 q_p1_ws q_p1_xs q_p1_ys o_filled o_length r23.2.2 r23.2.1 r23.1 r21.2.1 r21.2.2.1 o_bytes r26.1 p1_mode p1_degree r26.2.1 r26.2.2.1 r26.2.2.2) (st1 := []) (kX3_append D g x l q_p1 q_p1_ws q_p1_xs q_p1_ys p1_count p1_mode p1_degree p1_ws p1_xs p1_ys r3.1 r21.1 1 r26 c26) mw_X3_append ml_X5_93 ⟨Nat.le_of_ble_eq_true rfl, Nat.le_of_ble_eq_true rfl⟩ hP hD hS [2, 3, 4, 5] (by decide +kernel) rfl rfl 2 rfl rfl rfl hl.1 rfl (Nat.le_of_ble_eq_true rfl) dX5_readPoint_111 ⟨Nat.le_refl _, Nat.le_refl _⟩ rfl rfl (fun H locs hP hD hS => ?_)
            refine lv_aload_n hx hb dX5_readPoint_114 rfl (lv_at hl 3 rfl) ?_
            refine mget X fl_X5_22 hP 0 rfl rfl dX5_readPoint_115 ?_
            refine lv_iconst (v := 4) hx hb dX5_readPoint_118 (by decide) ?_
            refine lv_icmp_eq (tgt := 130) hx hb dX5_readPoint_119 (by decide) (fun b27 => ?_) (fun b27 => ?_)
            · have h := o_t b27 h
              refine lv_iconst (v := 1) hx hb dX5_readPoint_130 (by decide) ?_
              refine lv_goto (tgt := 135) hx hb dX5_readPoint_131 (by decide) ?_
              cases h
              exact fin _ _ _ _ (nar_z (Or.inr rfl)) hP hS dX5_readPoint_135
            · have h := o_f b27 h
              refine lv_aload_n hx hb dX5_readPoint_122 rfl (lv_at hl 3 rfl) ?_
              refine lv_iconst (v := 2) hx hb dX5_readPoint_123 (by decide) ?_
              obtain ⟨r28, c28, h⟩ := o_b h
              refine mcallV X (As := [.int 2]) (rest := []) (ws1 := wX5_readPoint g q_o q_o_bytes q_p1 q_p1_ws q_p1_xs q_p1_ys o_filled o_length r23.2.2 r23.2.1 r23.1 r28.2.1 r28.2.2 o_bytes r26.1 p1_mode p1_degree r26.2.1 r26.2.2.1 r26.2.2.2) (st1 := [.int r28.1]) (kX5_fail D g x l q_o q_o_bytes o_filled o_length r23.2.2 r23.2.1 r23.1 r21.2.1 r21.2.2.1 2 r28 c28) mw_X5_fail ml_X5_74 ⟨Nat.le_of_ble_eq_true rfl, Nat.le_of_ble_eq_true rfl⟩ hP hD hS [0] (by decide +kernel) rfl rfl 0 rfl rfl rfl hl.1 rfl (Nat.le_of_ble_eq_true rfl) dX5_readPoint_124 ⟨Nat.le_refl _, Nat.le_refl _⟩ rfl rfl (fun H locs hP hD hS => ?_)
              refine lv_if_eq (tgt := 134) hx hb dX5_readPoint_127 (by decide) (fun b29 => ?_) (fun b29 => ?_)
              · have h := o_t b29 h
                refine lv_iconst (v := 0) hx hb dX5_readPoint_134 (by decide) ?_
                cases h
                exact fin _ _ _ _ (nar_z (Or.inl rfl)) hP hS dX5_readPoint_135
              · have h := o_f b29 h
                refine lv_iconst (v := 1) hx hb dX5_readPoint_130 (by decide) ?_
                refine lv_goto (tgt := 135) hx hb dX5_readPoint_131 (by decide) ?_
                cases h
                exact fin _ _ _ _ (nar_z (Or.inr rfl)) hP hS dX5_readPoint_135
          · have h := o_f b25 h
            refine lv_aload_n hx hb dX5_readPoint_85 rfl (lv_at hl 3 rfl) ?_
            refine lv_bipush (v := 9) hx hb dX5_readPoint_86 (by decide) ?_
            obtain ⟨r30, c30, h⟩ := o_b h
            refine mcallV X (As := [.int 9]) (rest := []) (ws1 := wX5_readPoint g q_o q_o_bytes q_p1 q_p1_ws q_p1_xs q_p1_ys o_filled o_length r30.2.2.2.2.2 r30.2.2.2.2.1 r30.2.2.2.1 r30.2.1 r30.2.2.1 o_bytes p1_count p1_mode p1_degree p1_ws p1_xs p1_ys) (st1 := [.int r30.1]) (kX5_readSigned D g x l q_o q_o_bytes o_filled o_length r23.2.2 r23.2.1 r23.1 r21.2.1 r21.2.2.1 o_bytes 9 r30 c30) mw_X5_readSigned ml_X5_85 ⟨Nat.le_of_ble_eq_true rfl, Nat.le_of_ble_eq_true rfl⟩ hP hD hS [0, 1] (by decide +kernel) rfl rfl 0 rfl rfl rfl hl.1 rfl (Nat.le_of_ble_eq_true rfl) dX5_readPoint_88 ⟨Nat.le_refl _, Nat.le_refl _⟩ rfl rfl (fun H locs hP hD hS => ?_)
            refine lv_istore (lv' := [(4, .int r30.1), (3, .int r21.1), (2, .int r3.1), (0, .ref q_o), (1, .ref q_p1)]) hx hb dX5_readPoint_91 hl (by decide) rfl (fun ls hl => ?_)
            refine lv_aload_n hx hb dX5_readPoint_93 rfl (lv_at hl 3 rfl) ?_
            refine mget X fl_X5_31 hP 0 rfl rfl dX5_readPoint_94 ?_
            refine lv_if_eq (tgt := 102) hx hb dX5_readPoint_97 (by decide) (fun b31 => ?_) (fun b31 => ?_)
            · have h := o_t b31 h
              refine lv_aload_n hx hb dX5_readPoint_102 rfl (lv_at hl 3 rfl) ?_
              obtain ⟨r32, c32, h⟩ := o_b h
              refine mcallV X (As := []) (rest := []) (ws1 := wX5_readPoint g q_o q_o_bytes q_p1 q_p1_ws q_p1_xs q_p1_ys o_filled o_length r32.2.2 r32.2.1 r32.1 r30.2.1 r30.2.2.1 o_bytes p1_count p1_mode p1_degree p1_ws p1_xs p1_ys) (st1 := []) (kX5_step D g x l q_o q_o_bytes o_filled o_length r30.2.2.2.2.2 r30.2.2.2.2.1 r30.2.2.2.1 r30.2.1 r30.2.2.1 o_bytes  r32 c32) mw_X5_step ml_X5_42 ⟨Nat.le_of_ble_eq_true rfl, Nat.le_of_ble_eq_true rfl⟩ hP hD hS [0, 1] (by decide +kernel) rfl rfl 0 rfl rfl rfl hl.1 rfl (Nat.le_of_ble_eq_true rfl) dX5_readPoint_103 ⟨Nat.le_refl _, Nat.le_refl _⟩ rfl rfl (fun H locs hP hD hS => ?_)
              refine lv_aload_n hx hb dX5_readPoint_106 rfl (lv_at hl 4 rfl) ?_
              refine lv_iload_n hx hb dX5_readPoint_107 rfl (lv_at hl 2 rfl) ?_
              refine lv_iload_n hx hb dX5_readPoint_108 rfl (lv_at hl 1 rfl) ?_
              refine lv_iload hx hb dX5_readPoint_109 (lv_at hl 0 rfl) ?_
              obtain ⟨r33, c33, h⟩ := o_b h
              refine mcallV X (As := [.int r3.1, .int r21.1, .int r30.1]) (rest := []) (ws1 := wX5_readPoint g q_o q_o_bytes q_p1 q_p1_ws q_p1_xs q_p1_ys o_filled o_length r32.2.2 r32.2.1 r32.1 r30.2.1 r30.2.2.1 o_bytes r33.1 p1_mode p1_degree r33.2.1 r33.2.2.1 r33.2.2.2) (st1 := []) (kX3_append D g x l q_p1 q_p1_ws q_p1_xs q_p1_ys p1_count p1_mode p1_degree p1_ws p1_xs p1_ys r3.1 r21.1 r30.1 r33 c33) mw_X3_append ml_X5_93 ⟨Nat.le_of_ble_eq_true rfl, Nat.le_of_ble_eq_true rfl⟩ hP hD hS [2, 3, 4, 5] (by decide +kernel) rfl rfl 2 rfl rfl rfl hl.1 rfl (Nat.le_of_ble_eq_true rfl) dX5_readPoint_111 ⟨Nat.le_refl _, Nat.le_refl _⟩ rfl rfl (fun H locs hP hD hS => ?_)
              refine lv_aload_n hx hb dX5_readPoint_114 rfl (lv_at hl 3 rfl) ?_
              refine mget X fl_X5_22 hP 0 rfl rfl dX5_readPoint_115 ?_
              refine lv_iconst (v := 4) hx hb dX5_readPoint_118 (by decide) ?_
              refine lv_icmp_eq (tgt := 130) hx hb dX5_readPoint_119 (by decide) (fun b34 => ?_) (fun b34 => ?_)
              · have h := o_t b34 h
                refine lv_iconst (v := 1) hx hb dX5_readPoint_130 (by decide) ?_
                refine lv_goto (tgt := 135) hx hb dX5_readPoint_131 (by decide) ?_
                cases h
                exact fin _ _ _ _ (nar_z (Or.inr rfl)) hP hS dX5_readPoint_135
              · have h := o_f b34 h
                refine lv_aload_n hx hb dX5_readPoint_122 rfl (lv_at hl 3 rfl) ?_
                refine lv_iconst (v := 2) hx hb dX5_readPoint_123 (by decide) ?_
                obtain ⟨r35, c35, h⟩ := o_b h
                refine mcallV X (As := [.int 2]) (rest := []) (ws1 := wX5_readPoint g q_o q_o_bytes q_p1 q_p1_ws q_p1_xs q_p1_ys o_filled o_length r32.2.2 r32.2.1 r32.1 r35.2.1 r35.2.2 o_bytes r33.1 p1_mode p1_degree r33.2.1 r33.2.2.1 r33.2.2.2) (st1 := [.int r35.1]) (kX5_fail D g x l q_o q_o_bytes o_filled o_length r32.2.2 r32.2.1 r32.1 r30.2.1 r30.2.2.1 2 r35 c35) mw_X5_fail ml_X5_74 ⟨Nat.le_of_ble_eq_true rfl, Nat.le_of_ble_eq_true rfl⟩ hP hD hS [0] (by decide +kernel) rfl rfl 0 rfl rfl rfl hl.1 rfl (Nat.le_of_ble_eq_true rfl) dX5_readPoint_124 ⟨Nat.le_refl _, Nat.le_refl _⟩ rfl rfl (fun H locs hP hD hS => ?_)
                refine lv_if_eq (tgt := 134) hx hb dX5_readPoint_127 (by decide) (fun b36 => ?_) (fun b36 => ?_)
                · have h := o_t b36 h
                  refine lv_iconst (v := 0) hx hb dX5_readPoint_134 (by decide) ?_
                  cases h
                  exact fin _ _ _ _ (nar_z (Or.inl rfl)) hP hS dX5_readPoint_135
                · have h := o_f b36 h
                  refine lv_iconst (v := 1) hx hb dX5_readPoint_130 (by decide) ?_
                  refine lv_goto (tgt := 135) hx hb dX5_readPoint_131 (by decide) ?_
                  cases h
                  exact fin _ _ _ _ (nar_z (Or.inr rfl)) hP hS dX5_readPoint_135
            · have h := o_f b31 h
              refine lv_iconst (v := 0) hx hb dX5_readPoint_100 (by decide) ?_
              cases h
              exact fin _ _ _ _ (nar_z (Or.inl rfl)) hP hS dX5_readPoint_101
        · have h := o_f b22 h
          refine lv_iconst (v := 0) hx hb dX5_readPoint_67 (by decide) ?_
          cases h
          exact fin _ _ _ _ (nar_z (Or.inl rfl)) hP hS dX5_readPoint_68
    · have h := o_t b4 h
      refine lv_aload_n hx hb dX5_readPoint_27 rfl (lv_at hl 2 rfl) ?_
      refine lv_iload_n hx hb dX5_readPoint_28 rfl (lv_at hl 0 rfl) ?_
      obtain ⟨r37, c37, h⟩ := o_b h
      refine mcallV X (As := [.int r3.1]) (rest := []) (ws1 := wX5_readPoint g q_o q_o_bytes q_p1 q_p1_ws q_p1_xs q_p1_ys o_filled o_length r3.2.2.2.2.2 r3.2.2.2.2.1 r3.2.2.2.1 r3.2.1 r3.2.2.1 o_bytes p1_count p1_mode p1_degree p1_ws p1_xs p1_ys) (st1 := [.int r37]) (kX3_find D g x l q_p1 q_p1_xs q_p1_ys q_p1_ws p1_count p1_mode p1_degree p1_xs r3.1 r37 c37) mw_X3_find ml_X5_88 ⟨Nat.le_of_ble_eq_true rfl, Nat.le_of_ble_eq_true rfl⟩ hP hD hS [2, 4] (by decide +kernel) rfl rfl 2 rfl rfl rfl hl.1 rfl (Nat.le_of_ble_eq_true rfl) dX5_readPoint_29 ⟨Nat.le_refl _, Nat.le_refl _⟩ rfl rfl (fun H locs hP hD hS => ?_)
      refine lv_iconst (v := (-1)) hx hb dX5_readPoint_32 (by decide) ?_
      refine lv_icmp_eq (tgt := 42) hx hb dX5_readPoint_33 (by decide) (fun b38 => ?_) (fun b38 => ?_)
      · have h := o_t b38 h
        refine lv_aload_n hx hb dX5_readPoint_42 rfl (lv_at hl 1 rfl) ?_
        refine mget X fl_X5_31 hP 0 rfl rfl dX5_readPoint_43 ?_
        refine lv_if_ne (tgt := 58) hx hb dX5_readPoint_46 (by decide) (fun b39 => ?_) (fun b39 => ?_)
        · have h := o_f b39 h
          refine lv_iconst (v := 0) hx hb dX5_readPoint_58 (by decide) ?_
          refine lv_istore_n (lv' := [(3, .int 0), (2, .int r3.1), (0, .ref q_o), (1, .ref q_p1)]) hx hb dX5_readPoint_59 rfl hl (by decide) rfl (fun ls hl => ?_)
          refine lv_aload_n hx hb dX5_readPoint_60 rfl (lv_at hl 2 rfl) ?_
          refine mget X fl_X5_31 hP 0 rfl rfl dX5_readPoint_61 ?_
          refine lv_if_eq (tgt := 69) hx hb dX5_readPoint_64 (by decide) (fun b40 => ?_) (fun b40 => ?_)
          · have h := o_t b40 h
            refine lv_iconst (v := 1) hx hb dX5_readPoint_69 (by decide) ?_
            refine lv_istore (lv' := [(4, .int 1), (3, .int 0), (2, .int r3.1), (0, .ref q_o), (1, .ref q_p1)]) hx hb dX5_readPoint_70 hl (by decide) rfl (fun ls hl => ?_)
            refine lv_aload_n hx hb dX5_readPoint_72 rfl (lv_at hl 3 rfl) ?_
            obtain ⟨r41, c41, h⟩ := o_b h
            refine mcallV X (As := []) (rest := []) (ws1 := wX5_readPoint g q_o q_o_bytes q_p1 q_p1_ws q_p1_xs q_p1_ys o_filled o_length r41.2.2 r41.2.1 r41.1 r3.2.1 r3.2.2.1 o_bytes p1_count p1_mode p1_degree p1_ws p1_xs p1_ys) (st1 := []) (kX5_step D g x l q_o q_o_bytes o_filled o_length r3.2.2.2.2.2 r3.2.2.2.2.1 r3.2.2.2.1 r3.2.1 r3.2.2.1 o_bytes  r41 c41) mw_X5_step ml_X5_42 ⟨Nat.le_of_ble_eq_true rfl, Nat.le_of_ble_eq_true rfl⟩ hP hD hS [0, 1] (by decide +kernel) rfl rfl 0 rfl rfl rfl hl.1 rfl (Nat.le_of_ble_eq_true rfl) dX5_readPoint_73 ⟨Nat.le_refl _, Nat.le_refl _⟩ rfl rfl (fun H locs hP hD hS => ?_)
            refine lv_aload_n hx hb dX5_readPoint_76 rfl (lv_at hl 3 rfl) ?_
            refine va_ldcS hx hb hown (ldc_X5_91 hE) dX5_readPoint_77 ?_
            obtain ⟨r42, c42, h⟩ := o_b h
            refine mcallV X (As := [.ref (x.1 4)]) (rest := []) (ws1 := wX5_readPoint g q_o q_o_bytes q_p1 q_p1_ws q_p1_xs q_p1_ys o_filled o_length r41.2.2 r41.2.1 r41.1 r3.2.1 r3.2.2.1 o_bytes p1_count p1_mode p1_degree p1_ws p1_xs p1_ys) (st1 := [.int r42]) (kX5_isWord D g x l q_o q_o_bytes o_filled o_length r41.2.2 r41.2.1 r41.1 r3.2.1 r3.2.2.1 o_bytes 4 (by decide) r42 c42) mw_X5_isWord ml_X5_51 ⟨Nat.le_of_ble_eq_true rfl, Nat.le_of_ble_eq_true rfl⟩ hP hD hS [0, 1] (by decide +kernel) rfl rfl 0 rfl rfl rfl hl.1 rfl (Nat.le_of_ble_eq_true rfl) dX5_readPoint_79 ⟨Nat.le_refl _, Nat.le_refl _⟩ rfl rfl (fun H locs hP hD hS => ?_)
            refine lv_if_eq (tgt := 106) hx hb dX5_readPoint_82 (by decide) (fun b43 => ?_) (fun b43 => ?_)
            · have h := o_t b43 h
              refine lv_aload_n hx hb dX5_readPoint_106 rfl (lv_at hl 4 rfl) ?_
              refine lv_iload_n hx hb dX5_readPoint_107 rfl (lv_at hl 2 rfl) ?_
              refine lv_iload_n hx hb dX5_readPoint_108 rfl (lv_at hl 1 rfl) ?_
              refine lv_iload hx hb dX5_readPoint_109 (lv_at hl 0 rfl) ?_
              obtain ⟨r44, c44, h⟩ := o_b h
              refine mcallV X (As := [.int r3.1, .int 0, .int 1]) (rest := []) (ws1 := wX5_readPoint g q_o q_o_bytes q_p1 q_p1_ws q_p1_xs q_p1_ys o_filled o_length r41.2.2 r41.2.1 r41.1 r3.2.1 r3.2.2.1 o_bytes r44.1 p1_mode p1_degree r44.2.1 r44.2.2.1 r44.2.2.2) (st1 := []) (kX3_append D g x l q_p1 q_p1_ws q_p1_xs q_p1_ys p1_count p1_mode p1_degree p1_ws p1_xs p1_ys r3.1 0 1 r44 c44) mw_X3_append ml_X5_93 ⟨Nat.le_of_ble_eq_true rfl, Nat.le_of_ble_eq_true rfl⟩ hP hD hS [2, 3, 4, 5] (by decide +kernel) rfl rfl 2 rfl rfl rfl hl.1 rfl (Nat.le_of_ble_eq_true rfl) dX5_readPoint_111 ⟨Nat.le_refl _, Nat.le_refl _⟩ rfl rfl (fun H locs hP hD hS => ?_)
              refine lv_aload_n hx hb dX5_readPoint_114 rfl (lv_at hl 3 rfl) ?_
              refine mget X fl_X5_22 hP 0 rfl rfl dX5_readPoint_115 ?_
              refine lv_iconst (v := 4) hx hb dX5_readPoint_118 (by decide) ?_
              refine lv_icmp_eq (tgt := 130) hx hb dX5_readPoint_119 (by decide) (fun b45 => ?_) (fun b45 => ?_)
              · have h := o_t b45 h
                refine lv_iconst (v := 1) hx hb dX5_readPoint_130 (by decide) ?_
                refine lv_goto (tgt := 135) hx hb dX5_readPoint_131 (by decide) ?_
                cases h
                exact fin _ _ _ _ (nar_z (Or.inr rfl)) hP hS dX5_readPoint_135
              · have h := o_f b45 h
                refine lv_aload_n hx hb dX5_readPoint_122 rfl (lv_at hl 3 rfl) ?_
                refine lv_iconst (v := 2) hx hb dX5_readPoint_123 (by decide) ?_
                obtain ⟨r46, c46, h⟩ := o_b h
                refine mcallV X (As := [.int 2]) (rest := []) (ws1 := wX5_readPoint g q_o q_o_bytes q_p1 q_p1_ws q_p1_xs q_p1_ys o_filled o_length r41.2.2 r41.2.1 r41.1 r46.2.1 r46.2.2 o_bytes r44.1 p1_mode p1_degree r44.2.1 r44.2.2.1 r44.2.2.2) (st1 := [.int r46.1]) (kX5_fail D g x l q_o q_o_bytes o_filled o_length r41.2.2 r41.2.1 r41.1 r3.2.1 r3.2.2.1 2 r46 c46) mw_X5_fail ml_X5_74 ⟨Nat.le_of_ble_eq_true rfl, Nat.le_of_ble_eq_true rfl⟩ hP hD hS [0] (by decide +kernel) rfl rfl 0 rfl rfl rfl hl.1 rfl (Nat.le_of_ble_eq_true rfl) dX5_readPoint_124 ⟨Nat.le_refl _, Nat.le_refl _⟩ rfl rfl (fun H locs hP hD hS => ?_)
                refine lv_if_eq (tgt := 134) hx hb dX5_readPoint_127 (by decide) (fun b47 => ?_) (fun b47 => ?_)
                · have h := o_t b47 h
                  refine lv_iconst (v := 0) hx hb dX5_readPoint_134 (by decide) ?_
                  cases h
                  exact fin _ _ _ _ (nar_z (Or.inl rfl)) hP hS dX5_readPoint_135
                · have h := o_f b47 h
                  refine lv_iconst (v := 1) hx hb dX5_readPoint_130 (by decide) ?_
                  refine lv_goto (tgt := 135) hx hb dX5_readPoint_131 (by decide) ?_
                  cases h
                  exact fin _ _ _ _ (nar_z (Or.inr rfl)) hP hS dX5_readPoint_135
            · have h := o_f b43 h
              refine lv_aload_n hx hb dX5_readPoint_85 rfl (lv_at hl 3 rfl) ?_
              refine lv_bipush (v := 9) hx hb dX5_readPoint_86 (by decide) ?_
              obtain ⟨r48, c48, h⟩ := o_b h
              refine mcallV X (As := [.int 9]) (rest := []) (ws1 := wX5_readPoint g q_o q_o_bytes q_p1 q_p1_ws q_p1_xs q_p1_ys o_filled o_length r48.2.2.2.2.2 r48.2.2.2.2.1 r48.2.2.2.1 r48.2.1 r48.2.2.1 o_bytes p1_count p1_mode p1_degree p1_ws p1_xs p1_ys) (st1 := [.int r48.1]) (kX5_readSigned D g x l q_o q_o_bytes o_filled o_length r41.2.2 r41.2.1 r41.1 r3.2.1 r3.2.2.1 o_bytes 9 r48 c48) mw_X5_readSigned ml_X5_85 ⟨Nat.le_of_ble_eq_true rfl, Nat.le_of_ble_eq_true rfl⟩ hP hD hS [0, 1] (by decide +kernel) rfl rfl 0 rfl rfl rfl hl.1 rfl (Nat.le_of_ble_eq_true rfl) dX5_readPoint_88 ⟨Nat.le_refl _, Nat.le_refl _⟩ rfl rfl (fun H locs hP hD hS => ?_)
              refine lv_istore (lv' := [(4, .int r48.1), (3, .int 0), (2, .int r3.1), (0, .ref q_o), (1, .ref q_p1)]) hx hb dX5_readPoint_91 hl (by decide) rfl (fun ls hl => ?_)
              refine lv_aload_n hx hb dX5_readPoint_93 rfl (lv_at hl 3 rfl) ?_
              refine mget X fl_X5_31 hP 0 rfl rfl dX5_readPoint_94 ?_
              refine lv_if_eq (tgt := 102) hx hb dX5_readPoint_97 (by decide) (fun b49 => ?_) (fun b49 => ?_)
              · have h := o_t b49 h
                refine lv_aload_n hx hb dX5_readPoint_102 rfl (lv_at hl 3 rfl) ?_
                obtain ⟨r50, c50, h⟩ := o_b h
                refine mcallV X (As := []) (rest := []) (ws1 := wX5_readPoint g q_o q_o_bytes q_p1 q_p1_ws q_p1_xs q_p1_ys o_filled o_length r50.2.2 r50.2.1 r50.1 r48.2.1 r48.2.2.1 o_bytes p1_count p1_mode p1_degree p1_ws p1_xs p1_ys) (st1 := []) (kX5_step D g x l q_o q_o_bytes o_filled o_length r48.2.2.2.2.2 r48.2.2.2.2.1 r48.2.2.2.1 r48.2.1 r48.2.2.1 o_bytes  r50 c50) mw_X5_step ml_X5_42 ⟨Nat.le_of_ble_eq_true rfl, Nat.le_of_ble_eq_true rfl⟩ hP hD hS [0, 1] (by decide +kernel) rfl rfl 0 rfl rfl rfl hl.1 rfl (Nat.le_of_ble_eq_true rfl) dX5_readPoint_103 ⟨Nat.le_refl _, Nat.le_refl _⟩ rfl rfl (fun H locs hP hD hS => ?_)
                refine lv_aload_n hx hb dX5_readPoint_106 rfl (lv_at hl 4 rfl) ?_
                refine lv_iload_n hx hb dX5_readPoint_107 rfl (lv_at hl 2 rfl) ?_
                refine lv_iload_n hx hb dX5_readPoint_108 rfl (lv_at hl 1 rfl) ?_
                refine lv_iload hx hb dX5_readPoint_109 (lv_at hl 0 rfl) ?_
                obtain ⟨r51, c51, h⟩ := o_b h
                refine mcallV X (As := [.int r3.1, .int 0, .int r48.1]) (rest := []) (ws1 := wX5_readPoint g q_o q_o_bytes q_p1 q_p1_ws q_p1_xs q_p1_ys o_filled o_length r50.2.2 r50.2.1 r50.1 r48.2.1 r48.2.2.1 o_bytes r51.1 p1_mode p1_degree r51.2.1 r51.2.2.1 r51.2.2.2) (st1 := []) (kX3_append D g x l q_p1 q_p1_ws q_p1_xs q_p1_ys p1_count p1_mode p1_degree p1_ws p1_xs p1_ys r3.1 0 r48.1 r51 c51) mw_X3_append ml_X5_93 ⟨Nat.le_of_ble_eq_true rfl, Nat.le_of_ble_eq_true rfl⟩ hP hD hS [2, 3, 4, 5] (by decide +kernel) rfl rfl 2 rfl rfl rfl hl.1 rfl (Nat.le_of_ble_eq_true rfl) dX5_readPoint_111 ⟨Nat.le_refl _, Nat.le_refl _⟩ rfl rfl (fun H locs hP hD hS => ?_)
                refine lv_aload_n hx hb dX5_readPoint_114 rfl (lv_at hl 3 rfl) ?_
                refine mget X fl_X5_22 hP 0 rfl rfl dX5_readPoint_115 ?_
                refine lv_iconst (v := 4) hx hb dX5_readPoint_118 (by decide) ?_
                refine lv_icmp_eq (tgt := 130) hx hb dX5_readPoint_119 (by decide) (fun b52 => ?_) (fun b52 => ?_)
                · have h := o_t b52 h
                  refine lv_iconst (v := 1) hx hb dX5_readPoint_130 (by decide) ?_
                  refine lv_goto (tgt := 135) hx hb dX5_readPoint_131 (by decide) ?_
                  cases h
                  exact fin _ _ _ _ (nar_z (Or.inr rfl)) hP hS dX5_readPoint_135
                · have h := o_f b52 h
                  refine lv_aload_n hx hb dX5_readPoint_122 rfl (lv_at hl 3 rfl) ?_
                  refine lv_iconst (v := 2) hx hb dX5_readPoint_123 (by decide) ?_
                  obtain ⟨r53, c53, h⟩ := o_b h
                  refine mcallV X (As := [.int 2]) (rest := []) (ws1 := wX5_readPoint g q_o q_o_bytes q_p1 q_p1_ws q_p1_xs q_p1_ys o_filled o_length r50.2.2 r50.2.1 r50.1 r53.2.1 r53.2.2 o_bytes r51.1 p1_mode p1_degree r51.2.1 r51.2.2.1 r51.2.2.2) (st1 := [.int r53.1]) (kX5_fail D g x l q_o q_o_bytes o_filled o_length r50.2.2 r50.2.1 r50.1 r48.2.1 r48.2.2.1 2 r53 c53) mw_X5_fail ml_X5_74 ⟨Nat.le_of_ble_eq_true rfl, Nat.le_of_ble_eq_true rfl⟩ hP hD hS [0] (by decide +kernel) rfl rfl 0 rfl rfl rfl hl.1 rfl (Nat.le_of_ble_eq_true rfl) dX5_readPoint_124 ⟨Nat.le_refl _, Nat.le_refl _⟩ rfl rfl (fun H locs hP hD hS => ?_)
                  refine lv_if_eq (tgt := 134) hx hb dX5_readPoint_127 (by decide) (fun b54 => ?_) (fun b54 => ?_)
                  · have h := o_t b54 h
                    refine lv_iconst (v := 0) hx hb dX5_readPoint_134 (by decide) ?_
                    cases h
                    exact fin _ _ _ _ (nar_z (Or.inl rfl)) hP hS dX5_readPoint_135
                  · have h := o_f b54 h
                    refine lv_iconst (v := 1) hx hb dX5_readPoint_130 (by decide) ?_
                    refine lv_goto (tgt := 135) hx hb dX5_readPoint_131 (by decide) ?_
                    cases h
                    exact fin _ _ _ _ (nar_z (Or.inr rfl)) hP hS dX5_readPoint_135
              · have h := o_f b49 h
                refine lv_iconst (v := 0) hx hb dX5_readPoint_100 (by decide) ?_
                cases h
                exact fin _ _ _ _ (nar_z (Or.inl rfl)) hP hS dX5_readPoint_101
          · have h := o_f b40 h
            refine lv_iconst (v := 0) hx hb dX5_readPoint_67 (by decide) ?_
            cases h
            exact fin _ _ _ _ (nar_z (Or.inl rfl)) hP hS dX5_readPoint_68
        · have h := o_t b39 h
          refine lv_aload_n hx hb dX5_readPoint_49 rfl (lv_at hl 1 rfl) ?_
          refine lv_bipush (v := 20) hx hb dX5_readPoint_50 (by decide) ?_
          obtain ⟨r55, c55, h⟩ := o_b h
          refine mcallV X (As := [.int 20]) (rest := []) (ws1 := wX5_readPoint g q_o q_o_bytes q_p1 q_p1_ws q_p1_xs q_p1_ys o_filled o_length r55.2.2.2.2.2 r55.2.2.2.2.1 r55.2.2.2.1 r55.2.1 r55.2.2.1 o_bytes p1_count p1_mode p1_degree p1_ws p1_xs p1_ys) (st1 := [.int r55.1]) (kX5_readSigned D g x l q_o q_o_bytes o_filled o_length r3.2.2.2.2.2 r3.2.2.2.2.1 r3.2.2.2.1 r3.2.1 r3.2.2.1 o_bytes 20 r55 c55) mw_X5_readSigned ml_X5_85 ⟨Nat.le_of_ble_eq_true rfl, Nat.le_of_ble_eq_true rfl⟩ hP hD hS [0, 1] (by decide +kernel) rfl rfl 0 rfl rfl rfl hl.1 rfl (Nat.le_of_ble_eq_true rfl) dX5_readPoint_52 ⟨Nat.le_refl _, Nat.le_refl _⟩ rfl rfl (fun H locs hP hD hS => ?_)
          refine lv_goto (tgt := 59) hx hb dX5_readPoint_55 (by decide) ?_
          refine lv_istore_n (lv' := [(3, .int r55.1), (2, .int r3.1), (0, .ref q_o), (1, .ref q_p1)]) hx hb dX5_readPoint_59 rfl hl (by decide) rfl (fun ls hl => ?_)
          refine lv_aload_n hx hb dX5_readPoint_60 rfl (lv_at hl 2 rfl) ?_
          refine mget X fl_X5_31 hP 0 rfl rfl dX5_readPoint_61 ?_
          refine lv_if_eq (tgt := 69) hx hb dX5_readPoint_64 (by decide) (fun b56 => ?_) (fun b56 => ?_)
          · have h := o_t b56 h
            refine lv_iconst (v := 1) hx hb dX5_readPoint_69 (by decide) ?_
            refine lv_istore (lv' := [(4, .int 1), (3, .int r55.1), (2, .int r3.1), (0, .ref q_o), (1, .ref q_p1)]) hx hb dX5_readPoint_70 hl (by decide) rfl (fun ls hl => ?_)
            refine lv_aload_n hx hb dX5_readPoint_72 rfl (lv_at hl 3 rfl) ?_
            obtain ⟨r57, c57, h⟩ := o_b h
            refine mcallV X (As := []) (rest := []) (ws1 := wX5_readPoint g q_o q_o_bytes q_p1 q_p1_ws q_p1_xs q_p1_ys o_filled o_length r57.2.2 r57.2.1 r57.1 r55.2.1 r55.2.2.1 o_bytes p1_count p1_mode p1_degree p1_ws p1_xs p1_ys) (st1 := []) (kX5_step D g x l q_o q_o_bytes o_filled o_length r55.2.2.2.2.2 r55.2.2.2.2.1 r55.2.2.2.1 r55.2.1 r55.2.2.1 o_bytes  r57 c57) mw_X5_step ml_X5_42 ⟨Nat.le_of_ble_eq_true rfl, Nat.le_of_ble_eq_true rfl⟩ hP hD hS [0, 1] (by decide +kernel) rfl rfl 0 rfl rfl rfl hl.1 rfl (Nat.le_of_ble_eq_true rfl) dX5_readPoint_73 ⟨Nat.le_refl _, Nat.le_refl _⟩ rfl rfl (fun H locs hP hD hS => ?_)
            refine lv_aload_n hx hb dX5_readPoint_76 rfl (lv_at hl 3 rfl) ?_
            refine va_ldcS hx hb hown (ldc_X5_91 hE) dX5_readPoint_77 ?_
            obtain ⟨r58, c58, h⟩ := o_b h
            refine mcallV X (As := [.ref (x.1 4)]) (rest := []) (ws1 := wX5_readPoint g q_o q_o_bytes q_p1 q_p1_ws q_p1_xs q_p1_ys o_filled o_length r57.2.2 r57.2.1 r57.1 r55.2.1 r55.2.2.1 o_bytes p1_count p1_mode p1_degree p1_ws p1_xs p1_ys) (st1 := [.int r58]) (kX5_isWord D g x l q_o q_o_bytes o_filled o_length r57.2.2 r57.2.1 r57.1 r55.2.1 r55.2.2.1 o_bytes 4 (by decide) r58 c58) mw_X5_isWord ml_X5_51 ⟨Nat.le_of_ble_eq_true rfl, Nat.le_of_ble_eq_true rfl⟩ hP hD hS [0, 1] (by decide +kernel) rfl rfl 0 rfl rfl rfl hl.1 rfl (Nat.le_of_ble_eq_true rfl) dX5_readPoint_79 ⟨Nat.le_refl _, Nat.le_refl _⟩ rfl rfl (fun H locs hP hD hS => ?_)
            refine lv_if_eq (tgt := 106) hx hb dX5_readPoint_82 (by decide) (fun b59 => ?_) (fun b59 => ?_)
            · have h := o_t b59 h
              refine lv_aload_n hx hb dX5_readPoint_106 rfl (lv_at hl 4 rfl) ?_
              refine lv_iload_n hx hb dX5_readPoint_107 rfl (lv_at hl 2 rfl) ?_
              refine lv_iload_n hx hb dX5_readPoint_108 rfl (lv_at hl 1 rfl) ?_
              refine lv_iload hx hb dX5_readPoint_109 (lv_at hl 0 rfl) ?_
              obtain ⟨r60, c60, h⟩ := o_b h
              refine mcallV X (As := [.int r3.1, .int r55.1, .int 1]) (rest := []) (ws1 := wX5_readPoint g q_o q_o_bytes q_p1 q_p1_ws q_p1_xs q_p1_ys o_filled o_length r57.2.2 r57.2.1 r57.1 r55.2.1 r55.2.2.1 o_bytes r60.1 p1_mode p1_degree r60.2.1 r60.2.2.1 r60.2.2.2) (st1 := []) (kX3_append D g x l q_p1 q_p1_ws q_p1_xs q_p1_ys p1_count p1_mode p1_degree p1_ws p1_xs p1_ys r3.1 r55.1 1 r60 c60) mw_X3_append ml_X5_93 ⟨Nat.le_of_ble_eq_true rfl, Nat.le_of_ble_eq_true rfl⟩ hP hD hS [2, 3, 4, 5] (by decide +kernel) rfl rfl 2 rfl rfl rfl hl.1 rfl (Nat.le_of_ble_eq_true rfl) dX5_readPoint_111 ⟨Nat.le_refl _, Nat.le_refl _⟩ rfl rfl (fun H locs hP hD hS => ?_)
              refine lv_aload_n hx hb dX5_readPoint_114 rfl (lv_at hl 3 rfl) ?_
              refine mget X fl_X5_22 hP 0 rfl rfl dX5_readPoint_115 ?_
              refine lv_iconst (v := 4) hx hb dX5_readPoint_118 (by decide) ?_
              refine lv_icmp_eq (tgt := 130) hx hb dX5_readPoint_119 (by decide) (fun b61 => ?_) (fun b61 => ?_)
              · have h := o_t b61 h
                refine lv_iconst (v := 1) hx hb dX5_readPoint_130 (by decide) ?_
                refine lv_goto (tgt := 135) hx hb dX5_readPoint_131 (by decide) ?_
                cases h
                exact fin _ _ _ _ (nar_z (Or.inr rfl)) hP hS dX5_readPoint_135
              · have h := o_f b61 h
                refine lv_aload_n hx hb dX5_readPoint_122 rfl (lv_at hl 3 rfl) ?_
                refine lv_iconst (v := 2) hx hb dX5_readPoint_123 (by decide) ?_
                obtain ⟨r62, c62, h⟩ := o_b h
                refine mcallV X (As := [.int 2]) (rest := []) (ws1 := wX5_readPoint g q_o q_o_bytes q_p1 q_p1_ws q_p1_xs q_p1_ys o_filled o_length r57.2.2 r57.2.1 r57.1 r62.2.1 r62.2.2 o_bytes r60.1 p1_mode p1_degree r60.2.1 r60.2.2.1 r60.2.2.2) (st1 := [.int r62.1]) (kX5_fail D g x l q_o q_o_bytes o_filled o_length r57.2.2 r57.2.1 r57.1 r55.2.1 r55.2.2.1 2 r62 c62) mw_X5_fail ml_X5_74 ⟨Nat.le_of_ble_eq_true rfl, Nat.le_of_ble_eq_true rfl⟩ hP hD hS [0] (by decide +kernel) rfl rfl 0 rfl rfl rfl hl.1 rfl (Nat.le_of_ble_eq_true rfl) dX5_readPoint_124 ⟨Nat.le_refl _, Nat.le_refl _⟩ rfl rfl (fun H locs hP hD hS => ?_)
                refine lv_if_eq (tgt := 134) hx hb dX5_readPoint_127 (by decide) (fun b63 => ?_) (fun b63 => ?_)
                · have h := o_t b63 h
                  refine lv_iconst (v := 0) hx hb dX5_readPoint_134 (by decide) ?_
                  cases h
                  exact fin _ _ _ _ (nar_z (Or.inl rfl)) hP hS dX5_readPoint_135
                · have h := o_f b63 h
                  refine lv_iconst (v := 1) hx hb dX5_readPoint_130 (by decide) ?_
                  refine lv_goto (tgt := 135) hx hb dX5_readPoint_131 (by decide) ?_
                  cases h
                  exact fin _ _ _ _ (nar_z (Or.inr rfl)) hP hS dX5_readPoint_135
            · have h := o_f b59 h
              refine lv_aload_n hx hb dX5_readPoint_85 rfl (lv_at hl 3 rfl) ?_
              refine lv_bipush (v := 9) hx hb dX5_readPoint_86 (by decide) ?_
              obtain ⟨r64, c64, h⟩ := o_b h
              refine mcallV X (As := [.int 9]) (rest := []) (ws1 := wX5_readPoint g q_o q_o_bytes q_p1 q_p1_ws q_p1_xs q_p1_ys o_filled o_length r64.2.2.2.2.2 r64.2.2.2.2.1 r64.2.2.2.1 r64.2.1 r64.2.2.1 o_bytes p1_count p1_mode p1_degree p1_ws p1_xs p1_ys) (st1 := [.int r64.1]) (kX5_readSigned D g x l q_o q_o_bytes o_filled o_length r57.2.2 r57.2.1 r57.1 r55.2.1 r55.2.2.1 o_bytes 9 r64 c64) mw_X5_readSigned ml_X5_85 ⟨Nat.le_of_ble_eq_true rfl, Nat.le_of_ble_eq_true rfl⟩ hP hD hS [0, 1] (by decide +kernel) rfl rfl 0 rfl rfl rfl hl.1 rfl (Nat.le_of_ble_eq_true rfl) dX5_readPoint_88 ⟨Nat.le_refl _, Nat.le_refl _⟩ rfl rfl (fun H locs hP hD hS => ?_)
              refine lv_istore (lv' := [(4, .int r64.1), (3, .int r55.1), (2, .int r3.1), (0, .ref q_o), (1, .ref q_p1)]) hx hb dX5_readPoint_91 hl (by decide) rfl (fun ls hl => ?_)
              refine lv_aload_n hx hb dX5_readPoint_93 rfl (lv_at hl 3 rfl) ?_
              refine mget X fl_X5_31 hP 0 rfl rfl dX5_readPoint_94 ?_
              refine lv_if_eq (tgt := 102) hx hb dX5_readPoint_97 (by decide) (fun b65 => ?_) (fun b65 => ?_)
              · have h := o_t b65 h
                refine lv_aload_n hx hb dX5_readPoint_102 rfl (lv_at hl 3 rfl) ?_
                obtain ⟨r66, c66, h⟩ := o_b h
                refine mcallV X (As := []) (rest := []) (ws1 := wX5_readPoint g q_o q_o_bytes q_p1 q_p1_ws q_p1_xs q_p1_ys o_filled o_length r66.2.2 r66.2.1 r66.1 r64.2.1 r64.2.2.1 o_bytes p1_count p1_mode p1_degree p1_ws p1_xs p1_ys) (st1 := []) (kX5_step D g x l q_o q_o_bytes o_filled o_length r64.2.2.2.2.2 r64.2.2.2.2.1 r64.2.2.2.1 r64.2.1 r64.2.2.1 o_bytes  r66 c66) mw_X5_step ml_X5_42 ⟨Nat.le_of_ble_eq_true rfl, Nat.le_of_ble_eq_true rfl⟩ hP hD hS [0, 1] (by decide +kernel) rfl rfl 0 rfl rfl rfl hl.1 rfl (Nat.le_of_ble_eq_true rfl) dX5_readPoint_103 ⟨Nat.le_refl _, Nat.le_refl _⟩ rfl rfl (fun H locs hP hD hS => ?_)
                refine lv_aload_n hx hb dX5_readPoint_106 rfl (lv_at hl 4 rfl) ?_
                refine lv_iload_n hx hb dX5_readPoint_107 rfl (lv_at hl 2 rfl) ?_
                refine lv_iload_n hx hb dX5_readPoint_108 rfl (lv_at hl 1 rfl) ?_
                refine lv_iload hx hb dX5_readPoint_109 (lv_at hl 0 rfl) ?_
                obtain ⟨r67, c67, h⟩ := o_b h
                refine mcallV X (As := [.int r3.1, .int r55.1, .int r64.1]) (rest := []) (ws1 := wX5_readPoint g q_o q_o_bytes q_p1 q_p1_ws q_p1_xs q_p1_ys o_filled o_length r66.2.2 r66.2.1 r66.1 r64.2.1 r64.2.2.1 o_bytes r67.1 p1_mode p1_degree r67.2.1 r67.2.2.1 r67.2.2.2) (st1 := []) (kX3_append D g x l q_p1 q_p1_ws q_p1_xs q_p1_ys p1_count p1_mode p1_degree p1_ws p1_xs p1_ys r3.1 r55.1 r64.1 r67 c67) mw_X3_append ml_X5_93 ⟨Nat.le_of_ble_eq_true rfl, Nat.le_of_ble_eq_true rfl⟩ hP hD hS [2, 3, 4, 5] (by decide +kernel) rfl rfl 2 rfl rfl rfl hl.1 rfl (Nat.le_of_ble_eq_true rfl) dX5_readPoint_111 ⟨Nat.le_refl _, Nat.le_refl _⟩ rfl rfl (fun H locs hP hD hS => ?_)
                refine lv_aload_n hx hb dX5_readPoint_114 rfl (lv_at hl 3 rfl) ?_
                refine mget X fl_X5_22 hP 0 rfl rfl dX5_readPoint_115 ?_
                refine lv_iconst (v := 4) hx hb dX5_readPoint_118 (by decide) ?_
                refine lv_icmp_eq (tgt := 130) hx hb dX5_readPoint_119 (by decide) (fun b68 => ?_) (fun b68 => ?_)
                · have h := o_t b68 h
                  refine lv_iconst (v := 1) hx hb dX5_readPoint_130 (by decide) ?_
                  refine lv_goto (tgt := 135) hx hb dX5_readPoint_131 (by decide) ?_
                  cases h
                  exact fin _ _ _ _ (nar_z (Or.inr rfl)) hP hS dX5_readPoint_135
                · have h := o_f b68 h
                  refine lv_aload_n hx hb dX5_readPoint_122 rfl (lv_at hl 3 rfl) ?_
                  refine lv_iconst (v := 2) hx hb dX5_readPoint_123 (by decide) ?_
                  obtain ⟨r69, c69, h⟩ := o_b h
                  refine mcallV X (As := [.int 2]) (rest := []) (ws1 := wX5_readPoint g q_o q_o_bytes q_p1 q_p1_ws q_p1_xs q_p1_ys o_filled o_length r66.2.2 r66.2.1 r66.1 r69.2.1 r69.2.2 o_bytes r67.1 p1_mode p1_degree r67.2.1 r67.2.2.1 r67.2.2.2) (st1 := [.int r69.1]) (kX5_fail D g x l q_o q_o_bytes o_filled o_length r66.2.2 r66.2.1 r66.1 r64.2.1 r64.2.2.1 2 r69 c69) mw_X5_fail ml_X5_74 ⟨Nat.le_of_ble_eq_true rfl, Nat.le_of_ble_eq_true rfl⟩ hP hD hS [0] (by decide +kernel) rfl rfl 0 rfl rfl rfl hl.1 rfl (Nat.le_of_ble_eq_true rfl) dX5_readPoint_124 ⟨Nat.le_refl _, Nat.le_refl _⟩ rfl rfl (fun H locs hP hD hS => ?_)
                  refine lv_if_eq (tgt := 134) hx hb dX5_readPoint_127 (by decide) (fun b70 => ?_) (fun b70 => ?_)
                  · have h := o_t b70 h
                    refine lv_iconst (v := 0) hx hb dX5_readPoint_134 (by decide) ?_
                    cases h
                    exact fin _ _ _ _ (nar_z (Or.inl rfl)) hP hS dX5_readPoint_135
                  · have h := o_f b70 h
                    refine lv_iconst (v := 1) hx hb dX5_readPoint_130 (by decide) ?_
                    refine lv_goto (tgt := 135) hx hb dX5_readPoint_131 (by decide) ?_
                    cases h
                    exact fin _ _ _ _ (nar_z (Or.inr rfl)) hP hS dX5_readPoint_135
              · have h := o_f b65 h
                refine lv_iconst (v := 0) hx hb dX5_readPoint_100 (by decide) ?_
                cases h
                exact fin _ _ _ _ (nar_z (Or.inl rfl)) hP hS dX5_readPoint_101
          · have h := o_f b56 h
            refine lv_iconst (v := 0) hx hb dX5_readPoint_67 (by decide) ?_
            cases h
            exact fin _ _ _ _ (nar_z (Or.inl rfl)) hP hS dX5_readPoint_68
      · have h := o_f b38 h
        refine lv_aload_n hx hb dX5_readPoint_36 rfl (lv_at hl 1 rfl) ?_
        refine lv_iconst (v := 4) hx hb dX5_readPoint_37 (by decide) ?_
        obtain ⟨r71, c71, h⟩ := o_b h
        refine mcallV X (As := [.int 4]) (rest := []) (ws1 := wX5_readPoint g q_o q_o_bytes q_p1 q_p1_ws q_p1_xs q_p1_ys o_filled o_length r3.2.2.2.2.2 r3.2.2.2.2.1 r3.2.2.2.1 r71.2.1 r71.2.2 o_bytes p1_count p1_mode p1_degree p1_ws p1_xs p1_ys) (st1 := [.int r71.1]) (kX5_fail D g x l q_o q_o_bytes o_filled o_length r3.2.2.2.2.2 r3.2.2.2.2.1 r3.2.2.2.1 r3.2.1 r3.2.2.1 4 r71 c71) mw_X5_fail ml_X5_74 ⟨Nat.le_of_ble_eq_true rfl, Nat.le_of_ble_eq_true rfl⟩ hP hD hS [0] (by decide +kernel) rfl rfl 0 rfl rfl rfl hl.1 rfl (Nat.le_of_ble_eq_true rfl) dX5_readPoint_38 ⟨Nat.le_refl _, Nat.le_refl _⟩ rfl rfl (fun H locs hP hD hS => ?_)
        obtain ⟨b72, h⟩ := o_g h
        cases h
        exact fin _ _ _ _ (nar_z b72) hP hS dX5_readPoint_41
  · have h := o_f b2 h
    refine lv_aload_n hx hb dX5_readPoint_7 rfl (lv_at hl 0 rfl) ?_
    refine lv_iconst (v := 5) hx hb dX5_readPoint_8 (by decide) ?_
    obtain ⟨r73, c73, h⟩ := o_b h
    refine mcallV X (As := [.int 5]) (rest := []) (ws1 := wX5_readPoint g q_o q_o_bytes q_p1 q_p1_ws q_p1_xs q_p1_ys o_filled o_length o_token o_start o_next r73.2.1 r73.2.2 o_bytes p1_count p1_mode p1_degree p1_ws p1_xs p1_ys) (st1 := [.int r73.1]) (kX5_fail D g x l q_o q_o_bytes o_filled o_length o_token o_start o_next o_faultKind o_faultPosition 5 r73 c73) mw_X5_fail ml_X5_74 ⟨Nat.le_of_ble_eq_true rfl, Nat.le_of_ble_eq_true rfl⟩ hP hD hS [0] (by decide +kernel) rfl rfl 0 rfl rfl rfl hl.1 rfl (Nat.le_of_ble_eq_true rfl) dX5_readPoint_9 ⟨Nat.le_refl _, Nat.le_refl _⟩ rfl rfl (fun H locs hP hD hS => ?_)
    obtain ⟨b74, h⟩ := o_g h
    cases h
    exact fin _ _ _ _ (nar_z b74) hP hS dX5_readPoint_12
abbrev wX5_readStatement (g : Nat → ClassId) (q_o q_o_bytes q_p1 q_p1_ws q_p1_xs q_p1_ys : Nat)  (o_filled : Int32) (o_length : Int32) (o_token : Int32) (o_start : Int32) (o_next : Int32) (o_faultKind : Int32) (o_faultPosition : Int32) (o_bytes : Nat → Int32) (p1_count : Int32) (p1_mode : Int32) (p1_degree : Int32) (p1_ws : Nat → Int32) (p1_xs : Nat → Int32) (p1_ys : Nat → Int32) : va_W := [(q_o, .inr (5, [.ref q_o_bytes, .int o_filled, .int o_length, .int o_token, .int o_start, .int o_next, .int o_faultKind, .int o_faultPosition])), (q_o_bytes, .inl (g 0, 400, .inl o_bytes)), (q_p1, .inr (3, [.ref q_p1_xs, .ref q_p1_ys, .ref q_p1_ws, .int p1_count, .int p1_mode, .int p1_degree])), (q_p1_ws, .inl (g 0, 5, .inl p1_ws)), (q_p1_xs, .inl (g 0, 5, .inl p1_xs)), (q_p1_ys, .inl (g 0, 5, .inl p1_ys))]
set_option maxHeartbeats 4000000 in
set_option maxRecDepth 100000 in
theorem kX5_readStatement (D : va_G) (g : Nat → ClassId) (x : Xd) (l : Launch) (q_o q_o_bytes q_p1 q_p1_ws q_p1_xs q_p1_ys : Nat)  (o_filled : Int32) (o_length : Int32) (o_token : Int32) (o_start : Int32) (o_next : Int32) (o_faultKind : Int32) (o_faultPosition : Int32) (o_bytes : Nat → Int32) (p1_count : Int32) (p1_mode : Int32) (p1_degree : Int32) (p1_ws : Nat → Int32) (p1_xs : Nat → Int32) (p1_ys : Nat → Int32) (R : Int32 × Int32 × Int32 × Int32 × Int32 × Int32 × Int32 × Int32 × Int32 × (Nat → Int32) × (Nat → Int32) × (Nat → Int32)) (h : mX5_readStatement o_bytes o_faultKind o_faultPosition o_length o_next o_start o_token p1_count p1_degree p1_mode p1_ws p1_xs p1_ys = some R) : Cn D g x l yX5_readStatement cX5_readStatement 2 (some .boolean) 6 247 [.ref q_o, .ref q_p1] (wX5_readStatement g q_o q_o_bytes q_p1 q_p1_ws q_p1_xs q_p1_ys o_filled o_length o_token o_start o_next o_faultKind o_faultPosition o_bytes p1_count p1_mode p1_degree p1_ws p1_xs p1_ys) (wX5_readStatement g q_o q_o_bytes q_p1 q_p1_ws q_p1_xs q_p1_ys o_filled o_length R.2.2.2.2.2.1 R.2.2.2.2.1 R.2.2.2.1 R.2.1 R.2.2.1 o_bytes R.2.2.2.2.2.2.1 R.2.2.2.2.2.2.2.2.1 R.2.2.2.2.2.2.2.1 R.2.2.2.2.2.2.2.2.2.1 R.2.2.2.2.2.2.2.2.2.2.1 R.2.2.2.2.2.2.2.2.2.2.2) (some (.int R.1)) := by
  refine CnI (by decide +kernel) (Nat.le_of_ble_eq_true rfl) (fun p e s m args below meth c A Q ls X hD hP hS fin hl => ?_)
  obtain ⟨hx, hb, hml, -, -, hown, hts, hK, hA, hE⟩ := id X
  unfold mX5_readStatement at h
  have hl : lv_has ls 2 [(0, .ref q_o), (1, .ref q_p1)] := hl
  refine lv_aload_n hx hb dX5_readStatement_0 rfl (lv_at hl 0 rfl) ?_
  refine va_ldcS hx hb hown (ldc_X5_49 hE) dX5_readStatement_1 ?_
  obtain ⟨r1, c1, h⟩ := o_b h
  refine mcallV X (As := [.ref (x.1 0)]) (rest := []) (ws1 := wX5_readStatement g q_o q_o_bytes q_p1 q_p1_ws q_p1_xs q_p1_ys o_filled o_length o_token o_start o_next o_faultKind o_faultPosition o_bytes p1_count p1_mode p1_degree p1_ws p1_xs p1_ys) (st1 := [.int r1]) (kX5_isWord D g x l q_o q_o_bytes o_filled o_length o_token o_start o_next o_faultKind o_faultPosition o_bytes 0 (by decide) r1 c1) mw_X5_isWord ml_X5_51 ⟨Nat.le_of_ble_eq_true rfl, Nat.le_of_ble_eq_true rfl⟩ hP hD hS [0, 1] (by decide +kernel) rfl rfl 0 rfl rfl rfl hl.1 rfl (Nat.le_of_ble_eq_true rfl) dX5_readStatement_3 ⟨Nat.le_refl _, Nat.le_refl _⟩ rfl rfl (fun H locs hP hD hS => ?_)
  refine lv_if_eq (tgt := 15) hx hb dX5_readStatement_6 (by decide) (fun b2 => ?_) (fun b2 => ?_)
  · have h := o_t b2 h
    refine lv_aload_n hx hb dX5_readStatement_15 rfl (lv_at hl 0 rfl) ?_
    refine va_ldcS hx hb hown (ldc_X5_58 hE) dX5_readStatement_16 ?_
    obtain ⟨r3, c3, h⟩ := o_b h
    refine mcallV X (As := [.ref (x.1 1)]) (rest := []) (ws1 := wX5_readStatement g q_o q_o_bytes q_p1 q_p1_ws q_p1_xs q_p1_ys o_filled o_length o_token o_start o_next o_faultKind o_faultPosition o_bytes p1_count p1_mode p1_degree p1_ws p1_xs p1_ys) (st1 := [.int r3]) (kX5_isWord D g x l q_o q_o_bytes o_filled o_length o_token o_start o_next o_faultKind o_faultPosition o_bytes 1 (by decide) r3 c3) mw_X5_isWord ml_X5_51 ⟨Nat.le_of_ble_eq_true rfl, Nat.le_of_ble_eq_true rfl⟩ hP hD hS [0, 1] (by decide +kernel) rfl rfl 0 rfl rfl rfl hl.1 rfl (Nat.le_of_ble_eq_true rfl) dX5_readStatement_18 ⟨Nat.le_refl _, Nat.le_refl _⟩ rfl rfl (fun H locs hP hD hS => ?_)
    refine lv_if_eq (tgt := 32) hx hb dX5_readStatement_21 (by decide) (fun b4 => ?_) (fun b4 => ?_)
    · have h := o_t b4 h
      refine lv_aload_n hx hb dX5_readStatement_32 rfl (lv_at hl 0 rfl) ?_
      refine va_ldcS hx hb hown (ldc_X5_63 hE) dX5_readStatement_33 ?_
      obtain ⟨r5, c5, h⟩ := o_b h
      refine mcallV X (As := [.ref (x.1 2)]) (rest := []) (ws1 := wX5_readStatement g q_o q_o_bytes q_p1 q_p1_ws q_p1_xs q_p1_ys o_filled o_length o_token o_start o_next o_faultKind o_faultPosition o_bytes p1_count p1_mode p1_degree p1_ws p1_xs p1_ys) (st1 := [.int r5]) (kX5_isWord D g x l q_o q_o_bytes o_filled o_length o_token o_start o_next o_faultKind o_faultPosition o_bytes 2 (by decide) r5 c5) mw_X5_isWord ml_X5_51 ⟨Nat.le_of_ble_eq_true rfl, Nat.le_of_ble_eq_true rfl⟩ hP hD hS [0, 1] (by decide +kernel) rfl rfl 0 rfl rfl rfl hl.1 rfl (Nat.le_of_ble_eq_true rfl) dX5_readStatement_35 ⟨Nat.le_refl _, Nat.le_refl _⟩ rfl rfl (fun H locs hP hD hS => ?_)
      refine lv_if_eq (tgt := 49) hx hb dX5_readStatement_38 (by decide) (fun b6 => ?_) (fun b6 => ?_)
      · have h := o_t b6 h
        refine lv_aload_n hx hb dX5_readStatement_49 rfl (lv_at hl 0 rfl) ?_
        refine va_ldcS hx hb hown (ldc_X5_65 hE) dX5_readStatement_50 ?_
        obtain ⟨r7, c7, h⟩ := o_b h
        refine mcallV X (As := [.ref (x.1 3)]) (rest := []) (ws1 := wX5_readStatement g q_o q_o_bytes q_p1 q_p1_ws q_p1_xs q_p1_ys o_filled o_length o_token o_start o_next o_faultKind o_faultPosition o_bytes p1_count p1_mode p1_degree p1_ws p1_xs p1_ys) (st1 := [.int r7]) (kX5_isWord D g x l q_o q_o_bytes o_filled o_length o_token o_start o_next o_faultKind o_faultPosition o_bytes 3 (by decide) r7 c7) mw_X5_isWord ml_X5_51 ⟨Nat.le_of_ble_eq_true rfl, Nat.le_of_ble_eq_true rfl⟩ hP hD hS [0, 1] (by decide +kernel) rfl rfl 0 rfl rfl rfl hl.1 rfl (Nat.le_of_ble_eq_true rfl) dX5_readStatement_52 ⟨Nat.le_refl _, Nat.le_refl _⟩ rfl rfl (fun H locs hP hD hS => ?_)
        refine lv_if_eq (tgt := 79) hx hb dX5_readStatement_55 (by decide) (fun b8 => ?_) (fun b8 => ?_)
        · have h := o_t b8 h
          refine lv_aload_n hx hb dX5_readStatement_79 rfl (lv_at hl 0 rfl) ?_
          refine lv_iconst (v := 2) hx hb dX5_readStatement_80 (by decide) ?_
          obtain ⟨r9, c9, h⟩ := o_b h
          refine mcallV X (As := [.int 2]) (rest := []) (ws1 := wX5_readStatement g q_o q_o_bytes q_p1 q_p1_ws q_p1_xs q_p1_ys o_filled o_length o_token o_start o_next r9.2.1 r9.2.2 o_bytes p1_count p1_mode p1_degree p1_ws p1_xs p1_ys) (st1 := [.int r9.1]) (kX5_fail D g x l q_o q_o_bytes o_filled o_length o_token o_start o_next o_faultKind o_faultPosition 2 r9 c9) mw_X5_fail ml_X5_74 ⟨Nat.le_of_ble_eq_true rfl, Nat.le_of_ble_eq_true rfl⟩ hP hD hS [0] (by decide +kernel) rfl rfl 0 rfl rfl rfl hl.1 rfl (Nat.le_of_ble_eq_true rfl) dX5_readStatement_81 ⟨Nat.le_refl _, Nat.le_refl _⟩ rfl rfl (fun H locs hP hD hS => ?_)
          obtain ⟨b10, h⟩ := o_g h
          cases h
          exact fin _ _ _ _ (nar_z b10) hP hS dX5_readStatement_84
        · have h := o_f b8 h
          refine lv_aload_n hx hb dX5_readStatement_58 rfl (lv_at hl 1 rfl) ?_
          refine lv_iconst (v := 1) hx hb dX5_readStatement_59 (by decide) ?_
          refine mputI X fl_X5_60 (ws1 := wX5_readStatement g q_o q_o_bytes q_p1 q_p1_ws q_p1_xs q_p1_ys o_filled o_length o_token o_start o_next o_faultKind o_faultPosition o_bytes p1_count 1 p1_degree p1_ws p1_xs p1_ys) hP hD hS 2 rfl rfl ⟨_, rfl, rfl⟩ dX5_readStatement_60 rfl (fun H locs hP hD hS => ?_)
          refine lv_aload_n hx hb dX5_readStatement_63 rfl (lv_at hl 0 rfl) ?_
          obtain ⟨r11, c11, h⟩ := o_b h
          refine mcallV X (As := []) (rest := []) (ws1 := wX5_readStatement g q_o q_o_bytes q_p1 q_p1_ws q_p1_xs q_p1_ys o_filled o_length r11.2.2 r11.2.1 r11.1 o_faultKind o_faultPosition o_bytes p1_count 1 p1_degree p1_ws p1_xs p1_ys) (st1 := []) (kX5_step D g x l q_o q_o_bytes o_filled o_length o_token o_start o_next o_faultKind o_faultPosition o_bytes  r11 c11) mw_X5_step ml_X5_42 ⟨Nat.le_of_ble_eq_true rfl, Nat.le_of_ble_eq_true rfl⟩ hP hD hS [0, 1] (by decide +kernel) rfl rfl 0 rfl rfl rfl hl.1 rfl (Nat.le_of_ble_eq_true rfl) dX5_readStatement_64 ⟨Nat.le_refl _, Nat.le_refl _⟩ rfl rfl (fun H locs hP hD hS => ?_)
          refine lv_aload_n hx hb dX5_readStatement_67 rfl (lv_at hl 1 rfl) ?_
          refine lv_aload_n hx hb dX5_readStatement_68 rfl (lv_at hl 0 rfl) ?_
          refine lv_iconst (v := 4) hx hb dX5_readStatement_69 (by decide) ?_
          obtain ⟨r12, c12, h⟩ := o_b h
          refine mcallV X (As := [.int 4]) (rest := [.ref q_p1]) (ws1 := wX5_readStatement g q_o q_o_bytes q_p1 q_p1_ws q_p1_xs q_p1_ys o_filled o_length r11.2.2 r11.2.1 r11.1 r12.2.1 r12.2.2 o_bytes p1_count 1 p1_degree p1_ws p1_xs p1_ys) (st1 := [.int r12.1, .ref q_p1]) (kX5_readDigits D g x l q_o q_o_bytes o_filled o_length r11.2.2 r11.2.1 r11.1 o_faultKind o_faultPosition o_bytes 4 r12 c12) mw_X5_readDigits ml_X5_67 ⟨Nat.le_of_ble_eq_true rfl, Nat.le_of_ble_eq_true rfl⟩ hP hD hS [0, 1] (by decide +kernel) rfl rfl 0 rfl rfl rfl hl.1 rfl (Nat.le_of_ble_eq_true rfl) dX5_readStatement_70 ⟨Nat.le_refl _, Nat.le_refl _⟩ rfl rfl (fun H locs hP hD hS => ?_)
          refine mputI X fl_X5_71 (ws1 := wX5_readStatement g q_o q_o_bytes q_p1 q_p1_ws q_p1_xs q_p1_ys o_filled o_length r11.2.2 r11.2.1 r11.1 r12.2.1 r12.2.2 o_bytes p1_count 1 r12.1 p1_ws p1_xs p1_ys) hP hD hS 2 rfl rfl ⟨_, rfl, rfl⟩ dX5_readStatement_73 rfl (fun H locs hP hD hS => ?_)
          refine lv_goto (tgt := 85) hx hb dX5_readStatement_76 (by decide) ?_
          refine lv_aload_n hx hb dX5_readStatement_85 rfl (lv_at hl 0 rfl) ?_
          refine mget X fl_X5_31 hP 0 rfl rfl dX5_readStatement_86 ?_
          refine lv_if_ne (tgt := 103) hx hb dX5_readStatement_89 (by decide) (fun b13 => ?_) (fun b13 => ?_)
          · have h := o_f b13 h
            refine lv_iconst (v := 0) hx hb dX5_readStatement_103 (by decide) ?_
            cases h
            exact fin _ _ _ _ (nar_z (Or.inl rfl)) hP hS dX5_readStatement_104
          · have h := o_t b13 h
            refine lv_aload_n hx hb dX5_readStatement_92 rfl (lv_at hl 0 rfl) ?_
            obtain ⟨r14, c14, h⟩ := o_b h
            refine mcallV X (As := []) (rest := []) (ws1 := wX5_readStatement g q_o q_o_bytes q_p1 q_p1_ws q_p1_xs q_p1_ys o_filled o_length r14.2.2.2.2.2 r14.2.2.2.2.1 r14.2.2.2.1 r14.2.1 r14.2.2.1 o_bytes p1_count 1 r12.1 p1_ws p1_xs p1_ys) (st1 := [.int r14.1]) (kX5_readSemicolon D g x l q_o q_o_bytes o_filled o_length r11.2.2 r11.2.1 r11.1 r12.2.1 r12.2.2 o_bytes  r14 c14) mw_X5_readSemicolon ml_X5_78 ⟨Nat.le_of_ble_eq_true rfl, Nat.le_of_ble_eq_true rfl⟩ hP hD hS [0, 1] (by decide +kernel) rfl rfl 0 rfl rfl rfl hl.1 rfl (Nat.le_of_ble_eq_true rfl) dX5_readStatement_93 ⟨Nat.le_refl _, Nat.le_refl _⟩ rfl rfl (fun H locs hP hD hS => ?_)
            refine lv_if_eq (tgt := 103) hx hb dX5_readStatement_96 (by decide) (fun b15 => ?_) (fun b15 => ?_)
            · have h := o_t b15 h
              refine lv_iconst (v := 0) hx hb dX5_readStatement_103 (by decide) ?_
              cases h
              exact fin _ _ _ _ (nar_z (Or.inl rfl)) hP hS dX5_readStatement_104
            · have h := o_f b15 h
              refine lv_iconst (v := 1) hx hb dX5_readStatement_99 (by decide) ?_
              refine lv_goto (tgt := 104) hx hb dX5_readStatement_100 (by decide) ?_
              cases h
              exact fin _ _ _ _ (nar_z (Or.inr rfl)) hP hS dX5_readStatement_104
      · have h := o_f b6 h
        refine lv_aload_n hx hb dX5_readStatement_41 rfl (lv_at hl 1 rfl) ?_
        refine lv_iconst (v := 2) hx hb dX5_readStatement_42 (by decide) ?_
        refine mputI X fl_X5_60 (ws1 := wX5_readStatement g q_o q_o_bytes q_p1 q_p1_ws q_p1_xs q_p1_ys o_filled o_length o_token o_start o_next o_faultKind o_faultPosition o_bytes p1_count 2 p1_degree p1_ws p1_xs p1_ys) hP hD hS 2 rfl rfl ⟨_, rfl, rfl⟩ dX5_readStatement_43 rfl (fun H locs hP hD hS => ?_)
        refine lv_goto (tgt := 85) hx hb dX5_readStatement_46 (by decide) ?_
        refine lv_aload_n hx hb dX5_readStatement_85 rfl (lv_at hl 0 rfl) ?_
        refine mget X fl_X5_31 hP 0 rfl rfl dX5_readStatement_86 ?_
        refine lv_if_ne (tgt := 103) hx hb dX5_readStatement_89 (by decide) (fun b16 => ?_) (fun b16 => ?_)
        · have h := o_f b16 h
          refine lv_iconst (v := 0) hx hb dX5_readStatement_103 (by decide) ?_
          cases h
          exact fin _ _ _ _ (nar_z (Or.inl rfl)) hP hS dX5_readStatement_104
        · have h := o_t b16 h
          refine lv_aload_n hx hb dX5_readStatement_92 rfl (lv_at hl 0 rfl) ?_
          obtain ⟨r17, c17, h⟩ := o_b h
          refine mcallV X (As := []) (rest := []) (ws1 := wX5_readStatement g q_o q_o_bytes q_p1 q_p1_ws q_p1_xs q_p1_ys o_filled o_length r17.2.2.2.2.2 r17.2.2.2.2.1 r17.2.2.2.1 r17.2.1 r17.2.2.1 o_bytes p1_count 2 p1_degree p1_ws p1_xs p1_ys) (st1 := [.int r17.1]) (kX5_readSemicolon D g x l q_o q_o_bytes o_filled o_length o_token o_start o_next o_faultKind o_faultPosition o_bytes  r17 c17) mw_X5_readSemicolon ml_X5_78 ⟨Nat.le_of_ble_eq_true rfl, Nat.le_of_ble_eq_true rfl⟩ hP hD hS [0, 1] (by decide +kernel) rfl rfl 0 rfl rfl rfl hl.1 rfl (Nat.le_of_ble_eq_true rfl) dX5_readStatement_93 ⟨Nat.le_refl _, Nat.le_refl _⟩ rfl rfl (fun H locs hP hD hS => ?_)
          refine lv_if_eq (tgt := 103) hx hb dX5_readStatement_96 (by decide) (fun b18 => ?_) (fun b18 => ?_)
          · have h := o_t b18 h
            refine lv_iconst (v := 0) hx hb dX5_readStatement_103 (by decide) ?_
            cases h
            exact fin _ _ _ _ (nar_z (Or.inl rfl)) hP hS dX5_readStatement_104
          · have h := o_f b18 h
            refine lv_iconst (v := 1) hx hb dX5_readStatement_99 (by decide) ?_
            refine lv_goto (tgt := 104) hx hb dX5_readStatement_100 (by decide) ?_
            cases h
            exact fin _ _ _ _ (nar_z (Or.inr rfl)) hP hS dX5_readStatement_104
    · have h := o_f b4 h
      refine lv_aload_n hx hb dX5_readStatement_24 rfl (lv_at hl 1 rfl) ?_
      refine lv_iconst (v := 0) hx hb dX5_readStatement_25 (by decide) ?_
      refine mputI X fl_X5_60 (ws1 := wX5_readStatement g q_o q_o_bytes q_p1 q_p1_ws q_p1_xs q_p1_ys o_filled o_length o_token o_start o_next o_faultKind o_faultPosition o_bytes p1_count 0 p1_degree p1_ws p1_xs p1_ys) hP hD hS 2 rfl rfl ⟨_, rfl, rfl⟩ dX5_readStatement_26 rfl (fun H locs hP hD hS => ?_)
      refine lv_goto (tgt := 85) hx hb dX5_readStatement_29 (by decide) ?_
      refine lv_aload_n hx hb dX5_readStatement_85 rfl (lv_at hl 0 rfl) ?_
      refine mget X fl_X5_31 hP 0 rfl rfl dX5_readStatement_86 ?_
      refine lv_if_ne (tgt := 103) hx hb dX5_readStatement_89 (by decide) (fun b19 => ?_) (fun b19 => ?_)
      · have h := o_f b19 h
        refine lv_iconst (v := 0) hx hb dX5_readStatement_103 (by decide) ?_
        cases h
        exact fin _ _ _ _ (nar_z (Or.inl rfl)) hP hS dX5_readStatement_104
      · have h := o_t b19 h
        refine lv_aload_n hx hb dX5_readStatement_92 rfl (lv_at hl 0 rfl) ?_
        obtain ⟨r20, c20, h⟩ := o_b h
        refine mcallV X (As := []) (rest := []) (ws1 := wX5_readStatement g q_o q_o_bytes q_p1 q_p1_ws q_p1_xs q_p1_ys o_filled o_length r20.2.2.2.2.2 r20.2.2.2.2.1 r20.2.2.2.1 r20.2.1 r20.2.2.1 o_bytes p1_count 0 p1_degree p1_ws p1_xs p1_ys) (st1 := [.int r20.1]) (kX5_readSemicolon D g x l q_o q_o_bytes o_filled o_length o_token o_start o_next o_faultKind o_faultPosition o_bytes  r20 c20) mw_X5_readSemicolon ml_X5_78 ⟨Nat.le_of_ble_eq_true rfl, Nat.le_of_ble_eq_true rfl⟩ hP hD hS [0, 1] (by decide +kernel) rfl rfl 0 rfl rfl rfl hl.1 rfl (Nat.le_of_ble_eq_true rfl) dX5_readStatement_93 ⟨Nat.le_refl _, Nat.le_refl _⟩ rfl rfl (fun H locs hP hD hS => ?_)
        refine lv_if_eq (tgt := 103) hx hb dX5_readStatement_96 (by decide) (fun b21 => ?_) (fun b21 => ?_)
        · have h := o_t b21 h
          refine lv_iconst (v := 0) hx hb dX5_readStatement_103 (by decide) ?_
          cases h
          exact fin _ _ _ _ (nar_z (Or.inl rfl)) hP hS dX5_readStatement_104
        · have h := o_f b21 h
          refine lv_iconst (v := 1) hx hb dX5_readStatement_99 (by decide) ?_
          refine lv_goto (tgt := 104) hx hb dX5_readStatement_100 (by decide) ?_
          cases h
          exact fin _ _ _ _ (nar_z (Or.inr rfl)) hP hS dX5_readStatement_104
  · have h := o_f b2 h
    refine lv_aload_n hx hb dX5_readStatement_9 rfl (lv_at hl 0 rfl) ?_
    refine lv_aload_n hx hb dX5_readStatement_10 rfl (lv_at hl 1 rfl) ?_
    obtain ⟨r22, c22, h⟩ := o_b h
    refine mcallV X (As := [.ref q_p1]) (rest := []) (ws1 := wX5_readStatement g q_o q_o_bytes q_p1 q_p1_ws q_p1_xs q_p1_ys o_filled o_length r22.2.2.2.2.2.1 r22.2.2.2.2.1 r22.2.2.2.1 r22.2.1 r22.2.2.1 o_bytes r22.2.2.2.2.2.2.1 p1_mode p1_degree r22.2.2.2.2.2.2.2.1 r22.2.2.2.2.2.2.2.2.1 r22.2.2.2.2.2.2.2.2.2) (st1 := [.int r22.1]) (kX5_readPoint D g x l q_o q_o_bytes q_p1 q_p1_ws q_p1_xs q_p1_ys o_filled o_length o_token o_start o_next o_faultKind o_faultPosition o_bytes p1_count p1_mode p1_degree p1_ws p1_xs p1_ys  r22 c22) mw_X5_readPoint ml_X5_55 ⟨Nat.le_of_ble_eq_true rfl, Nat.le_of_ble_eq_true rfl⟩ hP hD hS [0, 1, 2, 3, 4, 5] (by decide +kernel) rfl rfl 0 rfl rfl rfl hl.1 rfl (Nat.le_of_ble_eq_true rfl) dX5_readStatement_11 ⟨Nat.le_refl _, Nat.le_refl _⟩ rfl rfl (fun H locs hP hD hS => ?_)
    obtain ⟨b23, h⟩ := o_g h
    cases h
    exact fin _ _ _ _ (nar_z b23) hP hS dX5_readStatement_14
abbrev wX5_read (g : Nat → ClassId) (q_o q_o_bytes q_p2 q_p2_ws q_p2_xs q_p2_ys : Nat)  (o_filled : Int32) (o_length : Int32) (o_token : Int32) (o_start : Int32) (o_next : Int32) (o_faultKind : Int32) (o_faultPosition : Int32) (o_bytes : Nat → Int32) (p2_count : Int32) (p2_mode : Int32) (p2_degree : Int32) (p2_ws : Nat → Int32) (p2_xs : Nat → Int32) (p2_ys : Nat → Int32) : va_W := [(q_o, .inr (5, [.ref q_o_bytes, .int o_filled, .int o_length, .int o_token, .int o_start, .int o_next, .int o_faultKind, .int o_faultPosition])), (q_o_bytes, .inl (g 0, 400, .inl o_bytes)), (q_p2, .inr (3, [.ref q_p2_xs, .ref q_p2_ys, .ref q_p2_ws, .int p2_count, .int p2_mode, .int p2_degree])), (q_p2_ws, .inl (g 0, 5, .inl p2_ws)), (q_p2_xs, .inl (g 0, 5, .inl p2_xs)), (q_p2_ys, .inl (g 0, 5, .inl p2_ys))]
set_option maxHeartbeats 4000000 in
set_option maxRecDepth 100000 in
theorem kX5_read (D : va_G) (g : Nat → ClassId) (x : Xd) (l : Launch) (q_o q_o_bytes q_p2 q_p2_ws q_p2_xs q_p2_ys : Nat)  (o_filled : Int32) (o_length : Int32) (o_token : Int32) (o_start : Int32) (o_next : Int32) (o_faultKind : Int32) (o_faultPosition : Int32) (o_bytes : Nat → Int32) (p2_count : Int32) (p2_mode : Int32) (p2_degree : Int32) (p2_ws : Nat → Int32) (p2_xs : Nat → Int32) (p2_ys : Nat → Int32) (p1 : Int32) (R : Int32 × Int32 × Int32 × Int32 × Int32 × Int32 × Int32 × Int32 × Int32 × Int32 × (Nat → Int32) × (Nat → Int32) × (Nat → Int32)) (h : mX5_read o_bytes o_faultKind o_faultPosition o_length o_next o_start o_token p2_count p2_degree p2_mode p2_ws p2_xs p2_ys p1 = some R) : Cn D g x l yX5_read cX5_read 5 (some .boolean) 7 268 [.ref q_o, .int p1, .ref q_p2] (wX5_read g q_o q_o_bytes q_p2 q_p2_ws q_p2_xs q_p2_ys o_filled o_length o_token o_start o_next o_faultKind o_faultPosition o_bytes p2_count p2_mode p2_degree p2_ws p2_xs p2_ys) (wX5_read g q_o q_o_bytes q_p2 q_p2_ws q_p2_xs q_p2_ys o_filled R.2.2.2.1 R.2.2.2.2.2.2.1 R.2.2.2.2.2.1 R.2.2.2.2.1 R.2.1 R.2.2.1 o_bytes R.2.2.2.2.2.2.2.1 R.2.2.2.2.2.2.2.2.2.1 R.2.2.2.2.2.2.2.2.1 R.2.2.2.2.2.2.2.2.2.2.1 R.2.2.2.2.2.2.2.2.2.2.2.1 R.2.2.2.2.2.2.2.2.2.2.2.2) (some (.int R.1)) := by
  refine CnI (by decide +kernel) (Nat.le_of_ble_eq_true rfl) (fun p e s m args below meth c A Q ls X hD hP hS fin hl => ?_)
  obtain ⟨hx, hb, hml, -, -, hown, hts, hK, hA, hE⟩ := id X
  unfold mX5_read at h
  have hl : lv_has ls 5 [(0, .ref q_o), (1, .int p1), (2, .ref q_p2)] := hl
  refine lv_aload_n hx hb dX5_read_0 rfl (lv_at hl 0 rfl) ?_
  refine lv_iload_n hx hb dX5_read_1 rfl (lv_at hl 1 rfl) ?_
  refine mputI X fl_X5_19 (ws1 := wX5_read g q_o q_o_bytes q_p2 q_p2_ws q_p2_xs q_p2_ys o_filled p1 o_token o_start o_next o_faultKind o_faultPosition o_bytes p2_count p2_mode p2_degree p2_ws p2_xs p2_ys) hP hD hS 0 rfl rfl ⟨_, rfl, rfl⟩ dX5_read_2 rfl (fun H locs hP hD hS => ?_)
  refine lv_aload_n hx hb dX5_read_5 rfl (lv_at hl 0 rfl) ?_
  refine lv_iconst (v := 0) hx hb dX5_read_6 (by decide) ?_
  refine mputI X fl_X5_28 (ws1 := wX5_read g q_o q_o_bytes q_p2 q_p2_ws q_p2_xs q_p2_ys o_filled p1 o_token o_start 0 o_faultKind o_faultPosition o_bytes p2_count p2_mode p2_degree p2_ws p2_xs p2_ys) hP hD hS 0 rfl rfl ⟨_, rfl, rfl⟩ dX5_read_7 rfl (fun H locs hP hD hS => ?_)
  refine lv_aload_n hx hb dX5_read_10 rfl (lv_at hl 0 rfl) ?_
  refine lv_iconst (v := 0) hx hb dX5_read_11 (by decide) ?_
  refine mputI X fl_X5_31 (ws1 := wX5_read g q_o q_o_bytes q_p2 q_p2_ws q_p2_xs q_p2_ys o_filled p1 o_token o_start 0 0 o_faultPosition o_bytes p2_count p2_mode p2_degree p2_ws p2_xs p2_ys) hP hD hS 0 rfl rfl ⟨_, rfl, rfl⟩ dX5_read_12 rfl (fun H locs hP hD hS => ?_)
  refine lv_aload_n hx hb dX5_read_15 rfl (lv_at hl 0 rfl) ?_
  refine lv_iconst (v := (-1)) hx hb dX5_read_16 (by decide) ?_
  refine mputI X fl_X5_34 (ws1 := wX5_read g q_o q_o_bytes q_p2 q_p2_ws q_p2_xs q_p2_ys o_filled p1 o_token o_start 0 0 ((-1)) o_bytes p2_count p2_mode p2_degree p2_ws p2_xs p2_ys) hP hD hS 0 rfl rfl ⟨_, rfl, rfl⟩ dX5_read_17 rfl (fun H locs hP hD hS => ?_)
  refine lv_aload_n hx hb dX5_read_20 rfl (lv_at hl 2 rfl) ?_
  obtain ⟨r1, c1, h⟩ := o_b h
  refine mcallV X (As := []) (rest := []) (ws1 := wX5_read g q_o q_o_bytes q_p2 q_p2_ws q_p2_xs q_p2_ys o_filled p1 o_token o_start 0 0 ((-1)) o_bytes r1.1 r1.2.2 r1.2.1 p2_ws p2_xs p2_ys) (st1 := []) (kX3_clear D g x l q_p2 q_p2_xs q_p2_ys q_p2_ws p2_count p2_mode p2_degree  r1 c1) mw_X3_clear ml_X5_37 ⟨Nat.le_of_ble_eq_true rfl, Nat.le_of_ble_eq_true rfl⟩ hP hD hS [2] (by decide +kernel) rfl rfl 2 rfl rfl rfl hl.1 rfl (Nat.le_of_ble_eq_true rfl) dX5_read_21 ⟨Nat.le_refl _, Nat.le_refl _⟩ rfl rfl (fun H locs hP hD hS => ?_)
  refine lv_iconst (v := 1) hx hb dX5_read_24 (by decide) ?_
  refine lv_istore_n (lv' := [(3, .int 1), (0, .ref q_o), (1, .int p1), (2, .ref q_p2)]) hx hb dX5_read_25 rfl hl (by decide) rfl (fun ls hl => ?_)
  refine lv_iconst (v := 0) hx hb dX5_read_26 (by decide) ?_
  refine lv_istore (lv' := [(4, .int 0), (3, .int 1), (0, .ref q_o), (1, .int p1), (2, .ref q_p2)]) hx hb dX5_read_27 hl (by decide) rfl (fun ls hl => ?_)
  have lp2 : ∀ (n : Nat) (v2_3 : Int32) (v2_4 : Int32) (u2_o_faultKind : Int32) (u2_o_faultPosition : Int32) (u2_o_next : Int32) (u2_o_start : Int32) (u2_o_token : Int32) (u2_p2_count : Int32) (u2_p2_degree : Int32) (u2_p2_mode : Int32) (u2_p2_ws : Nat → Int32) (u2_p2_xs : Nat → Int32) (u2_p2_ys : Nat → Int32) (R2 : Int32 × Int32 × Int32 × Int32 × Int32 × Int32 × Int32 × Int32 × (Nat → Int32) × (Nat → Int32) × (Nat → Int32)) (h : lX5_read_29 p1 o_bytes n v2_3 v2_4 u2_o_faultKind u2_o_faultPosition u2_o_next u2_o_start u2_o_token u2_p2_count u2_p2_degree u2_p2_mode u2_p2_ws u2_p2_xs u2_p2_ys = some R2) (H : Heap) (locs : List Loc), va_P D vwCl (wX5_read g q_o q_o_bytes q_p2 q_p2_ws q_p2_xs q_p2_ys o_filled p1 u2_o_token u2_o_start u2_o_next u2_o_faultKind u2_o_faultPosition o_bytes u2_p2_count u2_p2_mode u2_p2_degree u2_p2_ws u2_p2_xs u2_p2_ys) H → va_D A (wX5_read g q_o q_o_bytes q_p2 q_p2_ws q_p2_xs q_p2_ys o_filled p1 u2_o_token u2_o_start u2_o_next u2_o_faultKind u2_o_faultPosition o_bytes u2_p2_count u2_p2_mode u2_p2_degree u2_p2_ws u2_p2_xs u2_p2_ys) → va_S A s.heap H locs → ∀ (ls : Array Slot), lv_has ls 5 [(0, .ref q_o), (2, .ref q_p2), (3, .int v2_3), (4, .int v2_4)] → (∀ (H : Heap) (locs : List Loc) (ls : Array Slot), va_P D vwCl (wX5_read g q_o q_o_bytes q_p2 q_p2_ws q_p2_xs q_p2_ys o_filled p1 R2.2.2.2.2.1 R2.2.2.2.1 R2.2.2.1 R2.1 R2.2.1 o_bytes R2.2.2.2.2.2.1 R2.2.2.2.2.2.2.2.1 R2.2.2.2.2.2.2.1 R2.2.2.2.2.2.2.2.2.1 R2.2.2.2.2.2.2.2.2.2.1 R2.2.2.2.2.2.2.2.2.2.2) H → va_D A (wX5_read g q_o q_o_bytes q_p2 q_p2_ws q_p2_xs q_p2_ys o_filled p1 R2.2.2.2.2.1 R2.2.2.2.1 R2.2.2.1 R2.1 R2.2.1 o_bytes R2.2.2.2.2.2.1 R2.2.2.2.2.2.2.2.1 R2.2.2.2.2.2.2.1 R2.2.2.2.2.2.2.2.2.1 R2.2.2.2.2.2.2.2.2.2.1 R2.2.2.2.2.2.2.2.2.2.2) → va_S A s.heap H locs → lv_has ls 5 [(0, .ref q_o)] → W p l e (rmF 7 268) s m args below meth c H locs 0 0 Q (F0 m 73 ls [])) → W p l e (rmF 7 268) s m args below meth c H locs 0 0 Q (F0 m 29 ls []) := by
    intro n
    induction n with
    | zero =>
      intro v2_3 v2_4 u2_o_faultKind u2_o_faultPosition u2_o_next u2_o_start u2_o_token u2_p2_count u2_p2_degree u2_p2_mode u2_p2_ws u2_p2_xs u2_p2_ys R2 h
      have h : none = some R2 := h
      cases h
    | succ n ih2 =>
      intro v2_3 v2_4 u2_o_faultKind u2_o_faultPosition u2_o_next u2_o_start u2_o_token u2_p2_count u2_p2_degree u2_p2_mode u2_p2_ws u2_p2_xs u2_p2_ys R2 h H locs hP hD hS ls hl K2_0
      have h : (if 400 < v2_4 then some (u2_o_faultKind, u2_o_faultPosition, u2_o_next, u2_o_start, u2_o_token, u2_p2_count, u2_p2_degree, u2_p2_mode, u2_p2_ws, u2_p2_xs, u2_p2_ys) else if v2_3 = 0 then some (u2_o_faultKind, u2_o_faultPosition, u2_o_next, u2_o_start, u2_o_token, u2_p2_count, u2_p2_degree, u2_p2_mode, u2_p2_ws, u2_p2_xs, u2_p2_ys) else (mX5_step o_bytes p1 u2_o_next u2_o_start u2_o_token).bind fun r5 => if r5.2.2 = 5 then lX5_read_29 p1 o_bytes n 0 (v2_4 + 1) u2_o_faultKind u2_o_faultPosition r5.1 r5.2.1 r5.2.2 u2_p2_count u2_p2_degree u2_p2_mode u2_p2_ws u2_p2_xs u2_p2_ys else (mX5_readStatement o_bytes u2_o_faultKind u2_o_faultPosition p1 r5.1 r5.2.1 r5.2.2 u2_p2_count u2_p2_degree u2_p2_mode u2_p2_ws u2_p2_xs u2_p2_ys).bind fun r7 => if r7.1 = 0 then lX5_read_29 p1 o_bytes n 0 (v2_4 + 1) r7.2.1 r7.2.2.1 r7.2.2.2.1 r7.2.2.2.2.1 r7.2.2.2.2.2.1 r7.2.2.2.2.2.2.1 r7.2.2.2.2.2.2.2.1 r7.2.2.2.2.2.2.2.2.1 r7.2.2.2.2.2.2.2.2.2.1 r7.2.2.2.2.2.2.2.2.2.2.1 r7.2.2.2.2.2.2.2.2.2.2.2 else lX5_read_29 p1 o_bytes n 1 (v2_4 + 1) r7.2.1 r7.2.2.1 r7.2.2.2.1 r7.2.2.2.2.1 r7.2.2.2.2.2.1 r7.2.2.2.2.2.2.1 r7.2.2.2.2.2.2.2.1 r7.2.2.2.2.2.2.2.2.1 r7.2.2.2.2.2.2.2.2.2.1 r7.2.2.2.2.2.2.2.2.2.2.1 r7.2.2.2.2.2.2.2.2.2.2.2 : Option (Int32 × Int32 × Int32 × Int32 × Int32 × Int32 × Int32 × Int32 × (Nat → Int32) × (Nat → Int32) × (Nat → Int32))) = some R2 := h
      refine lv_iload hx hb dX5_read_29 (lv_at hl 3 rfl) ?_
      refine lv_sipush (v := 400) hx hb dX5_read_31 (by decide) ?_
      refine lv_icmp_gt (tgt := 73) hx hb dX5_read_34 (by decide) (fun b3 => ?_) (fun b3 => ?_)
      · have h := o_t b3 h
        cases h
        exact K2_0  _ _ _ hP hD hS (lv_sub hl [0] rfl)
      · have h := o_f b3 h
        refine lv_iload_n hx hb dX5_read_37 rfl (lv_at hl 2 rfl) ?_
        refine lv_if_eq (tgt := 73) hx hb dX5_read_38 (by decide) (fun b4 => ?_) (fun b4 => ?_)
        · have h := o_t b4 h
          cases h
          exact K2_0  _ _ _ hP hD hS (lv_sub hl [0] rfl)
        · have h := o_f b4 h
          refine lv_aload_n hx hb dX5_read_41 rfl (lv_at hl 0 rfl) ?_
          obtain ⟨r5, c5, h⟩ := o_b h
          refine mcallV X (As := []) (rest := []) (ws1 := wX5_read g q_o q_o_bytes q_p2 q_p2_ws q_p2_xs q_p2_ys o_filled p1 r5.2.2 r5.2.1 r5.1 u2_o_faultKind u2_o_faultPosition o_bytes u2_p2_count u2_p2_mode u2_p2_degree u2_p2_ws u2_p2_xs u2_p2_ys) (st1 := []) (kX5_step D g x l q_o q_o_bytes o_filled p1 u2_o_token u2_o_start u2_o_next u2_o_faultKind u2_o_faultPosition o_bytes  r5 c5) mw_X5_step ml_X5_42 ⟨Nat.le_of_ble_eq_true rfl, Nat.le_of_ble_eq_true rfl⟩ hP hD hS [0, 1] (by decide +kernel) rfl rfl 0 rfl rfl rfl hl.1 rfl (Nat.le_of_ble_eq_true rfl) dX5_read_42 ⟨Nat.le_refl _, Nat.le_refl _⟩ rfl rfl (fun H locs hP hD hS => ?_)
          refine lv_aload_n hx hb dX5_read_45 rfl (lv_at hl 0 rfl) ?_
          refine mget X fl_X5_22 hP 0 rfl rfl dX5_read_46 ?_
          refine lv_iconst (v := 5) hx hb dX5_read_49 (by decide) ?_
          refine lv_icmp_eq (tgt := 65) hx hb dX5_read_50 (by decide) (fun b6 => ?_) (fun b6 => ?_)
          · have h := o_t b6 h
            refine lv_iconst (v := 0) hx hb dX5_read_65 (by decide) ?_
            refine lv_istore_n (lv' := [(3, .int 0), (0, .ref q_o), (2, .ref q_p2), (4, .int v2_4)]) hx hb dX5_read_66 rfl hl (by decide) rfl (fun ls hl => ?_)
            refine lv_iinc (v := v2_4 + 1) (lv' := [(4, .int (v2_4 + 1)), (3, .int 0), (0, .ref q_o), (2, .ref q_p2)]) hx hb dX5_read_67 hl (k := 3) rfl rfl (by decide) rfl (fun ls hl => ?_)
            refine lv_goto (tgt := 29) hx hb dX5_read_70 (by decide) ?_
            exact ih2 0 (v2_4 + 1) u2_o_faultKind u2_o_faultPosition r5.1 r5.2.1 r5.2.2 u2_p2_count u2_p2_degree u2_p2_mode u2_p2_ws u2_p2_xs u2_p2_ys _ h _ _ hP hD hS _ (lv_sub hl [2, 3, 1, 0] rfl) K2_0
          · have h := o_f b6 h
            refine lv_aload_n hx hb dX5_read_53 rfl (lv_at hl 0 rfl) ?_
            refine lv_aload_n hx hb dX5_read_54 rfl (lv_at hl 1 rfl) ?_
            obtain ⟨r7, c7, h⟩ := o_b h
            refine mcallV X (As := [.ref q_p2]) (rest := []) (ws1 := wX5_read g q_o q_o_bytes q_p2 q_p2_ws q_p2_xs q_p2_ys o_filled p1 r7.2.2.2.2.2.1 r7.2.2.2.2.1 r7.2.2.2.1 r7.2.1 r7.2.2.1 o_bytes r7.2.2.2.2.2.2.1 r7.2.2.2.2.2.2.2.2.1 r7.2.2.2.2.2.2.2.1 r7.2.2.2.2.2.2.2.2.2.1 r7.2.2.2.2.2.2.2.2.2.2.1 r7.2.2.2.2.2.2.2.2.2.2.2) (st1 := [.int r7.1]) (kX5_readStatement D g x l q_o q_o_bytes q_p2 q_p2_ws q_p2_xs q_p2_ys o_filled p1 r5.2.2 r5.2.1 r5.1 u2_o_faultKind u2_o_faultPosition o_bytes u2_p2_count u2_p2_mode u2_p2_degree u2_p2_ws u2_p2_xs u2_p2_ys  r7 c7) mw_X5_readStatement ml_X5_45 ⟨Nat.le_of_ble_eq_true rfl, Nat.le_of_ble_eq_true rfl⟩ hP hD hS [0, 1, 2, 3, 4, 5] (by decide +kernel) rfl rfl 0 rfl rfl rfl hl.1 rfl (Nat.le_of_ble_eq_true rfl) dX5_read_55 ⟨Nat.le_refl _, Nat.le_refl _⟩ rfl rfl (fun H locs hP hD hS => ?_)
            refine lv_if_eq (tgt := 65) hx hb dX5_read_58 (by decide) (fun b8 => ?_) (fun b8 => ?_)
            · have h := o_t b8 h
              refine lv_iconst (v := 0) hx hb dX5_read_65 (by decide) ?_
              refine lv_istore_n (lv' := [(3, .int 0), (0, .ref q_o), (2, .ref q_p2), (4, .int v2_4)]) hx hb dX5_read_66 rfl hl (by decide) rfl (fun ls hl => ?_)
              refine lv_iinc (v := v2_4 + 1) (lv' := [(4, .int (v2_4 + 1)), (3, .int 0), (0, .ref q_o), (2, .ref q_p2)]) hx hb dX5_read_67 hl (k := 3) rfl rfl (by decide) rfl (fun ls hl => ?_)
              refine lv_goto (tgt := 29) hx hb dX5_read_70 (by decide) ?_
              exact ih2 0 (v2_4 + 1) r7.2.1 r7.2.2.1 r7.2.2.2.1 r7.2.2.2.2.1 r7.2.2.2.2.2.1 r7.2.2.2.2.2.2.1 r7.2.2.2.2.2.2.2.1 r7.2.2.2.2.2.2.2.2.1 r7.2.2.2.2.2.2.2.2.2.1 r7.2.2.2.2.2.2.2.2.2.2.1 r7.2.2.2.2.2.2.2.2.2.2.2 _ h _ _ hP hD hS _ (lv_sub hl [2, 3, 1, 0] rfl) K2_0
            · have h := o_f b8 h
              refine lv_iconst (v := 1) hx hb dX5_read_61 (by decide) ?_
              refine lv_goto (tgt := 66) hx hb dX5_read_62 (by decide) ?_
              refine lv_istore_n (lv' := [(3, .int 1), (0, .ref q_o), (2, .ref q_p2), (4, .int v2_4)]) hx hb dX5_read_66 rfl hl (by decide) rfl (fun ls hl => ?_)
              refine lv_iinc (v := v2_4 + 1) (lv' := [(4, .int (v2_4 + 1)), (3, .int 1), (0, .ref q_o), (2, .ref q_p2)]) hx hb dX5_read_67 hl (k := 3) rfl rfl (by decide) rfl (fun ls hl => ?_)
              refine lv_goto (tgt := 29) hx hb dX5_read_70 (by decide) ?_
              exact ih2 1 (v2_4 + 1) r7.2.1 r7.2.2.1 r7.2.2.2.1 r7.2.2.2.2.1 r7.2.2.2.2.2.1 r7.2.2.2.2.2.2.1 r7.2.2.2.2.2.2.2.1 r7.2.2.2.2.2.2.2.2.1 r7.2.2.2.2.2.2.2.2.2.1 r7.2.2.2.2.2.2.2.2.2.2.1 r7.2.2.2.2.2.2.2.2.2.2.2 _ h _ _ hP hD hS _ (lv_sub hl [2, 3, 1, 0] rfl) K2_0
  obtain ⟨r9, c9, h⟩ := o_b h
  refine lp2 FU 1 0 0 ((-1)) 0 o_start o_token r1.1 r1.2.1 r1.2.2 p2_ws p2_xs p2_ys r9 c9 _ _ hP hD hS _ (lv_sub hl [2, 4, 1, 0] rfl) (fun H locs ls hP hD hS hl => ?_)
  refine lv_aload_n hx hb dX5_read_73 rfl (lv_at hl 0 rfl) ?_
  refine mget X fl_X5_31 hP 0 rfl rfl dX5_read_74 ?_
  refine lv_if_ne (tgt := 84) hx hb dX5_read_77 (by decide) (fun b10 => ?_) (fun b10 => ?_)
  · have h := o_f b10 h
    refine lv_iconst (v := 0) hx hb dX5_read_84 (by decide) ?_
    cases h
    exact fin _ _ _ _ (nar_z (Or.inl rfl)) hP hS dX5_read_85
  · have h := o_t b10 h
    refine lv_iconst (v := 1) hx hb dX5_read_80 (by decide) ?_
    refine lv_goto (tgt := 85) hx hb dX5_read_81 (by decide) ?_
    cases h
    exact fin _ _ _ _ (nar_z (Or.inr rfl)) hP hS dX5_read_85
abbrev wX5_clear (g : Nat → ClassId) (q_o q_o_bytes : Nat)  (o_filled : Int32) (o_length : Int32) (o_token : Int32) (o_start : Int32) (o_next : Int32) (o_faultKind : Int32) (o_faultPosition : Int32) : va_W := [(q_o, .inr (5, [.ref q_o_bytes, .int o_filled, .int o_length, .int o_token, .int o_start, .int o_next, .int o_faultKind, .int o_faultPosition]))]
set_option maxHeartbeats 4000000 in
set_option maxRecDepth 100000 in
theorem kX5_clear (D : va_G) (g : Nat → ClassId) (x : Xd) (l : Launch) (q_o q_o_bytes : Nat)  (o_filled : Int32) (o_length : Int32) (o_token : Int32) (o_start : Int32) (o_next : Int32) (o_faultKind : Int32) (o_faultPosition : Int32) (R : Int32) (h : mX5_clear o_filled = some R) : Cn D g x l yX5_clear cX5_clear 1 none 0 0 [.ref q_o] (wX5_clear g q_o q_o_bytes o_filled o_length o_token o_start o_next o_faultKind o_faultPosition) (wX5_clear g q_o q_o_bytes R o_length o_token o_start o_next o_faultKind o_faultPosition) none := by
  refine CnV (by decide +kernel) (Nat.le_of_ble_eq_true rfl) (fun p e s m args below meth c A Q ls X hD hP hS fin hl => ?_)
  obtain ⟨hx, hb, hml, -, -, hown, hts, hK, hA, hE⟩ := id X
  unfold mX5_clear at h
  have hl : lv_has ls 1 [(0, .ref q_o)] := hl
  refine lv_aload_n hx hb dX5_clear_0 rfl (lv_at hl 0 rfl) ?_
  refine lv_iconst (v := 0) hx hb dX5_clear_1 (by decide) ?_
  refine mputI X fl_X5_15 (ws1 := wX5_clear g q_o q_o_bytes 0 o_length o_token o_start o_next o_faultKind o_faultPosition) hP hD hS 0 rfl rfl ⟨_, rfl, rfl⟩ dX5_clear_2 rfl (fun H locs hP hD hS => ?_)
  cases h
  exact fin _ _ _ _ hP hS dX5_clear_5
abbrev wX5_faultKind (g : Nat → ClassId) (q_o q_o_bytes : Nat)  (o_filled : Int32) (o_length : Int32) (o_token : Int32) (o_start : Int32) (o_next : Int32) (o_faultKind : Int32) (o_faultPosition : Int32) : va_W := [(q_o, .inr (5, [.ref q_o_bytes, .int o_filled, .int o_length, .int o_token, .int o_start, .int o_next, .int o_faultKind, .int o_faultPosition]))]
set_option maxHeartbeats 4000000 in
set_option maxRecDepth 100000 in
theorem kX5_faultKind (D : va_G) (g : Nat → ClassId) (x : Xd) (l : Launch) (q_o q_o_bytes : Nat)  (o_filled : Int32) (o_length : Int32) (o_token : Int32) (o_start : Int32) (o_next : Int32) (o_faultKind : Int32) (o_faultPosition : Int32) (R : Int32) (h : mX5_faultKind o_faultKind = some R) : Cn D g x l yX5_faultKind cX5_faultKind 1 (some .int) 0 0 [.ref q_o] (wX5_faultKind g q_o q_o_bytes o_filled o_length o_token o_start o_next o_faultKind o_faultPosition) (wX5_faultKind g q_o q_o_bytes o_filled o_length o_token o_start o_next o_faultKind o_faultPosition) (some (.int R)) := by
  refine CnI (by decide +kernel) (Nat.le_of_ble_eq_true rfl) (fun p e s m args below meth c A Q ls X hD hP hS fin hl => ?_)
  obtain ⟨hx, hb, hml, -, -, hown, hts, hK, hA, hE⟩ := id X
  unfold mX5_faultKind at h
  have hl : lv_has ls 1 [(0, .ref q_o)] := hl
  refine lv_aload_n hx hb dX5_faultKind_0 rfl (lv_at hl 0 rfl) ?_
  refine mget X fl_X5_31 hP 0 rfl rfl dX5_faultKind_1 ?_
  cases h
  exact fin _ _ _ _ rfl hP hS dX5_faultKind_4
