/-! The law's object; its draws. -/
abbrev lW (g : Nat → ClassId) (o ch xa ya wa : Nat) (at9 n : Int32) (xs ys ws : Nat → Int32) : va_W := [(o, .inr (9, [.ref ch, .int at9, .int n, .ref xa, .ref ya, .ref wa])), (xa, .inl (g 0, 5, .inl xs)), (ya, .inl (g 0, 5, .inl ys)), (wa, .inl (g 0, 5, .inl ws))]
/-- the script's k-th number -/
def cvx (x : Xd) (k : Nat) : Int32 := if nI x.2.2.2.1 ≤ nI k then 7919 * (nI k - nI k / 1000 * 1000) + 5 else x.2.2.2.2 k
/-- the k-th choice among m -/
def drx (x : Xd) (k : Nat) (m : Int) : Int := (cvx x k).toInt % m
theorem among_ok {v : Int32} {m : Int} (h0 : 0 < m) (h1 : m < 1000) : mL_among v (z3 m) = some (z3 (v.toInt % m)) := by
  have hv := Int32.le_toInt v
  have hv2 := Int32.toInt_lt v
  have ht := Int.tmod_eq_emod (a := v.toInt) (b := m)
  have hb := tmod_bounds (a := v.toInt) h0
  have e : v - v / z3 m * z3 m = z3 (v.toInt.tmod m) := by
    apply Int32.toInt_inj.mp
    by_cases q : v.toInt = -2147483648
    · have hd : (v / z3 m).toInt = (v.toInt.tdiv m) := by
        rw [Int32.toInt_div, z3t (by omega) (by omega)]
        exact Int.bmod_eq_of_le (by
          have := Int.natAbs_tdiv_le_natAbs v.toInt m
          omega) (by
          have : v.toInt.tdiv m ≤ 0 := by
            rw [q, show (-2147483648 : Int) = -(2147483648 : Int) from rfl, Int.neg_tdiv]
            have := Int.tdiv_nonneg (a := 2147483648) (b := m) (by omega) (by omega)
            omega
          omega)
      have e2 : v / z3 m = z3 (v.toInt.tdiv m) := by rw [← hd, z3i]
      have e3 : v = z3 v.toInt := (z3i v).symm
      have e4 : v - v / z3 m * z3 m = z3 (v.toInt - v.toInt.tdiv m * m) := by
        rw [e2, z3m]
        conv => lhs; rw [e3]
        rw [z3s, z3i]
      rw [e4, show v.toInt - v.toInt.tdiv m * m = v.toInt.tmod m by rw [Int.tmod_def, Int.mul_comm]]
    · have e2 : v / z3 m = z3 (v.toInt.tdiv m) := by
        have := z3d (a := v.toInt) (b := m) (by omega) (by omega) (by omega) (by omega)
        rw [z3i] at this
        exact this
      have e3 : v = z3 v.toInt := (z3i v).symm
      have e4 : v - v / z3 m * z3 m = z3 (v.toInt - v.toInt.tdiv m * m) := by
        rw [e2, z3m]
        conv => lhs; rw [e3]
        rw [z3s, z3i]
      rw [e4, show v.toInt - v.toInt.tdiv m * m = v.toInt.tmod m by rw [Int.tmod_def, Int.mul_comm]]
  have em0 := Int.emod_nonneg v.toInt (show m ≠ 0 by omega)
  have em1 := Int.emod_lt_of_pos v.toInt h0
  unfold mL_among
  rw [if_neg (fun w => by have := (z3eq (b := 0) (by omega) (by omega) (by omega) (by omega)).1 w; omega), e]
  by_cases q : 0 ≤ v.toInt.tmod m
  · rw [if_pos (show (0 : Int32) ≤ z3 (v.toInt.tmod m) from (z3le (a := 0) (by omega) (by omega) (by omega) (by omega)).2 q)]
    have : v.toInt.tmod m = v.toInt % m := by
      rw [ht] at q ⊢
      split <;> rename_i z
      · omega
      · rw [if_neg z] at q
        omega
    rw [this]
  · rw [if_neg (fun (w : (0 : Int32) ≤ z3 (v.toInt.tmod m)) => q ((z3le (a := 0) (by omega) (by omega) (by omega) (by omega)).1 w)), z3a]
    have : v.toInt.tmod m + m = v.toInt % m := by
      rw [ht] at q ⊢
      split <;> rename_i z
      · rw [if_pos z] at q
        omega
      · omega
    rw [this]
theorem drx_b {x : Xd} {k : Nat} {m : Int} (h : 0 < m) : 0 ≤ drx x k m ∧ drx x k m < m := ⟨Int.emod_nonneg _ (by omega), Int.emod_lt_of_pos _ h⟩
section LAWS1
variable (D : va_G) (g : Nat → ClassId) (x : Xd) (l : Launch)
set_option maxHeartbeats 4000000 in
set_option maxRecDepth 100000 in
theorem kL_cell (k : Nat) (hk : k < 65536) : Cn D g x l yL_cell cL_cell 2 (some .int) 0 0 [.ref x.2.2.1, .int (nI k)] [] [] (some (.int (cvx x k))) := by
  refine CnI (by decide +kernel) (Nat.le_of_ble_eq_true rfl) (fun p e s m args below meth c9 A Q ls X hD hP hS fin hl => ?_)
  obtain ⟨hx, hb, hml, -, -, hown, hts, hK, hA, hE⟩ := id X
  have hl : lv_has ls 2 [(0, .ref x.2.2.1), (1, .int (nI k))] := hl
  obtain ⟨s1, s3, s4⟩ := hE.2.2.2.2.2.2.2.2.2.2.2.2.2.1
  have s2 : x.2.2.1 < s.heap.size := by
    obtain ⟨c, h1, -⟩ := id s1
    exact (Array.getElem?_eq_some_iff.mp h1).1
  refine lv_iload_n hx hb dL_cell_0 rfl (lv_at hl 1 rfl) ?_
  refine lv_aload_n hx hb dL_cell_1 rfl (lv_at hl 0 rfl) ?_
  refine va_slen hx hb s1 s2 s3 hS dL_cell_2 ?_
  refine lv_icmp_ge (tgt := 12) hx hb dL_cell_3 (by decide) (fun h => ?_) (fun h => ?_)
  · rw [show cvx x k = 7919 * (nI k - nI k / 1000 * 1000) + 5 from if_pos h] at fin
    refine lv_sipush (v := 7919) hx hb dL_cell_12 (by decide +kernel) ?_
    refine lv_iload_n hx hb dL_cell_15 rfl (lv_at hl 1 rfl) ?_
    refine lv_sipush (v := 1000) hx hb dL_cell_16 (by decide +kernel) ?_
    refine lv_irem (x := nI k) (y := 1000) hx hb dL_cell_19 (by decide) ?_
    refine lv_imul hx hb dL_cell_20 ?_
    refine lv_iconst (v := 5) hx hb dL_cell_21 (by decide) ?_
    refine lv_iadd hx hb dL_cell_22 ?_
    exact fin _ _ _ _ rfl hP hS dL_cell_23
  · rw [show cvx x k = x.2.2.2.2 k from if_neg h] at fin
    have hk2 : k < x.2.2.2.1 := Nat.lt_of_not_le (fun z => h (nI_le z (by omega)))
    refine lv_aload_n hx hb dL_cell_6 rfl (lv_at hl 0 rfl) ?_
    refine lv_iload_n hx hb dL_cell_7 rfl (lv_at hl 1 rfl) ?_
    refine va_sld hx hb s1 s2 s3 hS (vp_in_nI hk2 (by omega)) dL_cell_8 ?_
    rw [nI_clamp (by omega)]
    refine lv_goto (tgt := 23) hx hb dL_cell_9 (by decide) ?_
    exact fin _ _ _ _ rfl hP hS dL_cell_23
set_option maxHeartbeats 4000000 in
set_option maxRecDepth 100000 in
theorem kL_chosen (o xa ya wa k : Nat) (n : Int32) (hk : k < 60000) (m : Int) (h0 : 0 < m) (h1 : m < 1000) : Cn D g x l yL_chosen cL_chosen 3 (some .int) 1 40 [.ref o, .int (z3 m)] [(o, .inr (9, [.ref x.2.2.1, .int (nI k), .int n, .ref xa, .ref ya, .ref wa]))] [(o, .inr (9, [.ref x.2.2.1, .int (nI (k + 1)), .int n, .ref xa, .ref ya, .ref wa]))] (some (.int (z3 (drx x k m)))) := by
  refine CnI (by decide +kernel) (Nat.le_of_ble_eq_true rfl) (fun p e s m9 args below meth c9 A Q ls X hD hP hS fin hl => ?_)
  obtain ⟨hx, hb, hml, -, -, hown, hts, hK, hA, hE⟩ := id X
  have hl : lv_has ls 3 [(0, .ref o), (1, .int (z3 m))] := hl
  refine lv_aload_n hx hb dL_chosen_0 rfl (lv_at hl 0 rfl) ?_
  refine mget X fl_L_7 hP 0 rfl rfl dL_chosen_1 ?_
  refine lv_aload_n hx hb dL_chosen_4 rfl (lv_at hl 0 rfl) ?_
  refine mget X fl_L_46 hP 0 rfl rfl dL_chosen_5 ?_
  refine mcallS X (As := [.ref x.2.2.1, .int (nI k)]) (rest := []) (wc := []) (wc1 := []) (ws1 := [(o, .inr (9, [.ref x.2.2.1, .int (nI k), .int n, .ref xa, .ref ya, .ref wa]))]) (st1 := [.int (cvx x k)]) (kL_cell D g x l k (by omega)) mw_L_cell ml_L_50 ⟨(Nat.le_of_ble_eq_true rfl), (Nat.le_of_ble_eq_true rfl)⟩ hP hD hS [] rfl rfl rfl rfl hl.1 rfl (Nat.le_of_ble_eq_true rfl) dL_chosen_8 ⟨Nat.le_refl _, Nat.le_refl _⟩ rfl rfl (fun H locs hP hD hS => ?_)
  refine lv_iload_n hx hb dL_chosen_11 rfl (lv_at hl 1 rfl) ?_
  refine mcallS X (As := [.int (cvx x k), .int (z3 m)]) (rest := []) (wc := []) (wc1 := []) (ws1 := [(o, .inr (9, [.ref x.2.2.1, .int (nI k), .int n, .ref xa, .ref ya, .ref wa]))]) (st1 := [.int (z3 (drx x k m))]) (kL_among D g x l (cvx x k) (z3 m) _ (among_ok h0 h1)) mw_L_among ml_L_54 ⟨(Nat.le_of_ble_eq_true rfl), (Nat.le_of_ble_eq_true rfl)⟩ hP hD hS [] rfl rfl rfl rfl hl.1 rfl (Nat.le_of_ble_eq_true rfl) dL_chosen_12 ⟨Nat.le_refl _, Nat.le_refl _⟩ rfl rfl (fun H locs hP hD hS => ?_)
  refine lv_istore_n (lv' := [(2, .int (z3 (drx x k m))), (0, .ref o), (1, .int (z3 m))]) hx hb dL_chosen_15 rfl hl (by decide) rfl (fun ls hl => ?_)
  refine lv_aload_n hx hb dL_chosen_16 rfl (lv_at hl 1 rfl) ?_
  refine lv_dup hx hb dL_chosen_17 rfl ?_
  refine mget X fl_L_46 hP 0 rfl rfl dL_chosen_18 ?_
  refine lv_iconst (v := nI 1) hx hb dL_chosen_21 (by decide) ?_
  refine lv_iadd hx hb dL_chosen_22 ?_
  rw [nI_add]
  refine mputI X fl_L_46 (ws1 := [(o, .inr (9, [.ref x.2.2.1, .int (nI (k + 1)), .int n, .ref xa, .ref ya, .ref wa]))]) hP hD hS 0 rfl rfl ⟨_, rfl, rfl⟩ dL_chosen_23 rfl (fun H locs hP hD hS => ?_)
  refine lv_iload_n hx hb dL_chosen_26 rfl (lv_at hl 0 rfl) ?_
  exact fin _ _ _ _ rfl hP hS dL_chosen_27
set_option maxHeartbeats 4000000 in
set_option maxRecDepth 100000 in
theorem kL_from (o xa ya wa k : Nat) (n : Int32) (hk : k < 60000) (a b : Int) (ha : -1000 < a) (hab : a ≤ b) (hb9 : b < a + 900) : Cn D g x l yL_from cL_from 3 (some .int) 2 80 [.ref o, .int (z3 a), .int (z3 b)] [(o, .inr (9, [.ref x.2.2.1, .int (nI k), .int n, .ref xa, .ref ya, .ref wa]))] [(o, .inr (9, [.ref x.2.2.1, .int (nI (k + 1)), .int n, .ref xa, .ref ya, .ref wa]))] (some (.int (z3 (a + drx x k (b - a + 1))))) := by
  refine CnI (by decide +kernel) (Nat.le_of_ble_eq_true rfl) (fun p e s m9 args below meth c9 A Q ls X hD hP hS fin hl => ?_)
  obtain ⟨hx, hb, hml, -, -, hown, hts, hK, hA, hE⟩ := id X
  have hl : lv_has ls 3 [(0, .ref o), (1, .int (z3 a)), (2, .int (z3 b))] := hl
  refine lv_iload_n hx hb dL_from_0 rfl (lv_at hl 1 rfl) ?_
  refine lv_aload_n hx hb dL_from_1 rfl (lv_at hl 0 rfl) ?_
  refine lv_iload_n hx hb dL_from_2 rfl (lv_at hl 2 rfl) ?_
  refine lv_iload_n hx hb dL_from_3 rfl (lv_at hl 1 rfl) ?_
  refine lv_isub hx hb dL_from_4 ?_
  rw [z3s]
  refine lv_iconst (v := z3 1) hx hb dL_from_5 (by decide +kernel) ?_
  refine lv_iadd hx hb dL_from_6 ?_
  rw [z3a]
  refine mcallV X (As := [.int (z3 (b - a + 1))]) (rest := [.int (z3 a)]) (ws1 := [(o, .inr (9, [.ref x.2.2.1, .int (nI (k + 1)), .int n, .ref xa, .ref ya, .ref wa]))]) (st1 := [.int (z3 (drx x k (b - a + 1))), .int (z3 a)]) (kL_chosen D g x l o xa ya wa k n hk (b - a + 1) (by omega) (by omega)) mw_L_chosen ml_L_58 ⟨(Nat.le_of_ble_eq_true rfl), (Nat.le_of_ble_eq_true rfl)⟩ hP hD hS [0] (by decide +kernel) rfl rfl 0 rfl rfl rfl hl.1 rfl (Nat.le_of_ble_eq_true rfl) dL_from_7 ⟨Nat.le_refl _, Nat.le_refl _⟩ rfl rfl (fun H locs hP hD hS => ?_)
  refine lv_iadd hx hb dL_from_10 ?_
  rw [z3a]
  exact fin _ _ _ _ rfl hP hS dL_from_11
set_option maxHeartbeats 4000000 in
set_option maxRecDepth 100000 in
theorem kL_init (o : Nat) : CnG D g x l yL_init cL_init 1 none 1 40 4 15 [.ref o] [(o, .inr (9, [.null, .int 0, .int 0, .null, .null, .null]))] (fun z w => z = none ∧ ∃ ch xa ya wa, w = lW g o ch xa ya wa 0 0 (fun _ => 0) (fun _ => 0) (fun _ => 0)) := by
  refine CnG.v (by decide +kernel) (Nat.le_of_ble_eq_true rfl) (fun p e s m args below meth c9 A Q ls X hnm hD hP hS fin hl => ?_)
  obtain ⟨hx, hb, hml, -, -, hown, hts, hK, hA, hE⟩ := id X
  have hl : lv_has ls 1 [(0, .ref o)] := hl
  refine lv_aload_n hx hb dL_init_0 rfl (lv_at hl 0 rfl) ?_
  refine cobj X ob_L_1 hl.1 dL_init_1 (Nat.le_of_ble_eq_true rfl) (Nat.le_of_ble_eq_true rfl) ?_
  refine lv_aload_n hx hb dL_init_4 rfl (lv_at hl 0 rfl) ?_
  refine lv_iconst (v := 0) hx hb dL_init_5 (by decide) ?_
  refine cnewA X 0 rfl rfl (fun C h => by cases h) ac_0 hP hD hS (n := 0) (N' := 0) (a0 := (0, .inl (fun _ => 0))) (fun _ => rfl) (by decide) (by decide +kernel) (Nat.le_of_ble_eq_true rfl) (Nat.le_of_ble_eq_true rfl) (Nat.le_of_ble_eq_true rfl) dL_init_6 (fun ch H hP hD hS => ?_)
  have hP : va_P D vwCl [(o, .inr (9, [.null, .int 0, .int 0, .null, .null, .null])), (ch, .inl (g 0, 0, .inl (fun _ => 0)))] H := hP
  have hD : va_D A [(o, .inr (9, [.null, .int 0, .int 0, .null, .null, .null])), (ch, .inl (g 0, 0, .inl (fun _ => 0)))] := hD
  refine gputR X fl_L_7 (ws1 := [(o, .inr (9, [.ref ch, .int 0, .int 0, .null, .null, .null])), (ch, .inl (g 0, 0, .inl (fun _ => 0)))]) hP hD hS 0 rfl rfl ⟨_, rfl, .array .int, by decide +kernel, rfl, rfl⟩ dL_init_8 rfl (fun H locs hP hD hS => ?_)
  refine lv_aload_n hx hb dL_init_11 rfl (lv_at hl 0 rfl) ?_
  refine lv_iconst (v := 5) hx hb dL_init_12 (by decide) ?_
  refine cnewA X 0 rfl rfl (fun C h => by cases h) ac_0 hP hD hS (n := 5) (N' := 5) (a0 := (5, .inl (fun _ => 0))) (fun _ => rfl) (by decide) (by decide +kernel) (Nat.le_of_ble_eq_true rfl) (Nat.le_of_ble_eq_true rfl) (Nat.le_of_ble_eq_true rfl) dL_init_13 (fun xa H hP hD hS => ?_)
  have hP : va_P D vwCl [(o, .inr (9, [.ref ch, .int 0, .int 0, .null, .null, .null])), (ch, .inl (g 0, 0, .inl (fun _ => 0))), (xa, .inl (g 0, 5, .inl (fun _ => 0)))] H := hP
  have hD : va_D A [(o, .inr (9, [.ref ch, .int 0, .int 0, .null, .null, .null])), (ch, .inl (g 0, 0, .inl (fun _ => 0))), (xa, .inl (g 0, 5, .inl (fun _ => 0)))] := hD
  refine cputR X hnm fl_L_13 (ws1 := [(o, .inr (9, [.ref ch, .int 0, .int 0, .ref xa, .null, .null])), (ch, .inl (g 0, 0, .inl (fun _ => 0))), (xa, .inl (g 0, 5, .inl (fun _ => 0)))]) hP hD hS 0 rfl rfl ⟨_, rfl, rfl, .array .int, by decide +kernel, rfl, rfl⟩ dL_init_15 rfl (fun H locs hP hD hS => ?_)
  refine lv_aload_n hx hb dL_init_18 rfl (lv_at hl 0 rfl) ?_
  refine lv_iconst (v := 5) hx hb dL_init_19 (by decide) ?_
  refine cnewA X 0 rfl rfl (fun C h => by cases h) ac_0 hP hD hS (n := 5) (N' := 5) (a0 := (5, .inl (fun _ => 0))) (fun _ => rfl) (by decide) (by decide +kernel) (Nat.le_of_ble_eq_true rfl) (Nat.le_of_ble_eq_true rfl) (Nat.le_of_ble_eq_true rfl) dL_init_20 (fun ya H hP hD hS => ?_)
  have hP : va_P D vwCl [(o, .inr (9, [.ref ch, .int 0, .int 0, .ref xa, .null, .null])), (ch, .inl (g 0, 0, .inl (fun _ => 0))), (xa, .inl (g 0, 5, .inl (fun _ => 0))), (ya, .inl (g 0, 5, .inl (fun _ => 0)))] H := hP
  have hD : va_D A [(o, .inr (9, [.ref ch, .int 0, .int 0, .ref xa, .null, .null])), (ch, .inl (g 0, 0, .inl (fun _ => 0))), (xa, .inl (g 0, 5, .inl (fun _ => 0))), (ya, .inl (g 0, 5, .inl (fun _ => 0)))] := hD
  refine cputR X hnm fl_L_16 (ws1 := [(o, .inr (9, [.ref ch, .int 0, .int 0, .ref xa, .ref ya, .null])), (ch, .inl (g 0, 0, .inl (fun _ => 0))), (xa, .inl (g 0, 5, .inl (fun _ => 0))), (ya, .inl (g 0, 5, .inl (fun _ => 0)))]) hP hD hS 0 rfl rfl ⟨_, rfl, rfl, .array .int, by decide +kernel, rfl, rfl⟩ dL_init_22 rfl (fun H locs hP hD hS => ?_)
  refine lv_aload_n hx hb dL_init_25 rfl (lv_at hl 0 rfl) ?_
  refine lv_iconst (v := 5) hx hb dL_init_26 (by decide) ?_
  refine cnewA X 0 rfl rfl (fun C h => by cases h) ac_0 hP hD hS (n := 5) (N' := 5) (a0 := (5, .inl (fun _ => 0))) (fun _ => rfl) (by decide) (by decide +kernel) (Nat.le_of_ble_eq_true rfl) (Nat.le_of_ble_eq_true rfl) (Nat.le_of_ble_eq_true rfl) dL_init_27 (fun wa H hP hD hS => ?_)
  have hP : va_P D vwCl [(o, .inr (9, [.ref ch, .int 0, .int 0, .ref xa, .ref ya, .null])), (ch, .inl (g 0, 0, .inl (fun _ => 0))), (xa, .inl (g 0, 5, .inl (fun _ => 0))), (ya, .inl (g 0, 5, .inl (fun _ => 0))), (wa, .inl (g 0, 5, .inl (fun _ => 0)))] H := hP
  have hD : va_D A [(o, .inr (9, [.ref ch, .int 0, .int 0, .ref xa, .ref ya, .null])), (ch, .inl (g 0, 0, .inl (fun _ => 0))), (xa, .inl (g 0, 5, .inl (fun _ => 0))), (ya, .inl (g 0, 5, .inl (fun _ => 0))), (wa, .inl (g 0, 5, .inl (fun _ => 0)))] := hD
  refine cputR X hnm fl_L_19 (ws1 := [(o, .inr (9, [.ref ch, .int 0, .int 0, .ref xa, .ref ya, .ref wa])), (ch, .inl (g 0, 0, .inl (fun _ => 0))), (xa, .inl (g 0, 5, .inl (fun _ => 0))), (ya, .inl (g 0, 5, .inl (fun _ => 0))), (wa, .inl (g 0, 5, .inl (fun _ => 0)))]) hP hD hS 0 rfl rfl ⟨_, rfl, rfl, .array .int, by decide +kernel, rfl, rfl⟩ dL_init_29 rfl (fun H locs hP hD hS => ?_)
  obtain ⟨hP, hD⟩ := gpick (wq := lW g o ch xa ya wa 0 0 (fun _ => 0) (fun _ => 0) (fun _ => 0)) [0, 2, 3, 4] (by decide +kernel) rfl hP hD
  refine W.widen (k := 4) (n := 15) (Nat.le_of_ble_eq_true rfl) (Nat.le_of_ble_eq_true rfl) ?_
  exact fin none _ _ _ _ _ ⟨rfl, ch, xa, ya, wa, rfl⟩ (fun z h => by cases h) (by constructor <;> (intro; rfl)) hP hD hS dL_init_32
end LAWS1
