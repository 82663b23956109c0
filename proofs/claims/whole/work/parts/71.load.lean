/-! Step 1, load. -/
theorem clr7 (s : Nat → Int32) : ∃ s1, lX7_parse_27 FU 0 s = some s1 ∧ ∀ i : Nat, i < 18 → s1 i = 0 := by
  obtain ⟨n, s1, e, p1, p2⟩ := skipr (fun n j (q : Nat → Int32) => lX7_parse_27 n (z3 j) q) (fun j q => 0 ≤ j ∧ ∀ i : Nat, (i : Int) < j → q i = 0) 18
    (fun n j q hj hp => by
      obtain ⟨p1, p2⟩ := hp
      refine ⟨upd q j.toNat 0, ?_, by omega, fun i hi => ?_⟩
      · rw [lX7_parse_27, if_neg (fun w => by have := (z3le (by omega) (by omega) (by omega) (by omega)).1 (l3_18 ▸ w); omega), if_neg (gix p1 (by omega) (by decide)), z3nat (by omega) (by omega), l3_1, z3a]
      · by_cases w : i = j.toNat
        · rw [w, upd_s]
        · rw [upd_n w]
          exact p2 i (by omega))
    18 FU 0 s (by omega) (fuel (by omega)) ⟨by omega, fun i hi => by omega⟩
  refine ⟨s1, ?_, fun i hi => p2 i (by omega)⟩
  show lX7_parse_27 FU (z3 0) s = some s1
  rw [e, lX7_parse_27, if_pos (by rw [l3_18]; exact (z3le (by omega) (by omega) (by omega) (by omega)).2 (by omega))]
theorem ok_1 : SOK q_1 := by
  intro u z h
  obtain ⟨a, hO, ⟨⟨hc, hd, hm, hw, hx, hy⟩, ⟨hv, ho, hwt⟩⟩, ⟨s0, s1, s2, tx, ty, tw⟩⟩ := h.1
  have O := hO
  obtain ⟨h0, h5, m0, m1, d0, d1, hr, hry, hrw, hi⟩ := O
  have hbw := hO.bw
  obtain ⟨p, q0, q1, hu⟩ := ex3 (u 1)
  obtain ⟨hA, hH, ⟨b, b0, b1, e6, e7, hB⟩, hE, hJO⟩ := h
  unfold q_1
  rw [hu]
  by_cases c1 : 0 ≤ p ∧ p ≤ b
  · have NB : mX6_needBetween (z3 p) 0 (a6_text_filled z.1) = some 0 := by
      rw [e6, l3_0, nb_y c1 q0 q1 (by omega) (by omega) (by omega) (by omega)]
    have II : mX7_isIn (Int32.toInt64 (z3 p)) 0 (Int32.toInt64 (a7_buffered z.2.1)) = some 1 := by
      rw [e7, z364 (by omega) (by omega), z364 (by omega) (by omega), show (0 : Int64) = z6 0 from rfl, ii_y c1 q0 q1 (by omega) (by omega) (by omega) (by omega)]
    have hBt : Bt p (a6_text_bytes z.1) (a7_buffer z.2.1) (fun i => (a7_buffer z.2.1 i.toNat).toInt) := fun i i0 i1 => by
      obtain ⟨x1, v, v0, v1, x2⟩ := hB i i0 (by omega)
      have tv : (z3 v).toInt = v := Int32.toInt_ofInt_of_le (by omega) (by omega)
      refine ⟨?_, (z3i _).symm, ?_, ?_⟩
      · rw [x1]
        exact (z3i _).symm
      · show 0 ≤ (a7_buffer z.2.1 i.toNat).toInt
        rw [x2, tv]
        exact v0
      · show (a7_buffer z.2.1 i.toNat).toInt < 256
        rw [x2, tv]
        exact v1
    obtain ⟨sz, ez, hz⟩ := clr7 (a7_s z.2.1)
    obtain ⟨as1, ea, has⟩ := aside7 (a7_aside z.2.1) (a7_s z.2.1)
    obtain ⟨t, st, nx, v, T⟩ := tokenZ hBt c1.1 (by omega) (p := 0) (by omega) c1.1
    obtain ⟨n1, w1, R1, rn1, rw1⟩ := T.r (a7_start z.2.1) (a7_token z.2.1) (a7_value z.2.1)
    have R1 : mX7_advance (a7_buffer z.2.1) (z3 p) 0 (a7_start z.2.1) (a7_token z.2.1) (a7_value z.2.1) = some (1, n1, z3 st, z3 t, w1) := R1
    have FUb : p.toNat + 3 ≤ FU := by
      have := fuel (n := 500) (by omega)
      omega
    have LO := loopZ hBt c1.1 (by omega) p.toNat 0 (by omega) c1.1 (by omega) 0 (by omega) (by omega) FU FU FUb FUb t st nx v T (0, 0, 0, fun _ => 0, fun _ => 0, fun _ => 0) 0 0 0 (a6_trial_nodes_ws z.1) (a6_trial_nodes_xs z.1) (a6_trial_nodes_ys z.1) sz
      ⟨Int.le_refl 0, by show (0 : Int) ≤ 5; omega, Int.le_refl 0, by show (0 : Int) ≤ 2; omega, Int.le_refl 0, by show (0 : Int) ≤ 4; omega, fun k k0 k1 => absurd (show k < 0 from k1) (by omega), fun k k0 k1 => absurd (show k < 0 from k1) (by omega), fun k k0 k1 => absurd (show k < 0 from k1) (by omega), fun j k j0 j1 => absurd (show j < 0 from j1) (by omega)⟩
      ⟨rfl, rfl, rfl, fun k k0 k1 => absurd (show k < 0 from k1) (by omega), fun k k0 k1 => absurd (show k < 0 from k1) (by omega), fun k k0 k1 => absurd (show k < 0 from k1) (by omega)⟩
      ⟨hz 0 (by omega), hz 1 (by omega), hz 2 (by omega), fun k k0 k1 => absurd (show k < 0 from k1) (by omega), fun k k0 k1 => absurd (show k < 0 from k1) (by omega), fun k k0 k1 => absurd (show k < 0 from k1) (by omega)⟩
      (a6_text_start z.1) (a6_text_token z.1) n1 (a7_numberRead z.2.1) w1 rn1
    have LO : LoG (lX5_read_29 (z3 p) (a6_text_bytes z.1) FU 1 0 0 (-1) 0 (a6_text_start z.1) (a6_text_token z.1) 0 0 0 (a6_trial_nodes_ws z.1) (a6_trial_nodes_xs z.1) (a6_trial_nodes_ys z.1)) (lX7_parse_53 (z3 p) (a7_buffer z.2.1) FU 1 0 n1 (a7_numberRead z.2.1) (-1) sz (z3 st) (z3 t) w1) := LO
    have nt2 : Int32.toNatClampNeg 2 = 2 := by decide
    have gg2 : ¬ ((2 : Int32) < 0 ∨ 18 ≤ Int32.toNatClampNeg 2) := by decide
    rcases LO with ⟨a2, n', st', tk', c, d, m, ws, xs, ys, n, nr, s2', sx, tx2, w, hO2, h32, h72, LA, LB⟩ | ⟨k0, p0', ⟨f1, f2, f3, f4, f5, f6, f7, f8, f9, f10, f11⟩, ⟨g1, g2, g3, g4, g5, g6, g7, g8, g9⟩, bb1, bb2, LA, x1, x2, LB, x3, x4, x5⟩
    · have ec : c = z3 (zC a2) := h32.1
      have es : s2' 2 = z3 (zC a2) := h72.2.2.1
      subst ec
      have h3c := h32.cp (a6_present_nodes_ws z.1) (a6_present_nodes_xs z.1) (a6_present_nodes_ys z.1) hO2
      obtain ⟨den1, num1, or1, pr1, so1, wt1, RK, hCv⟩ := reckon3 hO2 h3c (a6_present_denominator z.1) (a6_present_numerator z.1) (a6_present_order z.1) (a6_present_product z.1) (a6_present_sorted z.1) (a6_present_weights z.1)
      have m6 : mX6_load (a6_history_count z.1) (a6_present_denominator z.1) (a6_present_nodes_count z.1) (a6_present_nodes_degree z.1) (a6_present_nodes_mode z.1) (a6_present_nodes_ws z.1) (a6_present_nodes_xs z.1) (a6_present_nodes_ys z.1) (a6_present_numerator z.1) (a6_present_order z.1) (a6_present_product z.1) (a6_present_sorted z.1) (a6_present_weights z.1) (a6_text_bytes z.1) (a6_text_faultKind z.1) (a6_text_faultPosition z.1) (a6_text_filled z.1) (a6_text_length z.1) (a6_text_next z.1) (a6_text_start z.1) (a6_text_token z.1) (a6_trial_nodes_count z.1) (a6_trial_nodes_degree z.1) (a6_trial_nodes_mode z.1) (a6_trial_nodes_ws z.1) (a6_trial_nodes_xs z.1) (a6_trial_nodes_ys z.1) (z3 p) = some (0, z3 (zC a2), 0, den1, z3 (zC a2), d, m, cpF (a6_present_nodes_ws z.1) ws, cpF (a6_present_nodes_xs z.1) xs, cpF (a6_present_nodes_ys z.1) ys, num1, or1, pr1, so1, wt1, 0, -1, 0, z3 p, n', st', tk', z3 (zC a2), d, m, ws, xs, ys) := by
        unfold mX6_load mX5_filled mX5_clear mX3_size mX2_clear mX5_read mX3_clear
        rw [Option.bind_some, NB, Option.bind_some, if_pos rfl, Option.bind_some]
        rw [LA, Option.bind_some, if_pos rfl, Option.bind_some, Option.bind_some, if_neg n10, copy3, Option.bind_some, RK]
        rfl
      have m7 : mX7_load (a7_aside z.2.1) (a7_buffer z.2.1) (a7_buffered z.2.1) (a7_edits z.2.1) (a7_errorKind z.2.1) (a7_errorPosition z.2.1) (a7_kind z.2.1) (a7_length z.2.1) (a7_next z.2.1) (a7_numberRead z.2.1) (a7_position z.2.1) (a7_s z.2.1) (a7_start z.2.1) (a7_thrown z.2.1) (a7_token z.2.1) (a7_value z.2.1) (z3 p) = some (z3 (zC a2), as1, 0, 0, 0, -1, 0, z3 p, n, nr, -1, s2', sx, 0, tx2, w) := by
        unfold mX7_load mX7_parse
        rw [II, Option.bind_some, gd1, Option.bind_some, if_neg n10, ea, Option.bind_some, ez, Option.bind_some, R1, Option.bind_some, LB, Option.bind_some, if_neg (fun z => z (Or.inr rfl)), Option.bind_some, if_neg n10, if_neg gg2, nt2]
        dsimp only
        rw [es]
      have E6 : ∃ σ1 o1, h_load z.1 (z3 p) z.2.2.1 = some (0, σ1, o1) ∧ o1 = vp_updL z.2.2.1 0 (Int32.toInt64 (z3 (zC a2))) ∧ ∀ τ1, JH 0 (a6_history_kept_E_count z.1) (a6_history_kept_E_mode z.1) (a6_history_kept_E_degree z.1) (a6_history_kept_E_ws z.1) (a6_history_kept_E_xs z.1) (a6_history_kept_E_ys z.1) (a7_edits τ1) (a7_history τ1) → N7 a2 (a7_s τ1) → JB 0 (a7_buffered τ1) (a6_text_bytes z.1) (a7_buffer τ1) → (0 = a7_errorKind τ1 ∧ -1 = a7_errorPosition τ1) → JO (a6_output_count z.1) (a7_outputLength τ1) (a6_output_signs z.1) (a7_output τ1) → JZ σ1 τ1 := by
        apply Exists.intro
        apply Exists.intro
        refine ⟨?_, ?_, ?_⟩
        · unfold h_load s6_load
          rw [m6]
          rfl
        · rfl
        · exact fun τ1 x1 x2 x3 x4 x5 => ⟨⟨a2, hO2, ⟨h3c, hCv⟩, x2⟩, x1, x3, x4, x5⟩
      have E7 : ∃ v1 τ1, s7_load z.2.1 (z3 p) = some (v1, τ1) ∧ a7_thrown τ1 = 0 ∧ (Int32.toInt64 (z3 (zC a2))) = (Int32.toInt64) v1 ∧ a7_edits τ1 = 0 ∧ a7_history τ1 = a7_history z.2.1 ∧ a7_s τ1 = s2' ∧ a7_buffered τ1 = 0 ∧ a7_buffer τ1 = a7_buffer z.2.1 ∧ a7_errorKind τ1 = 0 ∧ a7_errorPosition τ1 = -1 ∧ a7_outputLength τ1 = a7_outputLength z.2.1 ∧ a7_output τ1 = a7_output z.2.1 := by
        apply Exists.intro
        apply Exists.intro
        refine ⟨?_, ?_, ?_, ?_⟩
        · unfold s7_load
          rw [m7]
          rfl
        · rfl
        · rfl
        · exact ⟨rfl, rfl, rfl, rfl, rfl, rfl, rfl, rfl, rfl⟩
      obtain ⟨σ1, o1, f6, v6, j6⟩ := E6
      obtain ⟨w1, τ1, f7, t7, v7, i1, i2, i3, i4, i5, i6, i7, i8, i9⟩ := E7
      refine fin1 (Int32.toInt64) f6 f7 t7 (fun _ => by rw [v6, updL_s]; exact v7) (j6 τ1 ?_ ?_ ?_ ?_ ?_)
      · rw [i1]
        exact ⟨0, fun _ => a2, by omega, by omega, rfl, rfl, fun e e0 e1 => by omega⟩
      · rw [i3]
        exact h72
      · rw [i4]
        exact ⟨0, by omega, by omega, rfl, rfl, fun i i0 i1 => by omega⟩
      · rw [i6, i7]
        exact ⟨rfl, rfl⟩
      · rw [i8, i9]
        exact hJO
    · have x1 : f1 = z3 k0 := x1
      have x2 : f2 = z3 p0' := x2
      have x3 : g1 = 0 := x3
      have x4 : g2 = z3 k0 := x4
      have x5 : g5 = z3 p0' := x5
      subst x1 x2 x3 x4 x5
      have nk : ¬ z3 k0 = 0 := fun w => by
        have := (z3eq (by omega) (by omega) (by omega) (by omega)).1 (Eq.trans w l3_0)
        omega
      obtain ⟨sb, eb, hb⟩ := back7 as1 g6
      have h7b : N7 a sb := N7.c hO ⟨s0, s1, s2, tx, ty, tw⟩ (fun i hi => (hb i hi).trans (has i hi))
      have m6 : mX6_load (a6_history_count z.1) (a6_present_denominator z.1) (a6_present_nodes_count z.1) (a6_present_nodes_degree z.1) (a6_present_nodes_mode z.1) (a6_present_nodes_ws z.1) (a6_present_nodes_xs z.1) (a6_present_nodes_ys z.1) (a6_present_numerator z.1) (a6_present_order z.1) (a6_present_product z.1) (a6_present_sorted z.1) (a6_present_weights z.1) (a6_text_bytes z.1) (a6_text_faultKind z.1) (a6_text_faultPosition z.1) (a6_text_filled z.1) (a6_text_length z.1) (a6_text_next z.1) (a6_text_start z.1) (a6_text_token z.1) (a6_trial_nodes_count z.1) (a6_trial_nodes_degree z.1) (a6_trial_nodes_mode z.1) (a6_trial_nodes_ws z.1) (a6_trial_nodes_xs z.1) (a6_trial_nodes_ys z.1) (z3 p) = some (0, -3, a6_history_count z.1, a6_present_denominator z.1, a6_present_nodes_count z.1, a6_present_nodes_degree z.1, a6_present_nodes_mode z.1, a6_present_nodes_ws z.1, a6_present_nodes_xs z.1, a6_present_nodes_ys z.1, a6_present_numerator z.1, a6_present_order z.1, a6_present_product z.1, a6_present_sorted z.1, a6_present_weights z.1, z3 k0, z3 p0', 0, z3 p, f3, f4, f5, f6, f7, f8, f9, f10, f11) := by
        unfold mX6_load mX5_filled mX5_clear mX3_size mX2_clear mX5_read mX3_clear
        rw [Option.bind_some, NB, Option.bind_some, if_pos rfl, Option.bind_some]
        rw [LA, Option.bind_some, if_neg nk, Option.bind_some, Option.bind_some, if_pos rfl]
      have m7 : mX7_load (a7_aside z.2.1) (a7_buffer z.2.1) (a7_buffered z.2.1) (a7_edits z.2.1) (a7_errorKind z.2.1) (a7_errorPosition z.2.1) (a7_kind z.2.1) (a7_length z.2.1) (a7_next z.2.1) (a7_numberRead z.2.1) (a7_position z.2.1) (a7_s z.2.1) (a7_start z.2.1) (a7_thrown z.2.1) (a7_token z.2.1) (a7_value z.2.1) (z3 p) = some (-3, as1, 0, a7_edits z.2.1, z3 k0, z3 p0', z3 k0, z3 p, g3, g4, z3 p0', sb, g7, 0, g8, g9) := by
        unfold mX7_load mX7_parse
        rw [II, Option.bind_some, gd1, Option.bind_some, if_neg n10, ea, Option.bind_some, ez, Option.bind_some, R1, Option.bind_some, LB, Option.bind_some, if_neg (fun z => z (Or.inl rfl)), Option.bind_some, if_pos rfl, eb]
        rfl
      have E6 : ∃ σ1 o1, h_load z.1 (z3 p) z.2.2.1 = some (0, σ1, o1) ∧ o1 = vp_updL z.2.2.1 0 (Int32.toInt64 (-3)) ∧ ∀ τ1, JH (a6_history_count z.1) (a6_history_kept_E_count z.1) (a6_history_kept_E_mode z.1) (a6_history_kept_E_degree z.1) (a6_history_kept_E_ws z.1) (a6_history_kept_E_xs z.1) (a6_history_kept_E_ys z.1) (a7_edits τ1) (a7_history τ1) → N7 a (a7_s τ1) → JB 0 (a7_buffered τ1) (a6_text_bytes z.1) (a7_buffer τ1) → (z3 k0 = a7_errorKind τ1 ∧ z3 p0' = a7_errorPosition τ1) → JO (a6_output_count z.1) (a7_outputLength τ1) (a6_output_signs z.1) (a7_output τ1) → JZ σ1 τ1 := by
        apply Exists.intro
        apply Exists.intro
        refine ⟨?_, ?_, ?_⟩
        · unfold h_load s6_load
          rw [m6]
          rfl
        · rfl
        · exact fun τ1 x1 x2 x3 x4 x5 => ⟨⟨a, hO, ⟨⟨hc, hd, hm, hw, hx, hy⟩, ⟨hv, ho, hwt⟩⟩, x2⟩, x1, x3, x4, x5⟩
      have E7 : ∃ v1 τ1, s7_load z.2.1 (z3 p) = some (v1, τ1) ∧ a7_thrown τ1 = 0 ∧ (Int32.toInt64 (-3)) = (Int32.toInt64) v1 ∧ a7_edits τ1 = a7_edits z.2.1 ∧ a7_history τ1 = a7_history z.2.1 ∧ a7_s τ1 = sb ∧ a7_buffered τ1 = 0 ∧ a7_buffer τ1 = a7_buffer z.2.1 ∧ a7_errorKind τ1 = z3 k0 ∧ a7_errorPosition τ1 = z3 p0' ∧ a7_outputLength τ1 = a7_outputLength z.2.1 ∧ a7_output τ1 = a7_output z.2.1 := by
        apply Exists.intro
        apply Exists.intro
        refine ⟨?_, ?_, ?_, ?_⟩
        · unfold s7_load
          rw [m7]
          rfl
        · rfl
        · rfl
        · exact ⟨rfl, rfl, rfl, rfl, rfl, rfl, rfl, rfl, rfl⟩
      obtain ⟨σ1, o1, y6, v6, j6⟩ := E6
      obtain ⟨w1, τ1, y7, t7, v7, i1, i2, i3, i4, i5, i6, i7, i8, i9⟩ := E7
      refine fin1 (Int32.toInt64) y6 y7 t7 (fun _ => by rw [v6, updL_s]; exact v7) (j6 τ1 ?_ ?_ ?_ ?_ ?_)
      · rw [i1, i2]
        exact hH
      · rw [i3]
        exact h7b
      · rw [i4]
        exact ⟨0, by omega, by omega, rfl, rfl, fun i i0 i1 => by omega⟩
      · rw [i6, i7]
        exact ⟨rfl, rfl⟩
      · rw [i8, i9]
        exact hJO
  · have NB : mX6_needBetween (z3 p) 0 (a6_text_filled z.1) = some 2 := by
      rw [e6, l3_0, nb_n c1 q0 q1 (by omega) (by omega) (by omega) (by omega)]
    have II : mX7_isIn (Int32.toInt64 (z3 p)) 0 (Int32.toInt64 (a7_buffered z.2.1)) = some 0 := by
      rw [e7, z364 (by omega) (by omega), z364 (by omega) (by omega), show (0 : Int64) = z6 0 from rfl, ii_n c1 q0 q1 (by omega) (by omega) (by omega) (by omega)]
    have h : JS z := ⟨hA, hH, ⟨b, b0, b1, e6, e7, hB⟩, hE, hJO⟩
    have m6 : mX6_load (a6_history_count z.1) (a6_present_denominator z.1) (a6_present_nodes_count z.1) (a6_present_nodes_degree z.1) (a6_present_nodes_mode z.1) (a6_present_nodes_ws z.1) (a6_present_nodes_xs z.1) (a6_present_nodes_ys z.1) (a6_present_numerator z.1) (a6_present_order z.1) (a6_present_product z.1) (a6_present_sorted z.1) (a6_present_weights z.1) (a6_text_bytes z.1) (a6_text_faultKind z.1) (a6_text_faultPosition z.1) (a6_text_filled z.1) (a6_text_length z.1) (a6_text_next z.1) (a6_text_start z.1) (a6_text_token z.1) (a6_trial_nodes_count z.1) (a6_trial_nodes_degree z.1) (a6_trial_nodes_mode z.1) (a6_trial_nodes_ws z.1) (a6_trial_nodes_xs z.1) (a6_trial_nodes_ys z.1) (z3 p) = some (2, 0, a6_history_count z.1, a6_present_denominator z.1, a6_present_nodes_count z.1, a6_present_nodes_degree z.1, a6_present_nodes_mode z.1, a6_present_nodes_ws z.1, a6_present_nodes_xs z.1, a6_present_nodes_ys z.1, a6_present_numerator z.1, a6_present_order z.1, a6_present_product z.1, a6_present_sorted z.1, a6_present_weights z.1, a6_text_faultKind z.1, a6_text_faultPosition z.1, a6_text_filled z.1, a6_text_length z.1, a6_text_next z.1, a6_text_start z.1, a6_text_token z.1, a6_trial_nodes_count z.1, a6_trial_nodes_degree z.1, a6_trial_nodes_mode z.1, a6_trial_nodes_ws z.1, a6_trial_nodes_xs z.1, a6_trial_nodes_ys z.1) := by
      unfold mX6_load mX5_filled
      rw [Option.bind_some, NB]
      rfl
    have m7 : mX7_load (a7_aside z.2.1) (a7_buffer z.2.1) (a7_buffered z.2.1) (a7_edits z.2.1) (a7_errorKind z.2.1) (a7_errorPosition z.2.1) (a7_kind z.2.1) (a7_length z.2.1) (a7_next z.2.1) (a7_numberRead z.2.1) (a7_position z.2.1) (a7_s z.2.1) (a7_start z.2.1) (a7_thrown z.2.1) (a7_token z.2.1) (a7_value z.2.1) (z3 p) = some (0, a7_aside z.2.1, a7_buffered z.2.1, a7_edits z.2.1, a7_errorKind z.2.1, a7_errorPosition z.2.1, a7_kind z.2.1, a7_length z.2.1, a7_next z.2.1, a7_numberRead z.2.1, a7_position z.2.1, a7_s z.2.1, a7_start z.2.1, 1, a7_token z.2.1, a7_value z.2.1) := by
      unfold mX7_load
      rw [II, Option.bind_some, gd0, Option.bind_some, if_pos rfl]
    have E6 : ∃ σ1 o1, h_load z.1 (z3 p) z.2.2.1 = some (1, σ1, o1) ∧ (o1 0 = o1 0) ∧ ((1 : Int32) = 0 → o1 = vp_updL z.2.2.1 0 (0)) ∧ ∀ τ, JZ z.1 τ → JZ σ1 τ := by
      apply Exists.intro
      apply Exists.intro
      refine ⟨?_, rfl, ?_, ?_⟩
      · unfold h_load s6_load
        rw [m6]
        rfl
      · exact fun w => absurd w (by decide)
      · exact fun τ h => h
    have E7 : ∃ v1 τ1, s7_load z.2.1 (z3 p) = some (v1, τ1) ∧ a7_thrown τ1 = 1 ∧ ((1 : Int32) = 0 → (0) = (Int32.toInt64) v1) ∧ ∀ σ, JZ σ z.2.1 → JZ σ τ1 := by
      apply Exists.intro
      apply Exists.intro
      refine ⟨?_, ?_, ?_, ?_⟩
      · unfold s7_load
        rw [m7]
        rfl
      · rfl
      · exact fun w => absurd w (by decide)
      · exact fun σ h => h
    obtain ⟨σ1, o1, e6, -, v6, j6⟩ := E6
    obtain ⟨w1, τ1, e7, t7, v7, j7⟩ := E7
    exact fin1 (Int32.toInt64) e6 e7 t7 (fun w => by rw [v6 w, updL_s]; exact v7 w) (j7 _ (j6 _ h))
