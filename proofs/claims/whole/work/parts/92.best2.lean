/-! Step 30, bestPlace: the step. -/
theorem ok_30 : SOK q_30 := by
  intro u z h
  obtain ⟨a, hO, ⟨⟨hc, hd, hm, hw, hx, hy⟩, ⟨hv, ho, hwt⟩⟩, ⟨s0, s1, s2, tx, ty, tw⟩⟩ := h.1
  have O := hO
  obtain ⟨h0, h5, m0, m1, d0, d1, hr, hry, hrw, hi⟩ := O
  have hbw := hO.bw
  obtain ⟨k, k0, k1, hu⟩ := ex3 (u 1)
  obtain ⟨x, x0, x1, hu2⟩ := ex3 (u 2)
  unfold q_30
  rw [hu, hu2]
  have n12 : (12 : Int32) = z3 12 := rfl
  have hN3 : N3 a (a6_present_nodes_count z.1) (a6_present_nodes_degree z.1) (a6_present_nodes_mode z.1) (a6_present_nodes_ws z.1) (a6_present_nodes_xs z.1) (a6_present_nodes_ys z.1) := ⟨hc, hd, hm, hw, hx, hy⟩
  have HW : ∃ b, mX7_isWhole (z3 x) = some b := by
    by_cases c3 : -12 ≤ x ∧ x ≤ 12
    · exact ⟨1, iw_y c3 x0 x1⟩
    · exact ⟨0, iw_n c3 x0 x1⟩
  by_cases c1 : 0 ≤ k ∧ k < zC a
  · have nt := nt_y h0 h5 c1 k0 k1
    rw [← hc] at nt
    have it := it_y s2 h0 h5 c1 k0 k1
    by_cases c3 : -12 ≤ x ∧ x ≤ 12
    · obtain ⟨f1, q1, r, rb1, lo1, o1, up1, w1, E1, E2, E3⟩ := bp_go hO hN3 ⟨s0, s1, s2, tx, ty, tw⟩ c1.1 c1.2 c3.1 c3.2 19 (-9) (by omega) (by omega) FU FU (fuel (by omega)) (fuel (by omega)) 0 0 12 (a6_answer_bottom z.1) (a6_answer_top z.1) (a6_best_bottom z.1) (a6_best_top z.1) 0 1 (a7_low z.2.1) (a7_up z.2.1) (a6_trial_denominator z.1) (a6_trial_nodes_count z.1) (a6_trial_nodes_degree z.1) (a6_trial_nodes_mode z.1) (a6_trial_nodes_ws z.1) (a6_trial_nodes_xs z.1) (a6_trial_nodes_ys z.1) (a6_trial_numerator z.1) (a6_trial_order z.1) (a6_trial_product z.1) (a6_trial_sorted z.1) (a6_trial_weights z.1) (a7_order z.2.1) (a7_weights z.2.1) (Or.inl ⟨rfl, rfl⟩)
      have E1 : lX6_bestPlace_20 (z3 k) (z3 x) (a6_present_nodes_count z.1) (a6_present_nodes_mode z.1) (a6_present_nodes_degree z.1) (a6_present_nodes_ws z.1) (a6_present_nodes_xs z.1) (a6_present_nodes_ys z.1) FU 0 0 (-9) (a6_answer_bottom z.1) (a6_answer_top z.1) (a6_best_bottom z.1) (a6_best_top z.1) (a6_trial_denominator z.1) (a6_trial_nodes_count z.1) (a6_trial_nodes_degree z.1) (a6_trial_nodes_mode z.1) (a6_trial_nodes_ws z.1) (a6_trial_nodes_xs z.1) (a6_trial_nodes_ys z.1) (a6_trial_numerator z.1) (a6_trial_order z.1) (a6_trial_product z.1) (a6_trial_sorted z.1) (a6_trial_weights z.1) = some (f1, q1, r) := E1
      have E2 : lX7_placeFor_13 (z3 k) (z3 x) FU 12 0 1 (-9) (a7_low z.2.1) (a7_order z.2.1) (a7_s z.2.1) (a7_up z.2.1) (a7_weights z.2.1) = some (rb1, lo1, o1, a7_s z.2.1, up1, w1) := E2
      have PF : mX7_placeFor (a7_low z.2.1) (a7_order z.2.1) (a7_s z.2.1) (a7_up z.2.1) (a7_weights z.2.1) (z3 k) (z3 x) = some (rb1, lo1, o1, a7_s z.2.1, up1, w1) := by
        unfold mX7_placeFor
        rw [E2]
        rfl
      rcases E3 with ⟨rfl, rfl⟩ | ⟨rfl, y, y0, y1, rfl, rfl⟩
      · have m6 : ∃ r3, mX6_bestPlace (a6_answer_bottom z.1) (a6_answer_top z.1) (a6_best_bottom z.1) (a6_best_top z.1) (a6_present_nodes_count z.1) (a6_present_nodes_degree z.1) (a6_present_nodes_mode z.1) (a6_present_nodes_ws z.1) (a6_present_nodes_xs z.1) (a6_present_nodes_ys z.1) (a6_trial_denominator z.1) (a6_trial_nodes_count z.1) (a6_trial_nodes_degree z.1) (a6_trial_nodes_mode z.1) (a6_trial_nodes_ws z.1) (a6_trial_nodes_xs z.1) (a6_trial_nodes_ys z.1) (a6_trial_numerator z.1) (a6_trial_order z.1) (a6_trial_product z.1) (a6_trial_sorted z.1) (a6_trial_weights z.1) (z3 k) (z3 x) = some (4, 0, r3) := by
          unfold mX6_bestPlace
          rw [nt, Option.bind_some, if_pos rfl, n12, nw_y c3 x0 x1 (by omega) (by omega), Option.bind_some, if_pos rfl, E1, Option.bind_some, if_pos rfl]
          exact ⟨_, rfl⟩
        obtain ⟨r3, m6⟩ := m6
        have m7 : mX7_bestPlace (a7_low z.2.1) (a7_order z.2.1) (a7_s z.2.1) (a7_thrown z.2.1) (a7_up z.2.1) (a7_weights z.2.1) (z3 k) (z3 x) = some (0, lo1, o1, a7_s z.2.1, 3, up1, w1) := by
          unfold mX7_bestPlace
          rw [it, Option.bind_some, if_neg n10, iw_y c3 x0 x1, Option.bind_some, if_neg n10, if_neg n10, PF, Option.bind_some, it, Option.bind_some, Option.bind_some, if_pos (show (12 : Int32) ≤ 12 by decide), g3_110]
          rfl
        have E6 : ∃ σ1 o1, h_bestPlace z.1 (z3 k) (z3 x) z.2.2.1 = some (3, σ1, o1) ∧ (o1 0 = o1 0) ∧ ((3 : Int32) = 0 → o1 = vp_updL z.2.2.1 0 (0)) ∧ ∀ τ, JZ z.1 τ → JZ σ1 τ := by
          apply Exists.intro
          apply Exists.intro
          refine ⟨?_, rfl, ?_, ?_⟩
          · unfold h_bestPlace s6_bestPlace
            rw [m6]
            rfl
          · exact fun w => absurd w (by decide)
          · exact fun τ h => h
        have E7 : ∃ v1 τ1, s7_bestPlace z.2.1 (z3 k) (z3 x) = some (v1, τ1) ∧ a7_thrown τ1 = 3 ∧ ((3 : Int32) = 0 → (0) = (Int32.toInt64) v1) ∧ ∀ σ, JZ σ z.2.1 → JZ σ τ1 := by
          apply Exists.intro
          apply Exists.intro
          refine ⟨?_, ?_, ?_, ?_⟩
          · unfold s7_bestPlace
            rw [m7]
            rfl
          · rfl
          · exact fun w => absurd w (by decide)
          · exact fun σ h => h
        obtain ⟨σ1, o1, e6, -, v6, j6⟩ := E6
        obtain ⟨w1, τ1, e7, t7, v7, j7⟩ := E7
        exact fin1 (Int32.toInt64) e6 e7 t7 (fun w => by rw [v6 w, updL_s]; exact v7 w) (j7 _ (j6 _ h))
      · have ny : ¬ (12 : Int32) ≤ z3 y := fun w => by have := (z3le (by omega) (by omega) (by omega) (by omega)).1 (l3_12 ▸ w); omega
        have m6 : ∃ r3, mX6_bestPlace (a6_answer_bottom z.1) (a6_answer_top z.1) (a6_best_bottom z.1) (a6_best_top z.1) (a6_present_nodes_count z.1) (a6_present_nodes_degree z.1) (a6_present_nodes_mode z.1) (a6_present_nodes_ws z.1) (a6_present_nodes_xs z.1) (a6_present_nodes_ys z.1) (a6_trial_denominator z.1) (a6_trial_nodes_count z.1) (a6_trial_nodes_degree z.1) (a6_trial_nodes_mode z.1) (a6_trial_nodes_ws z.1) (a6_trial_nodes_xs z.1) (a6_trial_nodes_ys z.1) (a6_trial_numerator z.1) (a6_trial_order z.1) (a6_trial_product z.1) (a6_trial_sorted z.1) (a6_trial_weights z.1) (z3 k) (z3 x) = some (0, z3 y, r3) := by
          unfold mX6_bestPlace
          rw [nt, Option.bind_some, if_pos rfl, n12, nw_y c3 x0 x1 (by omega) (by omega), Option.bind_some, if_pos rfl, E1, Option.bind_some, if_neg n10]
          exact ⟨_, rfl⟩
        obtain ⟨r3, m6⟩ := m6
        have m7 : mX7_bestPlace (a7_low z.2.1) (a7_order z.2.1) (a7_s z.2.1) (a7_thrown z.2.1) (a7_up z.2.1) (a7_weights z.2.1) (z3 k) (z3 x) = some (z3 y, lo1, o1, a7_s z.2.1, 0, up1, w1) := by
          unfold mX7_bestPlace
          rw [it, Option.bind_some, if_neg n10, iw_y c3 x0 x1, Option.bind_some, if_neg n10, if_neg n10, PF, Option.bind_some, it, Option.bind_some, Option.bind_some, if_neg ny, g3_111, Option.bind_some, if_neg n10]
        have E6 : ∃ σ1 o1, h_bestPlace z.1 (z3 k) (z3 x) z.2.2.1 = some (0, σ1, o1) ∧ (o1 0 = o1 0) ∧ ((0 : Int32) = 0 → o1 = vp_updL z.2.2.1 0 (Int32.toInt64 (z3 y))) ∧ ∀ τ, JZ z.1 τ → JZ σ1 τ := by
          apply Exists.intro
          apply Exists.intro
          refine ⟨?_, rfl, ?_, ?_⟩
          · unfold h_bestPlace s6_bestPlace
            rw [m6]
            rfl
          · exact fun _ => rfl
          · exact fun τ h => h
        have E7 : ∃ v1 τ1, s7_bestPlace z.2.1 (z3 k) (z3 x) = some (v1, τ1) ∧ a7_thrown τ1 = 0 ∧ ((0 : Int32) = 0 → (Int32.toInt64 (z3 y)) = (Int32.toInt64) v1) ∧ ∀ σ, JZ σ z.2.1 → JZ σ τ1 := by
          apply Exists.intro
          apply Exists.intro
          refine ⟨?_, ?_, ?_, ?_⟩
          · unfold s7_bestPlace
            rw [m7]
            rfl
          · rfl
          · exact fun _ => rfl
          · exact fun σ h => h
        obtain ⟨σ1, o1, e6, -, v6, j6⟩ := E6
        obtain ⟨w1, τ1, e7, t7, v7, j7⟩ := E7
        exact fin1 (Int32.toInt64) e6 e7 t7 (fun w => by rw [v6 w, updL_s]; exact v7 w) (j7 _ (j6 _ h))
    · have m6 : ∃ r3, mX6_bestPlace (a6_answer_bottom z.1) (a6_answer_top z.1) (a6_best_bottom z.1) (a6_best_top z.1) (a6_present_nodes_count z.1) (a6_present_nodes_degree z.1) (a6_present_nodes_mode z.1) (a6_present_nodes_ws z.1) (a6_present_nodes_xs z.1) (a6_present_nodes_ys z.1) (a6_trial_denominator z.1) (a6_trial_nodes_count z.1) (a6_trial_nodes_degree z.1) (a6_trial_nodes_mode z.1) (a6_trial_nodes_ws z.1) (a6_trial_nodes_xs z.1) (a6_trial_nodes_ys z.1) (a6_trial_numerator z.1) (a6_trial_order z.1) (a6_trial_product z.1) (a6_trial_sorted z.1) (a6_trial_weights z.1) (z3 k) (z3 x) = some (2, 0, r3) := by
        unfold mX6_bestPlace
        rw [nt, Option.bind_some, if_pos rfl, n12, nw_n c3 x0 x1 (by omega) (by omega)]
        exact ⟨_, rfl⟩
      obtain ⟨r3, m6⟩ := m6
      have m7 : mX7_bestPlace (a7_low z.2.1) (a7_order z.2.1) (a7_s z.2.1) (a7_thrown z.2.1) (a7_up z.2.1) (a7_weights z.2.1) (z3 k) (z3 x) = some (0, a7_low z.2.1, a7_order z.2.1, a7_s z.2.1, 2, a7_up z.2.1, a7_weights z.2.1) := by
        unfold mX7_bestPlace
        rw [it, Option.bind_some, if_neg n10, iw_n c3 x0 x1, Option.bind_some, if_pos rfl, if_pos rfl, Option.bind_some, Option.bind_some, if_pos (show (12 : Int32) ≤ 12 by decide), g3_10]
        rfl
      have E6 : ∃ σ1 o1, h_bestPlace z.1 (z3 k) (z3 x) z.2.2.1 = some (2, σ1, o1) ∧ (o1 0 = o1 0) ∧ ((2 : Int32) = 0 → o1 = vp_updL z.2.2.1 0 (0)) ∧ ∀ τ, JZ z.1 τ → JZ σ1 τ := by
        apply Exists.intro
        apply Exists.intro
        refine ⟨?_, rfl, ?_, ?_⟩
        · unfold h_bestPlace s6_bestPlace
          rw [m6]
          rfl
        · exact fun w => absurd w (by decide)
        · exact fun τ h => h
      have E7 : ∃ v1 τ1, s7_bestPlace z.2.1 (z3 k) (z3 x) = some (v1, τ1) ∧ a7_thrown τ1 = 2 ∧ ((2 : Int32) = 0 → (0) = (Int32.toInt64) v1) ∧ ∀ σ, JZ σ z.2.1 → JZ σ τ1 := by
        apply Exists.intro
        apply Exists.intro
        refine ⟨?_, ?_, ?_, ?_⟩
        · unfold s7_bestPlace
          rw [m7]
          rfl
        · rfl
        · exact fun w => absurd w (by decide)
        · exact fun σ h => h
      obtain ⟨σ1, o1, e6, -, v6, j6⟩ := E6
      obtain ⟨w1, τ1, e7, t7, v7, j7⟩ := E7
      exact fin1 (Int32.toInt64) e6 e7 t7 (fun w => by rw [v6 w, updL_s]; exact v7 w) (j7 _ (j6 _ h))
  · have nt := nt_n h0 h5 c1 k0 k1
    rw [← hc] at nt
    obtain ⟨b, HW⟩ := HW
    have it := it_n s2 h0 h5 c1 k0 k1
    have m6 : ∃ r3, mX6_bestPlace (a6_answer_bottom z.1) (a6_answer_top z.1) (a6_best_bottom z.1) (a6_best_top z.1) (a6_present_nodes_count z.1) (a6_present_nodes_degree z.1) (a6_present_nodes_mode z.1) (a6_present_nodes_ws z.1) (a6_present_nodes_xs z.1) (a6_present_nodes_ys z.1) (a6_trial_denominator z.1) (a6_trial_nodes_count z.1) (a6_trial_nodes_degree z.1) (a6_trial_nodes_mode z.1) (a6_trial_nodes_ws z.1) (a6_trial_nodes_xs z.1) (a6_trial_nodes_ys z.1) (a6_trial_numerator z.1) (a6_trial_order z.1) (a6_trial_product z.1) (a6_trial_sorted z.1) (a6_trial_weights z.1) (z3 k) (z3 x) = some (1, 0, r3) := by
      unfold mX6_bestPlace
      rw [nt]
      exact ⟨_, rfl⟩
    obtain ⟨r3, m6⟩ := m6
    have m7 : mX7_bestPlace (a7_low z.2.1) (a7_order z.2.1) (a7_s z.2.1) (a7_thrown z.2.1) (a7_up z.2.1) (a7_weights z.2.1) (z3 k) (z3 x) = some (0, a7_low z.2.1, a7_order z.2.1, a7_s z.2.1, 1, a7_up z.2.1, a7_weights z.2.1) := by
      unfold mX7_bestPlace
      rw [it, Option.bind_some, if_pos rfl, if_pos rfl, Option.bind_some, HW, Option.bind_some, if_pos (show (12 : Int32) ≤ 12 by decide), g3_0]
      rfl
    have E6 : ∃ σ1 o1, h_bestPlace z.1 (z3 k) (z3 x) z.2.2.1 = some (1, σ1, o1) ∧ (o1 0 = o1 0) ∧ ((1 : Int32) = 0 → o1 = vp_updL z.2.2.1 0 (0)) ∧ ∀ τ, JZ z.1 τ → JZ σ1 τ := by
      apply Exists.intro
      apply Exists.intro
      refine ⟨?_, rfl, ?_, ?_⟩
      · unfold h_bestPlace s6_bestPlace
        rw [m6]
        rfl
      · exact fun w => absurd w (by decide)
      · exact fun τ h => h
    have E7 : ∃ v1 τ1, s7_bestPlace z.2.1 (z3 k) (z3 x) = some (v1, τ1) ∧ a7_thrown τ1 = 1 ∧ ((1 : Int32) = 0 → (0) = (Int32.toInt64) v1) ∧ ∀ σ, JZ σ z.2.1 → JZ σ τ1 := by
      apply Exists.intro
      apply Exists.intro
      refine ⟨?_, ?_, ?_, ?_⟩
      · unfold s7_bestPlace
        rw [m7]
        rfl
      · rfl
      · exact fun w => absurd w (by decide)
      · exact fun σ h => h
    obtain ⟨σ1, o1, e6, -, v6, j6⟩ := E6
    obtain ⟨w1, τ1, e7, t7, v7, j7⟩ := E7
    exact fin1 (Int32.toInt64) e6 e7 t7 (fun w => by rw [v6 w, updL_s]; exact v7 w) (j7 _ (j6 _ h))
