/-! Edits: setValue, setWeight, setMode. -/
theorem ok_32 : SOK q_32 := by
  intro u z h
  obtain ⟨a, hO, ⟨⟨hc, hd, hm, hw, hx, hy⟩, ⟨hv, ho, hwt⟩⟩, ⟨s0, s1, s2, tx, ty, tw⟩⟩ := h.1
  have O := hO
  obtain ⟨h0, h5, m0, m1, d0, d1, hr, hry, hrw, hi⟩ := O
  have hbw := hO.bw
  obtain ⟨x, x0, x1, hu⟩ := ex3 (u 1)
  obtain ⟨y, y0, y1, hu2⟩ := ex3 (u 2)
  unfold q_32
  rw [hu, hu2]
  have nn : (20 : Int32) = z3 20 := rfl
  by_cases c1 : 0 ≤ x ∧ x < zC a
  · have nt := nt_y h0 h5 c1 x0 x1
    rw [← hc] at nt
    by_cases c2 : -20 ≤ y ∧ y ≤ 20
    · obtain ⟨hc1, kc1, kd1, km1, kw1, kx1, ky1, ed1, hi1, R3, R7, hJ1⟩ := rememb h.2.1 hO ⟨hc, hd, hm, hw, hx, hy⟩ ⟨s0, s1, s2, tx, ty, tw⟩
      have hO9 : OkZ (zC a, zM a, zD a, zX a, uz (zY a) x y, zW a) := ⟨h0, h5, m0, m1, d0, d1, hr, hry.u c2.1 c2.2, hrw, hi⟩
      obtain ⟨a9, ea9⟩ : ∃ a9 : AZ, a9 = (zC a, zM a, zD a, zX a, uz (zY a) x y, zW a) := ⟨_, rfl⟩
      rw [← ea9] at hO9
      have hN3 : N3 a9 (a6_present_nodes_count z.1) (a6_present_nodes_degree z.1) (a6_present_nodes_mode z.1) (a6_present_nodes_ws z.1) (a6_present_nodes_xs z.1) (upd (a6_present_nodes_ys z.1) x.toNat (z3 y)) := by
        rw [ea9]
        exact ⟨hc, hd, hm, hw, hx, hy.u0 c1.1 y⟩
      obtain ⟨s1, es1⟩ : ∃ s1, s1 = upd (a7_s z.2.1) (8 + x).toNat (z3 y) := ⟨_, rfl⟩
      have hN7 : N7 a9 s1 := by
        rw [ea9, es1]
        exact ⟨(upd_n (by omega)).trans s0, (upd_n (by omega)).trans (by assumption), (upd_n (by omega)).trans s2, tx.o _ (fun k k0 k1 => by omega), ty.u (by omega) c1.1 y, tw.o _ (fun k k0 k1 => by omega)⟩
      obtain ⟨den1, num1, or1, pr1, so1, wt1, RK, hCv⟩ := reckon3 hO9 hN3 (a6_present_denominator z.1) (a6_present_numerator z.1) (a6_present_order z.1) (a6_present_product z.1) (a6_present_sorted z.1) (a6_present_weights z.1)
      have S7 := sets7 (j := 8 + x) (z3 y) (by omega) (by omega) R7
      rw [ty x c1.1 c1.2, ← es1] at S7
      have m6 : mX6_setValue (a6_history_count z.1) (a6_history_kept_E_count z.1) (a6_history_kept_E_degree z.1) (a6_history_kept_E_mode z.1) (a6_history_kept_E_ws z.1) (a6_history_kept_E_xs z.1) (a6_history_kept_E_ys z.1) (a6_present_denominator z.1) (a6_present_nodes_count z.1) (a6_present_nodes_degree z.1) (a6_present_nodes_mode z.1) (a6_present_nodes_ws z.1) (a6_present_nodes_xs z.1) (a6_present_nodes_ys z.1) (a6_present_numerator z.1) (a6_present_order z.1) (a6_present_product z.1) (a6_present_sorted z.1) (a6_present_weights z.1) (z3 x) (z3 y) = some (0, z3 (zY a x), hc1, kc1, kd1, km1, kw1, kx1, ky1, den1, upd (a6_present_nodes_ys z.1) x.toNat (z3 y), num1, or1, pr1, so1, wt1) := by
        unfold mX6_setValue
        rw [nt, Option.bind_some, if_pos rfl, nn, nw_y c2 y0 y1 (by omega) (by omega), Option.bind_some, if_pos rfl, yOfz c1.1 (by omega), Option.bind_some, R3, Option.bind_some, putY3 _ c1.1 (by omega), Option.bind_some, RK, hy.z c1.1 c1.2]
        rfl
      have m7 : mX7_setValue (a7_edits z.2.1) (a7_history z.2.1) (a7_s z.2.1) (a7_thrown z.2.1) (z3 x) (z3 y) = some (z3 (zY a x), ed1, hi1, s1, 0) := by
        unfold mX7_setValue
        rw [it_y s2 h0 h5 c1 x0 x1, Option.bind_some, iY_y c2 y0 y1, Option.bind_some, g2_11, Option.bind_some, if_neg n10, l3_8, z3a, S7]
        rfl
      have E6 : ∃ σ1 o1, h_setValue z.1 (z3 x) (z3 y) z.2.2.1 = some (0, σ1, o1) ∧ o1 = vp_updL z.2.2.1 0 (Int32.toInt64 (z3 (zY a x))) ∧ ∀ τ1, JH hc1 kc1 km1 kd1 kw1 kx1 ky1 (a7_edits τ1) (a7_history τ1) → N7 a9 (a7_s τ1) → JB (a6_text_filled z.1) (a7_buffered τ1) (a6_text_bytes z.1) (a7_buffer τ1) → (a6_text_faultKind z.1 = a7_errorKind τ1 ∧ a6_text_faultPosition z.1 = a7_errorPosition τ1) → JO (a6_output_count z.1) (a7_outputLength τ1) (a6_output_signs z.1) (a7_output τ1) → JZ σ1 τ1 := by
        apply Exists.intro
        apply Exists.intro
        refine ⟨?_, ?_, ?_⟩
        · unfold h_setValue s6_setValue
          rw [m6]
          rfl
        · rfl
        · exact fun τ1 x1 x2 x3 x4 x5 => ⟨⟨a9, hO9, ⟨hN3, hCv⟩, x2⟩, x1, x3, x4, x5⟩
      have E7 : ∃ v1 τ1, s7_setValue z.2.1 (z3 x) (z3 y) = some (v1, τ1) ∧ a7_thrown τ1 = 0 ∧ (Int32.toInt64 (z3 (zY a x))) = (Int32.toInt64) v1 ∧ a7_edits τ1 = ed1 ∧ a7_history τ1 = hi1 ∧ a7_s τ1 = s1 ∧ a7_buffered τ1 = a7_buffered z.2.1 ∧ a7_buffer τ1 = a7_buffer z.2.1 ∧ a7_errorKind τ1 = a7_errorKind z.2.1 ∧ a7_errorPosition τ1 = a7_errorPosition z.2.1 ∧ a7_outputLength τ1 = a7_outputLength z.2.1 ∧ a7_output τ1 = a7_output z.2.1 := by
        apply Exists.intro
        apply Exists.intro
        refine ⟨?_, ?_, ?_, ?_⟩
        · unfold s7_setValue
          rw [m7]
          rfl
        · rfl
        · rfl
        · exact ⟨rfl, rfl, rfl, rfl, rfl, rfl, rfl, rfl, rfl⟩
      obtain ⟨σ1, o1, f6, v6, j6⟩ := E6
      obtain ⟨w1, τ1, f7, t7, v7, i1, i2, i3, i4, i5, i6, i7, i8, i9⟩ := E7
      refine fin1 (Int32.toInt64) f6 f7 t7 (fun _ => by rw [v6, updL_s]; exact v7) (j6 τ1 ?_ ?_ ?_ ?_ ?_)
      · rw [i1, i2]
        exact hJ1
      · rw [i3]
        exact hN7
      · rw [i4, i5]
        exact h.2.2.1
      · rw [i6, i7]
        exact h.2.2.2.1
      · rw [i8, i9]
        exact h.2.2.2.2
    · have m6 : mX6_setValue (a6_history_count z.1) (a6_history_kept_E_count z.1) (a6_history_kept_E_degree z.1) (a6_history_kept_E_mode z.1) (a6_history_kept_E_ws z.1) (a6_history_kept_E_xs z.1) (a6_history_kept_E_ys z.1) (a6_present_denominator z.1) (a6_present_nodes_count z.1) (a6_present_nodes_degree z.1) (a6_present_nodes_mode z.1) (a6_present_nodes_ws z.1) (a6_present_nodes_xs z.1) (a6_present_nodes_ys z.1) (a6_present_numerator z.1) (a6_present_order z.1) (a6_present_product z.1) (a6_present_sorted z.1) (a6_present_weights z.1) (z3 x) (z3 y) = some (2, 0, a6_history_count z.1, a6_history_kept_E_count z.1, a6_history_kept_E_degree z.1, a6_history_kept_E_mode z.1, a6_history_kept_E_ws z.1, a6_history_kept_E_xs z.1, a6_history_kept_E_ys z.1, a6_present_denominator z.1, a6_present_nodes_ys z.1, a6_present_numerator z.1, a6_present_order z.1, a6_present_product z.1, a6_present_sorted z.1, a6_present_weights z.1) := by
        unfold mX6_setValue
        rw [nt, Option.bind_some, if_pos rfl, nn, nw_n c2 y0 y1 (by omega) (by omega)]
        rfl
      have m7 : mX7_setValue (a7_edits z.2.1) (a7_history z.2.1) (a7_s z.2.1) (a7_thrown z.2.1) (z3 x) (z3 y) = some (0, a7_edits z.2.1, a7_history z.2.1, a7_s z.2.1, 2) := by
        unfold mX7_setValue
        rw [it_y s2 h0 h5 c1 x0 x1, Option.bind_some, iY_n c2 y0 y1]
        rfl
      have E6 : ∃ σ1 o1, h_setValue z.1 (z3 x) (z3 y) z.2.2.1 = some (2, σ1, o1) ∧ (o1 0 = o1 0) ∧ ((2 : Int32) = 0 → o1 = vp_updL z.2.2.1 0 (0)) ∧ ∀ τ, JZ z.1 τ → JZ σ1 τ := by
        apply Exists.intro
        apply Exists.intro
        refine ⟨?_, rfl, ?_, ?_⟩
        · unfold h_setValue s6_setValue
          rw [m6]
          rfl
        · exact fun w => absurd w (by decide)
        · exact fun τ h => h
      have E7 : ∃ v1 τ1, s7_setValue z.2.1 (z3 x) (z3 y) = some (v1, τ1) ∧ a7_thrown τ1 = 2 ∧ ((2 : Int32) = 0 → (0) = (Int32.toInt64) v1) ∧ ∀ σ, JZ σ z.2.1 → JZ σ τ1 := by
        apply Exists.intro
        apply Exists.intro
        refine ⟨?_, ?_, ?_, ?_⟩
        · unfold s7_setValue
          rw [m7]
          rfl
        · rfl
        · exact fun w => absurd w (by decide)
        · exact fun σ h => h
      obtain ⟨σ1, o1, e6, -, v6, j6⟩ := E6
      obtain ⟨w1, τ1, e7, t7, v7, j7⟩ := E7
      exact fin1 (Int32.toInt64) e6 e7 t7 (fun w => by rw [v6 w, updL_s]; exact v7 w) (j7 _ (j6 _ h))
  · have nt := nt_n h0 h5 c1 x0 x1
    rw [← hc] at nt
    by_cases c2 : -20 ≤ y ∧ y ≤ 20
    · have m6 : mX6_setValue (a6_history_count z.1) (a6_history_kept_E_count z.1) (a6_history_kept_E_degree z.1) (a6_history_kept_E_mode z.1) (a6_history_kept_E_ws z.1) (a6_history_kept_E_xs z.1) (a6_history_kept_E_ys z.1) (a6_present_denominator z.1) (a6_present_nodes_count z.1) (a6_present_nodes_degree z.1) (a6_present_nodes_mode z.1) (a6_present_nodes_ws z.1) (a6_present_nodes_xs z.1) (a6_present_nodes_ys z.1) (a6_present_numerator z.1) (a6_present_order z.1) (a6_present_product z.1) (a6_present_sorted z.1) (a6_present_weights z.1) (z3 x) (z3 y) = some (1, 0, a6_history_count z.1, a6_history_kept_E_count z.1, a6_history_kept_E_degree z.1, a6_history_kept_E_mode z.1, a6_history_kept_E_ws z.1, a6_history_kept_E_xs z.1, a6_history_kept_E_ys z.1, a6_present_denominator z.1, a6_present_nodes_ys z.1, a6_present_numerator z.1, a6_present_order z.1, a6_present_product z.1, a6_present_sorted z.1, a6_present_weights z.1) := by
        unfold mX6_setValue
        rw [nt]
        rfl
      have m7 : mX7_setValue (a7_edits z.2.1) (a7_history z.2.1) (a7_s z.2.1) (a7_thrown z.2.1) (z3 x) (z3 y) = some (0, a7_edits z.2.1, a7_history z.2.1, a7_s z.2.1, 1) := by
        unfold mX7_setValue
        rw [it_n s2 h0 h5 c1 x0 x1, Option.bind_some, iY_y c2 y0 y1]
        rfl
      have E6 : ∃ σ1 o1, h_setValue z.1 (z3 x) (z3 y) z.2.2.1 = some (1, σ1, o1) ∧ (o1 0 = o1 0) ∧ ((1 : Int32) = 0 → o1 = vp_updL z.2.2.1 0 (0)) ∧ ∀ τ, JZ z.1 τ → JZ σ1 τ := by
        apply Exists.intro
        apply Exists.intro
        refine ⟨?_, rfl, ?_, ?_⟩
        · unfold h_setValue s6_setValue
          rw [m6]
          rfl
        · exact fun w => absurd w (by decide)
        · exact fun τ h => h
      have E7 : ∃ v1 τ1, s7_setValue z.2.1 (z3 x) (z3 y) = some (v1, τ1) ∧ a7_thrown τ1 = 1 ∧ ((1 : Int32) = 0 → (0) = (Int32.toInt64) v1) ∧ ∀ σ, JZ σ z.2.1 → JZ σ τ1 := by
        apply Exists.intro
        apply Exists.intro
        refine ⟨?_, ?_, ?_, ?_⟩
        · unfold s7_setValue
          rw [m7]
          rfl
        · rfl
        · exact fun w => absurd w (by decide)
        · exact fun σ h => h
      obtain ⟨σ1, o1, e6, -, v6, j6⟩ := E6
      obtain ⟨w1, τ1, e7, t7, v7, j7⟩ := E7
      exact fin1 (Int32.toInt64) e6 e7 t7 (fun w => by rw [v6 w, updL_s]; exact v7 w) (j7 _ (j6 _ h))
    · have m6 : mX6_setValue (a6_history_count z.1) (a6_history_kept_E_count z.1) (a6_history_kept_E_degree z.1) (a6_history_kept_E_mode z.1) (a6_history_kept_E_ws z.1) (a6_history_kept_E_xs z.1) (a6_history_kept_E_ys z.1) (a6_present_denominator z.1) (a6_present_nodes_count z.1) (a6_present_nodes_degree z.1) (a6_present_nodes_mode z.1) (a6_present_nodes_ws z.1) (a6_present_nodes_xs z.1) (a6_present_nodes_ys z.1) (a6_present_numerator z.1) (a6_present_order z.1) (a6_present_product z.1) (a6_present_sorted z.1) (a6_present_weights z.1) (z3 x) (z3 y) = some (1, 0, a6_history_count z.1, a6_history_kept_E_count z.1, a6_history_kept_E_degree z.1, a6_history_kept_E_mode z.1, a6_history_kept_E_ws z.1, a6_history_kept_E_xs z.1, a6_history_kept_E_ys z.1, a6_present_denominator z.1, a6_present_nodes_ys z.1, a6_present_numerator z.1, a6_present_order z.1, a6_present_product z.1, a6_present_sorted z.1, a6_present_weights z.1) := by
        unfold mX6_setValue
        rw [nt]
        rfl
      have m7 : mX7_setValue (a7_edits z.2.1) (a7_history z.2.1) (a7_s z.2.1) (a7_thrown z.2.1) (z3 x) (z3 y) = some (0, a7_edits z.2.1, a7_history z.2.1, a7_s z.2.1, 1) := by
        unfold mX7_setValue
        rw [it_n s2 h0 h5 c1 x0 x1, Option.bind_some, iY_n c2 y0 y1]
        rfl
      have E6 : ∃ σ1 o1, h_setValue z.1 (z3 x) (z3 y) z.2.2.1 = some (1, σ1, o1) ∧ (o1 0 = o1 0) ∧ ((1 : Int32) = 0 → o1 = vp_updL z.2.2.1 0 (0)) ∧ ∀ τ, JZ z.1 τ → JZ σ1 τ := by
        apply Exists.intro
        apply Exists.intro
        refine ⟨?_, rfl, ?_, ?_⟩
        · unfold h_setValue s6_setValue
          rw [m6]
          rfl
        · exact fun w => absurd w (by decide)
        · exact fun τ h => h
      have E7 : ∃ v1 τ1, s7_setValue z.2.1 (z3 x) (z3 y) = some (v1, τ1) ∧ a7_thrown τ1 = 1 ∧ ((1 : Int32) = 0 → (0) = (Int32.toInt64) v1) ∧ ∀ σ, JZ σ z.2.1 → JZ σ τ1 := by
        apply Exists.intro
        apply Exists.intro
        refine ⟨?_, ?_, ?_, ?_⟩
        · unfold s7_setValue
          rw [m7]
          rfl
        · rfl
        · exact fun w => absurd w (by decide)
        · exact fun σ h => h
      obtain ⟨σ1, o1, e6, -, v6, j6⟩ := E6
      obtain ⟨w1, τ1, e7, t7, v7, j7⟩ := E7
      exact fin1 (Int32.toInt64) e6 e7 t7 (fun w => by rw [v6 w, updL_s]; exact v7 w) (j7 _ (j6 _ h))
theorem ok_33 : SOK q_33 := by
  intro u z h
  obtain ⟨a, hO, ⟨⟨hc, hd, hm, hw, hx, hy⟩, ⟨hv, ho, hwt⟩⟩, ⟨s0, s1, s2, tx, ty, tw⟩⟩ := h.1
  have O := hO
  obtain ⟨h0, h5, m0, m1, d0, d1, hr, hry, hrw, hi⟩ := O
  have hbw := hO.bw
  obtain ⟨x, x0, x1, hu⟩ := ex3 (u 1)
  obtain ⟨y, y0, y1, hu2⟩ := ex3 (u 2)
  unfold q_33
  rw [hu, hu2]
  have nn : (9 : Int32) = z3 9 := rfl
  by_cases c1 : 0 ≤ x ∧ x < zC a
  · have nt := nt_y h0 h5 c1 x0 x1
    rw [← hc] at nt
    by_cases c2 : -9 ≤ y ∧ y ≤ 9
    · obtain ⟨hc1, kc1, kd1, km1, kw1, kx1, ky1, ed1, hi1, R3, R7, hJ1⟩ := rememb h.2.1 hO ⟨hc, hd, hm, hw, hx, hy⟩ ⟨s0, s1, s2, tx, ty, tw⟩
      have hO9 : OkZ (zC a, zM a, zD a, zX a, zY a, uz (zW a) x y) := ⟨h0, h5, m0, m1, d0, d1, hr, hry, hrw.u c2.1 c2.2, hi⟩
      obtain ⟨a9, ea9⟩ : ∃ a9 : AZ, a9 = (zC a, zM a, zD a, zX a, zY a, uz (zW a) x y) := ⟨_, rfl⟩
      rw [← ea9] at hO9
      have hN3 : N3 a9 (a6_present_nodes_count z.1) (a6_present_nodes_degree z.1) (a6_present_nodes_mode z.1) (upd (a6_present_nodes_ws z.1) x.toNat (z3 y)) (a6_present_nodes_xs z.1) (a6_present_nodes_ys z.1) := by
        rw [ea9]
        exact ⟨hc, hd, hm, hw.u0 c1.1 y, hx, hy⟩
      obtain ⟨s1, es1⟩ : ∃ s1, s1 = upd (a7_s z.2.1) (13 + x).toNat (z3 y) := ⟨_, rfl⟩
      have hN7 : N7 a9 s1 := by
        rw [ea9, es1]
        exact ⟨(upd_n (by omega)).trans s0, (upd_n (by omega)).trans (by assumption), (upd_n (by omega)).trans s2, tx.o _ (fun k k0 k1 => by omega), ty.o _ (fun k k0 k1 => by omega), tw.u (by omega) c1.1 y⟩
      obtain ⟨den1, num1, or1, pr1, so1, wt1, RK, hCv⟩ := reckon3 hO9 hN3 (a6_present_denominator z.1) (a6_present_numerator z.1) (a6_present_order z.1) (a6_present_product z.1) (a6_present_sorted z.1) (a6_present_weights z.1)
      have S7 := sets7 (j := 13 + x) (z3 y) (by omega) (by omega) R7
      rw [tw x c1.1 c1.2, ← es1] at S7
      have m6 : mX6_setWeight (a6_history_count z.1) (a6_history_kept_E_count z.1) (a6_history_kept_E_degree z.1) (a6_history_kept_E_mode z.1) (a6_history_kept_E_ws z.1) (a6_history_kept_E_xs z.1) (a6_history_kept_E_ys z.1) (a6_present_denominator z.1) (a6_present_nodes_count z.1) (a6_present_nodes_degree z.1) (a6_present_nodes_mode z.1) (a6_present_nodes_ws z.1) (a6_present_nodes_xs z.1) (a6_present_nodes_ys z.1) (a6_present_numerator z.1) (a6_present_order z.1) (a6_present_product z.1) (a6_present_sorted z.1) (a6_present_weights z.1) (z3 x) (z3 y) = some (0, z3 (zW a x), hc1, kc1, kd1, km1, kw1, kx1, ky1, den1, upd (a6_present_nodes_ws z.1) x.toNat (z3 y), num1, or1, pr1, so1, wt1) := by
        unfold mX6_setWeight
        rw [nt, Option.bind_some, if_pos rfl, nn, nw_y c2 y0 y1 (by omega) (by omega), Option.bind_some, if_pos rfl, wOfz c1.1 (by omega), Option.bind_some, R3, Option.bind_some, putW3 _ c1.1 (by omega), Option.bind_some, RK, hw.z c1.1 c1.2]
        rfl
      have m7 : mX7_setWeight (a7_edits z.2.1) (a7_history z.2.1) (a7_s z.2.1) (a7_thrown z.2.1) (z3 x) (z3 y) = some (z3 (zW a x), ed1, hi1, s1, 0) := by
        unfold mX7_setWeight
        rw [it_y s2 h0 h5 c1 x0 x1, Option.bind_some, iW_y c2 y0 y1, Option.bind_some, g2_11, Option.bind_some, if_neg n10, l3_13, z3a, S7]
        rfl
      have E6 : ∃ σ1 o1, h_setWeight z.1 (z3 x) (z3 y) z.2.2.1 = some (0, σ1, o1) ∧ o1 = vp_updL z.2.2.1 0 (Int32.toInt64 (z3 (zW a x))) ∧ ∀ τ1, JH hc1 kc1 km1 kd1 kw1 kx1 ky1 (a7_edits τ1) (a7_history τ1) → N7 a9 (a7_s τ1) → JB (a6_text_filled z.1) (a7_buffered τ1) (a6_text_bytes z.1) (a7_buffer τ1) → (a6_text_faultKind z.1 = a7_errorKind τ1 ∧ a6_text_faultPosition z.1 = a7_errorPosition τ1) → JO (a6_output_count z.1) (a7_outputLength τ1) (a6_output_signs z.1) (a7_output τ1) → JZ σ1 τ1 := by
        apply Exists.intro
        apply Exists.intro
        refine ⟨?_, ?_, ?_⟩
        · unfold h_setWeight s6_setWeight
          rw [m6]
          rfl
        · rfl
        · exact fun τ1 x1 x2 x3 x4 x5 => ⟨⟨a9, hO9, ⟨hN3, hCv⟩, x2⟩, x1, x3, x4, x5⟩
      have E7 : ∃ v1 τ1, s7_setWeight z.2.1 (z3 x) (z3 y) = some (v1, τ1) ∧ a7_thrown τ1 = 0 ∧ (Int32.toInt64 (z3 (zW a x))) = (Int32.toInt64) v1 ∧ a7_edits τ1 = ed1 ∧ a7_history τ1 = hi1 ∧ a7_s τ1 = s1 ∧ a7_buffered τ1 = a7_buffered z.2.1 ∧ a7_buffer τ1 = a7_buffer z.2.1 ∧ a7_errorKind τ1 = a7_errorKind z.2.1 ∧ a7_errorPosition τ1 = a7_errorPosition z.2.1 ∧ a7_outputLength τ1 = a7_outputLength z.2.1 ∧ a7_output τ1 = a7_output z.2.1 := by
        apply Exists.intro
        apply Exists.intro
        refine ⟨?_, ?_, ?_, ?_⟩
        · unfold s7_setWeight
          rw [m7]
          rfl
        · rfl
        · rfl
        · exact ⟨rfl, rfl, rfl, rfl, rfl, rfl, rfl, rfl, rfl⟩
      obtain ⟨σ1, o1, f6, v6, j6⟩ := E6
      obtain ⟨w1, τ1, f7, t7, v7, i1, i2, i3, i4, i5, i6, i7, i8, i9⟩ := E7
      refine fin1 (Int32.toInt64) f6 f7 t7 (fun _ => by rw [v6, updL_s]; exact v7) (j6 τ1 ?_ ?_ ?_ ?_ ?_)
      · rw [i1, i2]
        exact hJ1
      · rw [i3]
        exact hN7
      · rw [i4, i5]
        exact h.2.2.1
      · rw [i6, i7]
        exact h.2.2.2.1
      · rw [i8, i9]
        exact h.2.2.2.2
    · have m6 : mX6_setWeight (a6_history_count z.1) (a6_history_kept_E_count z.1) (a6_history_kept_E_degree z.1) (a6_history_kept_E_mode z.1) (a6_history_kept_E_ws z.1) (a6_history_kept_E_xs z.1) (a6_history_kept_E_ys z.1) (a6_present_denominator z.1) (a6_present_nodes_count z.1) (a6_present_nodes_degree z.1) (a6_present_nodes_mode z.1) (a6_present_nodes_ws z.1) (a6_present_nodes_xs z.1) (a6_present_nodes_ys z.1) (a6_present_numerator z.1) (a6_present_order z.1) (a6_present_product z.1) (a6_present_sorted z.1) (a6_present_weights z.1) (z3 x) (z3 y) = some (2, 0, a6_history_count z.1, a6_history_kept_E_count z.1, a6_history_kept_E_degree z.1, a6_history_kept_E_mode z.1, a6_history_kept_E_ws z.1, a6_history_kept_E_xs z.1, a6_history_kept_E_ys z.1, a6_present_denominator z.1, a6_present_nodes_ws z.1, a6_present_numerator z.1, a6_present_order z.1, a6_present_product z.1, a6_present_sorted z.1, a6_present_weights z.1) := by
        unfold mX6_setWeight
        rw [nt, Option.bind_some, if_pos rfl, nn, nw_n c2 y0 y1 (by omega) (by omega)]
        rfl
      have m7 : mX7_setWeight (a7_edits z.2.1) (a7_history z.2.1) (a7_s z.2.1) (a7_thrown z.2.1) (z3 x) (z3 y) = some (0, a7_edits z.2.1, a7_history z.2.1, a7_s z.2.1, 2) := by
        unfold mX7_setWeight
        rw [it_y s2 h0 h5 c1 x0 x1, Option.bind_some, iW_n c2 y0 y1]
        rfl
      have E6 : ∃ σ1 o1, h_setWeight z.1 (z3 x) (z3 y) z.2.2.1 = some (2, σ1, o1) ∧ (o1 0 = o1 0) ∧ ((2 : Int32) = 0 → o1 = vp_updL z.2.2.1 0 (0)) ∧ ∀ τ, JZ z.1 τ → JZ σ1 τ := by
        apply Exists.intro
        apply Exists.intro
        refine ⟨?_, rfl, ?_, ?_⟩
        · unfold h_setWeight s6_setWeight
          rw [m6]
          rfl
        · exact fun w => absurd w (by decide)
        · exact fun τ h => h
      have E7 : ∃ v1 τ1, s7_setWeight z.2.1 (z3 x) (z3 y) = some (v1, τ1) ∧ a7_thrown τ1 = 2 ∧ ((2 : Int32) = 0 → (0) = (Int32.toInt64) v1) ∧ ∀ σ, JZ σ z.2.1 → JZ σ τ1 := by
        apply Exists.intro
        apply Exists.intro
        refine ⟨?_, ?_, ?_, ?_⟩
        · unfold s7_setWeight
          rw [m7]
          rfl
        · rfl
        · exact fun w => absurd w (by decide)
        · exact fun σ h => h
      obtain ⟨σ1, o1, e6, -, v6, j6⟩ := E6
      obtain ⟨w1, τ1, e7, t7, v7, j7⟩ := E7
      exact fin1 (Int32.toInt64) e6 e7 t7 (fun w => by rw [v6 w, updL_s]; exact v7 w) (j7 _ (j6 _ h))
  · have nt := nt_n h0 h5 c1 x0 x1
    rw [← hc] at nt
    by_cases c2 : -9 ≤ y ∧ y ≤ 9
    · have m6 : mX6_setWeight (a6_history_count z.1) (a6_history_kept_E_count z.1) (a6_history_kept_E_degree z.1) (a6_history_kept_E_mode z.1) (a6_history_kept_E_ws z.1) (a6_history_kept_E_xs z.1) (a6_history_kept_E_ys z.1) (a6_present_denominator z.1) (a6_present_nodes_count z.1) (a6_present_nodes_degree z.1) (a6_present_nodes_mode z.1) (a6_present_nodes_ws z.1) (a6_present_nodes_xs z.1) (a6_present_nodes_ys z.1) (a6_present_numerator z.1) (a6_present_order z.1) (a6_present_product z.1) (a6_present_sorted z.1) (a6_present_weights z.1) (z3 x) (z3 y) = some (1, 0, a6_history_count z.1, a6_history_kept_E_count z.1, a6_history_kept_E_degree z.1, a6_history_kept_E_mode z.1, a6_history_kept_E_ws z.1, a6_history_kept_E_xs z.1, a6_history_kept_E_ys z.1, a6_present_denominator z.1, a6_present_nodes_ws z.1, a6_present_numerator z.1, a6_present_order z.1, a6_present_product z.1, a6_present_sorted z.1, a6_present_weights z.1) := by
        unfold mX6_setWeight
        rw [nt]
        rfl
      have m7 : mX7_setWeight (a7_edits z.2.1) (a7_history z.2.1) (a7_s z.2.1) (a7_thrown z.2.1) (z3 x) (z3 y) = some (0, a7_edits z.2.1, a7_history z.2.1, a7_s z.2.1, 1) := by
        unfold mX7_setWeight
        rw [it_n s2 h0 h5 c1 x0 x1, Option.bind_some, iW_y c2 y0 y1]
        rfl
      have E6 : ∃ σ1 o1, h_setWeight z.1 (z3 x) (z3 y) z.2.2.1 = some (1, σ1, o1) ∧ (o1 0 = o1 0) ∧ ((1 : Int32) = 0 → o1 = vp_updL z.2.2.1 0 (0)) ∧ ∀ τ, JZ z.1 τ → JZ σ1 τ := by
        apply Exists.intro
        apply Exists.intro
        refine ⟨?_, rfl, ?_, ?_⟩
        · unfold h_setWeight s6_setWeight
          rw [m6]
          rfl
        · exact fun w => absurd w (by decide)
        · exact fun τ h => h
      have E7 : ∃ v1 τ1, s7_setWeight z.2.1 (z3 x) (z3 y) = some (v1, τ1) ∧ a7_thrown τ1 = 1 ∧ ((1 : Int32) = 0 → (0) = (Int32.toInt64) v1) ∧ ∀ σ, JZ σ z.2.1 → JZ σ τ1 := by
        apply Exists.intro
        apply Exists.intro
        refine ⟨?_, ?_, ?_, ?_⟩
        · unfold s7_setWeight
          rw [m7]
          rfl
        · rfl
        · exact fun w => absurd w (by decide)
        · exact fun σ h => h
      obtain ⟨σ1, o1, e6, -, v6, j6⟩ := E6
      obtain ⟨w1, τ1, e7, t7, v7, j7⟩ := E7
      exact fin1 (Int32.toInt64) e6 e7 t7 (fun w => by rw [v6 w, updL_s]; exact v7 w) (j7 _ (j6 _ h))
    · have m6 : mX6_setWeight (a6_history_count z.1) (a6_history_kept_E_count z.1) (a6_history_kept_E_degree z.1) (a6_history_kept_E_mode z.1) (a6_history_kept_E_ws z.1) (a6_history_kept_E_xs z.1) (a6_history_kept_E_ys z.1) (a6_present_denominator z.1) (a6_present_nodes_count z.1) (a6_present_nodes_degree z.1) (a6_present_nodes_mode z.1) (a6_present_nodes_ws z.1) (a6_present_nodes_xs z.1) (a6_present_nodes_ys z.1) (a6_present_numerator z.1) (a6_present_order z.1) (a6_present_product z.1) (a6_present_sorted z.1) (a6_present_weights z.1) (z3 x) (z3 y) = some (1, 0, a6_history_count z.1, a6_history_kept_E_count z.1, a6_history_kept_E_degree z.1, a6_history_kept_E_mode z.1, a6_history_kept_E_ws z.1, a6_history_kept_E_xs z.1, a6_history_kept_E_ys z.1, a6_present_denominator z.1, a6_present_nodes_ws z.1, a6_present_numerator z.1, a6_present_order z.1, a6_present_product z.1, a6_present_sorted z.1, a6_present_weights z.1) := by
        unfold mX6_setWeight
        rw [nt]
        rfl
      have m7 : mX7_setWeight (a7_edits z.2.1) (a7_history z.2.1) (a7_s z.2.1) (a7_thrown z.2.1) (z3 x) (z3 y) = some (0, a7_edits z.2.1, a7_history z.2.1, a7_s z.2.1, 1) := by
        unfold mX7_setWeight
        rw [it_n s2 h0 h5 c1 x0 x1, Option.bind_some, iW_n c2 y0 y1]
        rfl
      have E6 : ∃ σ1 o1, h_setWeight z.1 (z3 x) (z3 y) z.2.2.1 = some (1, σ1, o1) ∧ (o1 0 = o1 0) ∧ ((1 : Int32) = 0 → o1 = vp_updL z.2.2.1 0 (0)) ∧ ∀ τ, JZ z.1 τ → JZ σ1 τ := by
        apply Exists.intro
        apply Exists.intro
        refine ⟨?_, rfl, ?_, ?_⟩
        · unfold h_setWeight s6_setWeight
          rw [m6]
          rfl
        · exact fun w => absurd w (by decide)
        · exact fun τ h => h
      have E7 : ∃ v1 τ1, s7_setWeight z.2.1 (z3 x) (z3 y) = some (v1, τ1) ∧ a7_thrown τ1 = 1 ∧ ((1 : Int32) = 0 → (0) = (Int32.toInt64) v1) ∧ ∀ σ, JZ σ z.2.1 → JZ σ τ1 := by
        apply Exists.intro
        apply Exists.intro
        refine ⟨?_, ?_, ?_, ?_⟩
        · unfold s7_setWeight
          rw [m7]
          rfl
        · rfl
        · exact fun w => absurd w (by decide)
        · exact fun σ h => h
      obtain ⟨σ1, o1, e6, -, v6, j6⟩ := E6
      obtain ⟨w1, τ1, e7, t7, v7, j7⟩ := E7
      exact fin1 (Int32.toInt64) e6 e7 t7 (fun w => by rw [v6 w, updL_s]; exact v7 w) (j7 _ (j6 _ h))
theorem ok_36 : SOK q_36 := by
  intro u z h
  obtain ⟨a, hO, ⟨⟨hc, hd, hm, hw, hx, hy⟩, ⟨hv, ho, hwt⟩⟩, ⟨s0, s1, s2, tx, ty, tw⟩⟩ := h.1
  have O := hO
  obtain ⟨h0, h5, m0, m1, d0, d1, hr, hry, hrw, hi⟩ := O
  have hbw := hO.bw
  obtain ⟨x, x0, x1, hu⟩ := ex3 (u 1)
  obtain ⟨y, y0, y1, hu2⟩ := ex3 (u 2)
  unfold q_36
  rw [hu, hu2]
  by_cases c1 : 0 ≤ x ∧ x ≤ 2
  · by_cases c2 : 0 ≤ y ∧ y ≤ 4
    · obtain ⟨hc1, kc1, kd1, km1, kw1, kx1, ky1, ed1, hi1, R3, R7, hJ1⟩ := rememb h.2.1 hO ⟨hc, hd, hm, hw, hx, hy⟩ ⟨s0, s1, s2, tx, ty, tw⟩
      have S7 := sets7 (j := 0) (z3 x) (by omega) (by omega) R7
      have S7 : mX7_sets (a7_edits z.2.1) (a7_history z.2.1) (a7_s z.2.1) 0 (z3 x) = some (z3 (zM a), ed1, hi1, upd (a7_s z.2.1) 0 (z3 x)) := by
        rw [← s0]
        exact S7
      by_cases c3 : x = 1
      · have e1 : z3 x = 1 := by rw [c3]; rfl
        have hO9 : OkZ (zC a, x, y, zX a, zY a, zW a) := ⟨h0, h5, c1.1, c1.2, c2.1, c2.2, hr, hry, hrw, hi⟩
        obtain ⟨a9, ea9⟩ : ∃ a9 : AZ, a9 = (zC a, x, y, zX a, zY a, zW a) := ⟨_, rfl⟩
        rw [← ea9] at hO9
        have hN3 : N3 a9 (a6_present_nodes_count z.1) (z3 y) (z3 x) (a6_present_nodes_ws z.1) (a6_present_nodes_xs z.1) (a6_present_nodes_ys z.1) := by
          rw [ea9]
          exact ⟨hc, rfl, rfl, hw, hx, hy⟩
        obtain ⟨s1, es1⟩ : ∃ s1, s1 = upd (upd (a7_s z.2.1) 0 (z3 x)) 1 (z3 y) := ⟨_, rfl⟩
        have hN7 : N7 a9 s1 := by
          rw [ea9, es1]
          exact ⟨rfl, rfl, s2, (tx.o _ (fun k k0 k1 => by omega)).o _ (fun k k0 k1 => by omega), (ty.o _ (fun k k0 k1 => by omega)).o _ (fun k k0 k1 => by omega), (tw.o _ (fun k k0 k1 => by omega)).o _ (fun k k0 k1 => by omega)⟩
        obtain ⟨den1, num1, or1, pr1, so1, wt1, RK, hCv⟩ := reckon3 hO9 hN3 (a6_present_denominator z.1) (a6_present_numerator z.1) (a6_present_order z.1) (a6_present_product z.1) (a6_present_sorted z.1) (a6_present_weights z.1)
        have m6 : mX6_setMode (a6_history_count z.1) (a6_history_kept_E_count z.1) (a6_history_kept_E_degree z.1) (a6_history_kept_E_mode z.1) (a6_history_kept_E_ws z.1) (a6_history_kept_E_xs z.1) (a6_history_kept_E_ys z.1) (a6_present_denominator z.1) (a6_present_nodes_count z.1) (a6_present_nodes_degree z.1) (a6_present_nodes_mode z.1) (a6_present_nodes_ws z.1) (a6_present_nodes_xs z.1) (a6_present_nodes_ys z.1) (a6_present_numerator z.1) (a6_present_order z.1) (a6_present_product z.1) (a6_present_sorted z.1) (a6_present_weights z.1) (z3 x) (z3 y) = some (0, z3 (zM a), hc1, kc1, kd1, km1, kw1, kx1, ky1, den1, z3 y, z3 x, num1, or1, pr1, so1, wt1) := by
          unfold mX6_setMode
          rw [l3_0, l3_2, l3_4, nb_y c1 x0 x1 (by omega) (by omega) (by omega) (by omega), Option.bind_some, if_pos rfl, nb_y c2 y0 y1 (by omega) (by omega) (by omega) (by omega), Option.bind_some, if_pos rfl, R3, Option.bind_some, if_pos e1, RK, hm]
          rfl
        have m7 : mX7_setMode (a7_edits z.2.1) (a7_history z.2.1) (a7_s z.2.1) (a7_thrown z.2.1) (z3 x) (z3 y) = some (z3 (zM a), ed1, hi1, s1, 0) := by
          unfold mX7_setMode
          rw [z364 x0 x1, z364 y0 y1, show (2 : Int64) = z6 2 from rfl, show (4 : Int64) = z6 4 from rfl, show (0 : Int64) = z6 0 from rfl, ii_y c1 x0 x1 (by omega) (by omega) (by omega) (by omega), Option.bind_some, if_neg n10, ii_y c2 y0 y1 (by omega) (by omega) (by omega) (by omega), Option.bind_some, if_neg n10, gd1, Option.bind_some, if_neg n10, S7, Option.bind_some, if_pos e1, es1]
          rfl
        have E6 : ∃ σ1 o1, h_setMode z.1 (z3 x) (z3 y) z.2.2.1 = some (0, σ1, o1) ∧ o1 = vp_updL z.2.2.1 0 (Int32.toInt64 (z3 (zM a))) ∧ ∀ τ1, JH hc1 kc1 km1 kd1 kw1 kx1 ky1 (a7_edits τ1) (a7_history τ1) → N7 a9 (a7_s τ1) → JB (a6_text_filled z.1) (a7_buffered τ1) (a6_text_bytes z.1) (a7_buffer τ1) → (a6_text_faultKind z.1 = a7_errorKind τ1 ∧ a6_text_faultPosition z.1 = a7_errorPosition τ1) → JO (a6_output_count z.1) (a7_outputLength τ1) (a6_output_signs z.1) (a7_output τ1) → JZ σ1 τ1 := by
          apply Exists.intro
          apply Exists.intro
          refine ⟨?_, ?_, ?_⟩
          · unfold h_setMode s6_setMode
            rw [m6]
            rfl
          · rfl
          · exact fun τ1 x1 x2 x3 x4 x5 => ⟨⟨a9, hO9, ⟨hN3, hCv⟩, x2⟩, x1, x3, x4, x5⟩
        have E7 : ∃ v1 τ1, s7_setMode z.2.1 (z3 x) (z3 y) = some (v1, τ1) ∧ a7_thrown τ1 = 0 ∧ (Int32.toInt64 (z3 (zM a))) = (Int32.toInt64) v1 ∧ a7_edits τ1 = ed1 ∧ a7_history τ1 = hi1 ∧ a7_s τ1 = s1 ∧ a7_buffered τ1 = a7_buffered z.2.1 ∧ a7_buffer τ1 = a7_buffer z.2.1 ∧ a7_errorKind τ1 = a7_errorKind z.2.1 ∧ a7_errorPosition τ1 = a7_errorPosition z.2.1 ∧ a7_outputLength τ1 = a7_outputLength z.2.1 ∧ a7_output τ1 = a7_output z.2.1 := by
          apply Exists.intro
          apply Exists.intro
          refine ⟨?_, ?_, ?_, ?_⟩
          · unfold s7_setMode
            rw [m7]
            rfl
          · rfl
          · rfl
          · exact ⟨rfl, rfl, rfl, rfl, rfl, rfl, rfl, rfl, rfl⟩
        obtain ⟨σ1, o1, f6, v6, j6⟩ := E6
        obtain ⟨w1, τ1, f7, t7, v7, i1, i2, i3, i4, i5, i6, i7, i8, i9⟩ := E7
        refine fin1 (Int32.toInt64) f6 f7 t7 (fun _ => by rw [v6, updL_s]; exact v7) (j6 τ1 ?_ ?_ ?_ ?_ ?_)
        · rw [i1, i2]
          exact hJ1
        · rw [i3]
          exact hN7
        · rw [i4, i5]
          exact h.2.2.1
        · rw [i6, i7]
          exact h.2.2.2.1
        · rw [i8, i9]
          exact h.2.2.2.2
      · have e1 : ¬ z3 x = 1 := fun w => c3 ((z3eq (by omega) (by omega) (by omega) (by omega)).1 (Eq.trans w l3_1))
        have hO9 : OkZ (zC a, x, zD a, zX a, zY a, zW a) := ⟨h0, h5, c1.1, c1.2, d0, d1, hr, hry, hrw, hi⟩
        obtain ⟨a9, ea9⟩ : ∃ a9 : AZ, a9 = (zC a, x, zD a, zX a, zY a, zW a) := ⟨_, rfl⟩
        rw [← ea9] at hO9
        have hN3 : N3 a9 (a6_present_nodes_count z.1) (a6_present_nodes_degree z.1) (z3 x) (a6_present_nodes_ws z.1) (a6_present_nodes_xs z.1) (a6_present_nodes_ys z.1) := by
          rw [ea9]
          exact ⟨hc, hd, rfl, hw, hx, hy⟩
        obtain ⟨s1', es1⟩ : ∃ s1', s1' = upd (a7_s z.2.1) 0 (z3 x) := ⟨_, rfl⟩
        have hN7 : N7 a9 s1' := by
          rw [ea9, es1]
          exact ⟨rfl, s1, s2, tx.o _ (fun k k0 k1 => by omega), ty.o _ (fun k k0 k1 => by omega), tw.o _ (fun k k0 k1 => by omega)⟩
        clear s1
        obtain ⟨s1, es2⟩ : ∃ s1, s1 = s1' := ⟨_, rfl⟩
        rw [← es2] at hN7 es1
        obtain ⟨den1, num1, or1, pr1, so1, wt1, RK, hCv⟩ := reckon3 hO9 hN3 (a6_present_denominator z.1) (a6_present_numerator z.1) (a6_present_order z.1) (a6_present_product z.1) (a6_present_sorted z.1) (a6_present_weights z.1)
        have m6 : mX6_setMode (a6_history_count z.1) (a6_history_kept_E_count z.1) (a6_history_kept_E_degree z.1) (a6_history_kept_E_mode z.1) (a6_history_kept_E_ws z.1) (a6_history_kept_E_xs z.1) (a6_history_kept_E_ys z.1) (a6_present_denominator z.1) (a6_present_nodes_count z.1) (a6_present_nodes_degree z.1) (a6_present_nodes_mode z.1) (a6_present_nodes_ws z.1) (a6_present_nodes_xs z.1) (a6_present_nodes_ys z.1) (a6_present_numerator z.1) (a6_present_order z.1) (a6_present_product z.1) (a6_present_sorted z.1) (a6_present_weights z.1) (z3 x) (z3 y) = some (0, z3 (zM a), hc1, kc1, kd1, km1, kw1, kx1, ky1, den1, a6_present_nodes_degree z.1, z3 x, num1, or1, pr1, so1, wt1) := by
          unfold mX6_setMode
          rw [l3_0, l3_2, l3_4, nb_y c1 x0 x1 (by omega) (by omega) (by omega) (by omega), Option.bind_some, if_pos rfl, nb_y c2 y0 y1 (by omega) (by omega) (by omega) (by omega), Option.bind_some, if_pos rfl, R3, Option.bind_some, if_neg e1, RK, hm]
          rfl
        have m7 : mX7_setMode (a7_edits z.2.1) (a7_history z.2.1) (a7_s z.2.1) (a7_thrown z.2.1) (z3 x) (z3 y) = some (z3 (zM a), ed1, hi1, s1, 0) := by
          unfold mX7_setMode
          rw [z364 x0 x1, z364 y0 y1, show (2 : Int64) = z6 2 from rfl, show (4 : Int64) = z6 4 from rfl, show (0 : Int64) = z6 0 from rfl, ii_y c1 x0 x1 (by omega) (by omega) (by omega) (by omega), Option.bind_some, if_neg n10, ii_y c2 y0 y1 (by omega) (by omega) (by omega) (by omega), Option.bind_some, if_neg n10, gd1, Option.bind_some, if_neg n10, S7, Option.bind_some, if_neg e1, es1]
        have E6 : ∃ σ1 o1, h_setMode z.1 (z3 x) (z3 y) z.2.2.1 = some (0, σ1, o1) ∧ o1 = vp_updL z.2.2.1 0 (Int32.toInt64 (z3 (zM a))) ∧ ∀ τ1, JH hc1 kc1 km1 kd1 kw1 kx1 ky1 (a7_edits τ1) (a7_history τ1) → N7 a9 (a7_s τ1) → JB (a6_text_filled z.1) (a7_buffered τ1) (a6_text_bytes z.1) (a7_buffer τ1) → (a6_text_faultKind z.1 = a7_errorKind τ1 ∧ a6_text_faultPosition z.1 = a7_errorPosition τ1) → JO (a6_output_count z.1) (a7_outputLength τ1) (a6_output_signs z.1) (a7_output τ1) → JZ σ1 τ1 := by
          apply Exists.intro
          apply Exists.intro
          refine ⟨?_, ?_, ?_⟩
          · unfold h_setMode s6_setMode
            rw [m6]
            rfl
          · rfl
          · exact fun τ1 x1 x2 x3 x4 x5 => ⟨⟨a9, hO9, ⟨hN3, hCv⟩, x2⟩, x1, x3, x4, x5⟩
        have E7 : ∃ v1 τ1, s7_setMode z.2.1 (z3 x) (z3 y) = some (v1, τ1) ∧ a7_thrown τ1 = 0 ∧ (Int32.toInt64 (z3 (zM a))) = (Int32.toInt64) v1 ∧ a7_edits τ1 = ed1 ∧ a7_history τ1 = hi1 ∧ a7_s τ1 = s1 ∧ a7_buffered τ1 = a7_buffered z.2.1 ∧ a7_buffer τ1 = a7_buffer z.2.1 ∧ a7_errorKind τ1 = a7_errorKind z.2.1 ∧ a7_errorPosition τ1 = a7_errorPosition z.2.1 ∧ a7_outputLength τ1 = a7_outputLength z.2.1 ∧ a7_output τ1 = a7_output z.2.1 := by
          apply Exists.intro
          apply Exists.intro
          refine ⟨?_, ?_, ?_, ?_⟩
          · unfold s7_setMode
            rw [m7]
            rfl
          · rfl
          · rfl
          · exact ⟨rfl, rfl, rfl, rfl, rfl, rfl, rfl, rfl, rfl⟩
        obtain ⟨σ1, o1, f6, v6, j6⟩ := E6
        obtain ⟨w1, τ1, f7, t7, v7, i1, i2, i3, i4, i5, i6, i7, i8, i9⟩ := E7
        refine fin1 (Int32.toInt64) f6 f7 t7 (fun _ => by rw [v6, updL_s]; exact v7) (j6 τ1 ?_ ?_ ?_ ?_ ?_)
        · rw [i1, i2]
          exact hJ1
        · rw [i3]
          exact hN7
        · rw [i4, i5]
          exact h.2.2.1
        · rw [i6, i7]
          exact h.2.2.2.1
        · rw [i8, i9]
          exact h.2.2.2.2
    · have m6 : mX6_setMode (a6_history_count z.1) (a6_history_kept_E_count z.1) (a6_history_kept_E_degree z.1) (a6_history_kept_E_mode z.1) (a6_history_kept_E_ws z.1) (a6_history_kept_E_xs z.1) (a6_history_kept_E_ys z.1) (a6_present_denominator z.1) (a6_present_nodes_count z.1) (a6_present_nodes_degree z.1) (a6_present_nodes_mode z.1) (a6_present_nodes_ws z.1) (a6_present_nodes_xs z.1) (a6_present_nodes_ys z.1) (a6_present_numerator z.1) (a6_present_order z.1) (a6_present_product z.1) (a6_present_sorted z.1) (a6_present_weights z.1) (z3 x) (z3 y) = some (2, 0, a6_history_count z.1, a6_history_kept_E_count z.1, a6_history_kept_E_degree z.1, a6_history_kept_E_mode z.1, a6_history_kept_E_ws z.1, a6_history_kept_E_xs z.1, a6_history_kept_E_ys z.1, a6_present_denominator z.1, a6_present_nodes_degree z.1, a6_present_nodes_mode z.1, a6_present_numerator z.1, a6_present_order z.1, a6_present_product z.1, a6_present_sorted z.1, a6_present_weights z.1) := by
        unfold mX6_setMode
        rw [l3_0, l3_2, l3_4, nb_y c1 x0 x1 (by omega) (by omega) (by omega) (by omega), Option.bind_some, if_pos rfl, nb_n c2 y0 y1 (by omega) (by omega) (by omega) (by omega)]
        rfl
      have m7 : mX7_setMode (a7_edits z.2.1) (a7_history z.2.1) (a7_s z.2.1) (a7_thrown z.2.1) (z3 x) (z3 y) = some (0, a7_edits z.2.1, a7_history z.2.1, a7_s z.2.1, 1) := by
        unfold mX7_setMode
        rw [z364 x0 x1, z364 y0 y1, show (2 : Int64) = z6 2 from rfl, show (4 : Int64) = z6 4 from rfl, show (0 : Int64) = z6 0 from rfl, ii_y c1 x0 x1 (by omega) (by omega) (by omega) (by omega), Option.bind_some, if_neg n10, ii_n c2 y0 y1 (by omega) (by omega) (by omega) (by omega)]
        rfl
      have E6 : ∃ σ1 o1, h_setMode z.1 (z3 x) (z3 y) z.2.2.1 = some (1, σ1, o1) ∧ (o1 0 = o1 0) ∧ ((1 : Int32) = 0 → o1 = vp_updL z.2.2.1 0 (0)) ∧ ∀ τ, JZ z.1 τ → JZ σ1 τ := by
        apply Exists.intro
        apply Exists.intro
        refine ⟨?_, rfl, ?_, ?_⟩
        · unfold h_setMode s6_setMode
          rw [m6]
          rfl
        · exact fun w => absurd w (by decide)
        · exact fun τ h => h
      have E7 : ∃ v1 τ1, s7_setMode z.2.1 (z3 x) (z3 y) = some (v1, τ1) ∧ a7_thrown τ1 = 1 ∧ ((1 : Int32) = 0 → (0) = (Int32.toInt64) v1) ∧ ∀ σ, JZ σ z.2.1 → JZ σ τ1 := by
        apply Exists.intro
        apply Exists.intro
        refine ⟨?_, ?_, ?_, ?_⟩
        · unfold s7_setMode
          rw [m7]
          rfl
        · rfl
        · exact fun w => absurd w (by decide)
        · exact fun σ h => h
      obtain ⟨σ1, o1, e6, -, v6, j6⟩ := E6
      obtain ⟨w1, τ1, e7, t7, v7, j7⟩ := E7
      exact fin1 (Int32.toInt64) e6 e7 t7 (fun w => by rw [v6 w, updL_s]; exact v7 w) (j7 _ (j6 _ h))
  · have m6 : mX6_setMode (a6_history_count z.1) (a6_history_kept_E_count z.1) (a6_history_kept_E_degree z.1) (a6_history_kept_E_mode z.1) (a6_history_kept_E_ws z.1) (a6_history_kept_E_xs z.1) (a6_history_kept_E_ys z.1) (a6_present_denominator z.1) (a6_present_nodes_count z.1) (a6_present_nodes_degree z.1) (a6_present_nodes_mode z.1) (a6_present_nodes_ws z.1) (a6_present_nodes_xs z.1) (a6_present_nodes_ys z.1) (a6_present_numerator z.1) (a6_present_order z.1) (a6_present_product z.1) (a6_present_sorted z.1) (a6_present_weights z.1) (z3 x) (z3 y) = some (2, 0, a6_history_count z.1, a6_history_kept_E_count z.1, a6_history_kept_E_degree z.1, a6_history_kept_E_mode z.1, a6_history_kept_E_ws z.1, a6_history_kept_E_xs z.1, a6_history_kept_E_ys z.1, a6_present_denominator z.1, a6_present_nodes_degree z.1, a6_present_nodes_mode z.1, a6_present_numerator z.1, a6_present_order z.1, a6_present_product z.1, a6_present_sorted z.1, a6_present_weights z.1) := by
      unfold mX6_setMode
      rw [l3_0, l3_2, nb_n c1 x0 x1 (by omega) (by omega) (by omega) (by omega)]
      rfl
    have m7 : mX7_setMode (a7_edits z.2.1) (a7_history z.2.1) (a7_s z.2.1) (a7_thrown z.2.1) (z3 x) (z3 y) = some (0, a7_edits z.2.1, a7_history z.2.1, a7_s z.2.1, 1) := by
      unfold mX7_setMode
      rw [z364 x0 x1, show (2 : Int64) = z6 2 from rfl, show (0 : Int64) = z6 0 from rfl, ii_n c1 x0 x1 (by omega) (by omega) (by omega) (by omega)]
      rfl
    have E6 : ∃ σ1 o1, h_setMode z.1 (z3 x) (z3 y) z.2.2.1 = some (1, σ1, o1) ∧ (o1 0 = o1 0) ∧ ((1 : Int32) = 0 → o1 = vp_updL z.2.2.1 0 (0)) ∧ ∀ τ, JZ z.1 τ → JZ σ1 τ := by
      apply Exists.intro
      apply Exists.intro
      refine ⟨?_, rfl, ?_, ?_⟩
      · unfold h_setMode s6_setMode
        rw [m6]
        rfl
      · exact fun w => absurd w (by decide)
      · exact fun τ h => h
    have E7 : ∃ v1 τ1, s7_setMode z.2.1 (z3 x) (z3 y) = some (v1, τ1) ∧ a7_thrown τ1 = 1 ∧ ((1 : Int32) = 0 → (0) = (Int32.toInt64) v1) ∧ ∀ σ, JZ σ z.2.1 → JZ σ τ1 := by
      apply Exists.intro
      apply Exists.intro
      refine ⟨?_, ?_, ?_, ?_⟩
      · unfold s7_setMode
        rw [m7]
        rfl
      · rfl
      · exact fun w => absurd w (by decide)
      · exact fun σ h => h
    obtain ⟨σ1, o1, e6, -, v6, j6⟩ := E6
    obtain ⟨w1, τ1, e7, t7, v7, j7⟩ := E7
    exact fin1 (Int32.toInt64) e6 e7 t7 (fun w => by rw [v6 w, updL_s]; exact v7 w) (j7 _ (j6 _ h))
